/-! THE CLASS: copies, clauses that are added -/
section CP
variable {d : Nat} {x : XX} {Q : Int32 → XX → Prop} {s : Row} {k : Nat}
theorem cp_off {y z : XX} {a b : Nat} {f : Nat → Int32} (hz : z = setR y a f) (hb : b ≠ a) : z b = y b := by rw [hz]; exact setR_off hb
theorem cp_on {y z : XX} {a o n j : Nat} (hz : z = setR y a (fun j => if j < n then y o j else y a j)) (hj : j < n) : z a j = y o j := by
  rw [hz, setR_on]
  simp [hj]
/-- Clauses.copyFrom -/
theorem k_clCopy {c o : Nat} (hc : IsCl c) (ho : IsCl o) (hdis : c + 10 ≤ o ∨ o + 10 ≤ c) (hW : WF s) (hR : RC x o s) (h : ∀ y : XX, (∀ a, (a < c ∨ c + 10 ≤ a) → y a = x a) → RC y c s → Q 0 y) : Call mX1_copyFrom (d + 1) [.inr c, .inr o] x Q := by
  have hn := hW.1
  have h19 : x o 0 = nI (nC s) := by rw [hR.1]; exact hW.2.1
  refine call_of_go ok_X1_copyFrom.1 (Nat.le_of_ble_eq_true rfl) rfl (g_X1_copyFrom_0 hc ho ?_)
  intro y0 e0
  have z1 : y0 c 0 = nI (nC s) := by
    rw [e0]
    simp only [up2, and_self, if_true]
    exact h19
  refine ⟨nC s, hn, z1, ?_⟩
  intro y1 e1
  have z2 : y1 c 0 = nI (nC s) := by
    rw [cp_off e1 (show c ≠ c + 1 by omega), e0]
    simp only [up2, and_self, if_true]
    exact h19
  refine ⟨nC s, hn, z2, ?_⟩
  intro y2 e2
  have z3 : y2 c 0 = nI (nC s) := by
    rw [cp_off e2 (show c ≠ c + 2 by omega), cp_off e1 (show c ≠ c + 1 by omega), e0]
    simp only [up2, and_self, if_true]
    exact h19
  refine ⟨nC s, hn, z3, ?_⟩
  intro y3 e3
  have z4 : y3 c 0 = nI (nC s) := by
    rw [cp_off e3 (show c ≠ c + 3 by omega), cp_off e2 (show c ≠ c + 2 by omega), cp_off e1 (show c ≠ c + 1 by omega), e0]
    simp only [up2, and_self, if_true]
    exact h19
  refine ⟨nC s, hn, z4, ?_⟩
  intro y4 e4
  have z5 : y4 c 0 = nI (nC s) := by
    rw [cp_off e4 (show c ≠ c + 4 by omega), cp_off e3 (show c ≠ c + 3 by omega), cp_off e2 (show c ≠ c + 2 by omega), cp_off e1 (show c ≠ c + 1 by omega), e0]
    simp only [up2, and_self, if_true]
    exact h19
  refine ⟨nC s, hn, z5, ?_⟩
  intro y5 e5
  have z6 : y5 c 0 = nI (nC s) := by
    rw [cp_off e5 (show c ≠ c + 5 by omega), cp_off e4 (show c ≠ c + 4 by omega), cp_off e3 (show c ≠ c + 3 by omega), cp_off e2 (show c ≠ c + 2 by omega), cp_off e1 (show c ≠ c + 1 by omega), e0]
    simp only [up2, and_self, if_true]
    exact h19
  refine ⟨nC s, hn, z6, ?_⟩
  intro y6 e6
  have z7 : y6 c 0 = nI (nC s) := by
    rw [cp_off e6 (show c ≠ c + 6 by omega), cp_off e5 (show c ≠ c + 5 by omega), cp_off e4 (show c ≠ c + 4 by omega), cp_off e3 (show c ≠ c + 3 by omega), cp_off e2 (show c ≠ c + 2 by omega), cp_off e1 (show c ≠ c + 1 by omega), e0]
    simp only [up2, and_self, if_true]
    exact h19
  refine ⟨nC s, hn, z7, ?_⟩
  intro y7 e7
  have z8 : y7 c 0 = nI (nC s) := by
    rw [cp_off e7 (show c ≠ c + 7 by omega), cp_off e6 (show c ≠ c + 6 by omega), cp_off e5 (show c ≠ c + 5 by omega), cp_off e4 (show c ≠ c + 4 by omega), cp_off e3 (show c ≠ c + 3 by omega), cp_off e2 (show c ≠ c + 2 by omega), cp_off e1 (show c ≠ c + 1 by omega), e0]
    simp only [up2, and_self, if_true]
    exact h19
  refine ⟨3 * nC s, by omega, by rw [z8, show (3 : Int32) = nI 3 from rfl, pk_mul, Nat.mul_comm], ?_⟩
  intro y8 e8
  have z9 : y8 c 0 = nI (nC s) := by
    rw [cp_off e8 (show c ≠ c + 8 by omega), cp_off e7 (show c ≠ c + 7 by omega), cp_off e6 (show c ≠ c + 6 by omega), cp_off e5 (show c ≠ c + 5 by omega), cp_off e4 (show c ≠ c + 4 by omega), cp_off e3 (show c ≠ c + 3 by omega), cp_off e2 (show c ≠ c + 2 by omega), cp_off e1 (show c ≠ c + 1 by omega), e0]
    simp only [up2, and_self, if_true]
    exact h19
  refine ⟨3 * nC s, by omega, by rw [z9, show (3 : Int32) = nI 3 from rfl, pk_mul, Nat.mul_comm], ?_⟩
  intro y9 e9
  refine h y9 (fun a ha => ?_) ⟨?_, fun k hk => ⟨⟨?_, ?_, ?_, ?_, ?_, ?_, ?_⟩, fun e he => ⟨?_, ?_⟩⟩⟩
  · rw [cp_off e9 (show a ≠ c + 9 by omega), cp_off e8 (show a ≠ c + 8 by omega), cp_off e7 (show a ≠ c + 7 by omega), cp_off e6 (show a ≠ c + 6 by omega), cp_off e5 (show a ≠ c + 5 by omega), cp_off e4 (show a ≠ c + 4 by omega), cp_off e3 (show a ≠ c + 3 by omega), cp_off e2 (show a ≠ c + 2 by omega), cp_off e1 (show a ≠ c + 1 by omega), e0]
    exact up2_off (show a ≠ c by omega)
  · rw [cp_off e9 (show c ≠ c + 9 by omega), cp_off e8 (show c ≠ c + 8 by omega), cp_off e7 (show c ≠ c + 7 by omega), cp_off e6 (show c ≠ c + 6 by omega), cp_off e5 (show c ≠ c + 5 by omega), cp_off e4 (show c ≠ c + 4 by omega), cp_off e3 (show c ≠ c + 3 by omega), cp_off e2 (show c ≠ c + 2 by omega), cp_off e1 (show c ≠ c + 1 by omega), e0]
    simp only [up2, and_self, if_true]
    exact hR.1
  · rw [cp_off e9 (show c + 1 ≠ c + 9 by omega), cp_off e8 (show c + 1 ≠ c + 8 by omega), cp_off e7 (show c + 1 ≠ c + 7 by omega), cp_off e6 (show c + 1 ≠ c + 6 by omega), cp_off e5 (show c + 1 ≠ c + 5 by omega), cp_off e4 (show c + 1 ≠ c + 4 by omega), cp_off e3 (show c + 1 ≠ c + 3 by omega), cp_off e2 (show c + 1 ≠ c + 2 by omega)]
    rw [cp_on e1 hk, e0, up2_off (show o + 1 ≠ c by omega)]
    exact (hR.2 k hk).1.1
  · rw [cp_off e9 (show c + 2 ≠ c + 9 by omega), cp_off e8 (show c + 2 ≠ c + 8 by omega), cp_off e7 (show c + 2 ≠ c + 7 by omega), cp_off e6 (show c + 2 ≠ c + 6 by omega), cp_off e5 (show c + 2 ≠ c + 5 by omega), cp_off e4 (show c + 2 ≠ c + 4 by omega), cp_off e3 (show c + 2 ≠ c + 3 by omega)]
    rw [cp_on e2 hk, cp_off e1 (show o + 2 ≠ c + 1 by omega), e0, up2_off (show o + 2 ≠ c by omega)]
    exact (hR.2 k hk).1.2.1
  · rw [cp_off e9 (show c + 3 ≠ c + 9 by omega), cp_off e8 (show c + 3 ≠ c + 8 by omega), cp_off e7 (show c + 3 ≠ c + 7 by omega), cp_off e6 (show c + 3 ≠ c + 6 by omega), cp_off e5 (show c + 3 ≠ c + 5 by omega), cp_off e4 (show c + 3 ≠ c + 4 by omega)]
    rw [cp_on e3 hk, cp_off e2 (show o + 3 ≠ c + 2 by omega), cp_off e1 (show o + 3 ≠ c + 1 by omega), e0, up2_off (show o + 3 ≠ c by omega)]
    exact (hR.2 k hk).1.2.2.1
  · rw [cp_off e9 (show c + 4 ≠ c + 9 by omega), cp_off e8 (show c + 4 ≠ c + 8 by omega), cp_off e7 (show c + 4 ≠ c + 7 by omega), cp_off e6 (show c + 4 ≠ c + 6 by omega), cp_off e5 (show c + 4 ≠ c + 5 by omega)]
    rw [cp_on e4 hk, cp_off e3 (show o + 4 ≠ c + 3 by omega), cp_off e2 (show o + 4 ≠ c + 2 by omega), cp_off e1 (show o + 4 ≠ c + 1 by omega), e0, up2_off (show o + 4 ≠ c by omega)]
    exact (hR.2 k hk).1.2.2.2.1
  · rw [cp_off e9 (show c + 5 ≠ c + 9 by omega), cp_off e8 (show c + 5 ≠ c + 8 by omega), cp_off e7 (show c + 5 ≠ c + 7 by omega), cp_off e6 (show c + 5 ≠ c + 6 by omega)]
    rw [cp_on e5 hk, cp_off e4 (show o + 5 ≠ c + 4 by omega), cp_off e3 (show o + 5 ≠ c + 3 by omega), cp_off e2 (show o + 5 ≠ c + 2 by omega), cp_off e1 (show o + 5 ≠ c + 1 by omega), e0, up2_off (show o + 5 ≠ c by omega)]
    exact (hR.2 k hk).1.2.2.2.2.1
  · rw [cp_off e9 (show c + 6 ≠ c + 9 by omega), cp_off e8 (show c + 6 ≠ c + 8 by omega), cp_off e7 (show c + 6 ≠ c + 7 by omega)]
    rw [cp_on e6 hk, cp_off e5 (show o + 6 ≠ c + 5 by omega), cp_off e4 (show o + 6 ≠ c + 4 by omega), cp_off e3 (show o + 6 ≠ c + 3 by omega), cp_off e2 (show o + 6 ≠ c + 2 by omega), cp_off e1 (show o + 6 ≠ c + 1 by omega), e0, up2_off (show o + 6 ≠ c by omega)]
    exact (hR.2 k hk).1.2.2.2.2.2.1
  · rw [cp_off e9 (show c + 7 ≠ c + 9 by omega), cp_off e8 (show c + 7 ≠ c + 8 by omega)]
    rw [cp_on e7 hk, cp_off e6 (show o + 7 ≠ c + 6 by omega), cp_off e5 (show o + 7 ≠ c + 5 by omega), cp_off e4 (show o + 7 ≠ c + 4 by omega), cp_off e3 (show o + 7 ≠ c + 3 by omega), cp_off e2 (show o + 7 ≠ c + 2 by omega), cp_off e1 (show o + 7 ≠ c + 1 by omega), e0, up2_off (show o + 7 ≠ c by omega)]
    exact (hR.2 k hk).1.2.2.2.2.2.2
  · rw [cp_off e9 (show c + 8 ≠ c + 9 by omega)]
    rw [cp_on e8 (show 3 * k + e < 3 * nC s by have := (hW.2.2.2.1 k hk).2.2.1; omega), cp_off e7 (show o + 8 ≠ c + 7 by omega), cp_off e6 (show o + 8 ≠ c + 6 by omega), cp_off e5 (show o + 8 ≠ c + 5 by omega), cp_off e4 (show o + 8 ≠ c + 4 by omega), cp_off e3 (show o + 8 ≠ c + 3 by omega), cp_off e2 (show o + 8 ≠ c + 2 by omega), cp_off e1 (show o + 8 ≠ c + 1 by omega), e0, up2_off (show o + 8 ≠ c by omega)]
    exact ((hR.2 k hk).2 e he).1
  · skip
    rw [cp_on e9 (show 3 * k + e < 3 * nC s by have := (hW.2.2.2.1 k hk).2.2.1; omega), cp_off e8 (show o + 9 ≠ c + 8 by omega), cp_off e7 (show o + 9 ≠ c + 7 by omega), cp_off e6 (show o + 9 ≠ c + 6 by omega), cp_off e5 (show o + 9 ≠ c + 5 by omega), cp_off e4 (show o + 9 ≠ c + 4 by omega), cp_off e3 (show o + 9 ≠ c + 3 by omega), cp_off e2 (show o + 9 ≠ c + 2 by omega), cp_off e1 (show o + 9 ≠ c + 1 by omega), e0, up2_off (show o + 9 ≠ c by omega)]
    exact ((hR.2 k hk).2 e he).2
/-- Book.copyFrom -/
theorem k_bkCopy {b o : Nat} (hb : IsBk b) (ho : IsBk o) (hdis : b + 14 ≤ o ∨ o + 14 ≤ b) (hW : WF s) (hR : RB x o s) (h : ∀ y : XX, (∀ a, (a < b ∨ b + 14 ≤ a) → y a = x a) → RB y b s → Q 0 y) : Call mX0_copyFrom (d + 2) [.inr b, .inr o] x Q := by
  refine call_of_go ok_X0_copyFrom.1 (Nat.le_of_ble_eq_true rfl) rfl (g_X0_copyFrom_0 hb ho ?_)
  intro y0 e0 y1 e1 y2 e2 y3 e3
  have off : ∀ a, (a < b ∨ b + 4 ≤ a) → y3 a = x a := fun a ha => by
    rw [cp_off e3 (show a ≠ b + 3 by omega), cp_off e2 (show a ≠ b + 2 by omega), cp_off e1 (show a ≠ b + 1 by omega), e0]
    exact up2_off (show a ≠ b by omega)
  refine k_clCopy (c := b + 4) (o := o + 4) hb.2.2.2.2 ho.2.2.2.2 (by omega) hW (hR.2.2.same (fun a h1 h2 => off a (by omega))) (fun y hy hC => h y (fun a ha => by rw [hy a (by omega)]; exact off a (by omega)) ⟨?_, fun c hc => ⟨?_, ?_, ?_⟩, hC⟩)
  · rw [hy b (by omega), cp_off e3 (show b ≠ b + 3 by omega), cp_off e2 (show b ≠ b + 2 by omega), cp_off e1 (show b ≠ b + 1 by omega), e0]
    simp only [up2, and_self, if_true]
    exact hR.1
  · rw [hy (b + 1) (by omega), cp_off e3 (show b + 1 ≠ b + 3 by omega), cp_off e2 (show b + 1 ≠ b + 2 by omega), cp_on e1 hc, e0, up2_off (show o + 1 ≠ b by omega)]
    exact (hR.2.1 c hc).1
  · rw [hy (b + 2) (by omega), cp_off e3 (show b + 2 ≠ b + 3 by omega), cp_on e2 hc, cp_off e1 (show o + 2 ≠ b + 1 by omega), e0, up2_off (show o + 2 ≠ b by omega)]
    exact (hR.2.1 c hc).2.1
  · rw [hy (b + 3) (by omega), cp_on e3 hc, cp_off e2 (show o + 3 ≠ b + 2 by omega), cp_off e1 (show o + 3 ≠ b + 1 by omega), e0, up2_off (show o + 3 ≠ b by omega)]
    exact (hR.2.1 c hc).2.2
/-- a row with one clause more -/
def wrS (s : Row) (c d f t v : Int32) : Row := fun i => if i = 19 then nI (nC s + 1) else if i = 20 + 13 * nC s then c else if i = 21 + 13 * nC s then d else if i = 22 + 13 * nC s then 1000 else if i = 23 + 13 * nC s then f else if i = 24 + 13 * nC s then t else if i = 25 + 13 * nC s then v else if i = 26 + 13 * nC s then 0 else s i
/-- a row with one exception more -/
def exS (s : Row) (k : Nat) (f t : Int32) : Row := fun i => if i = 27 + 13 * k + 2 * nE s k then f else if i = 28 + 13 * k + 2 * nE s k then t else if i = 26 + 13 * k then nI (nE s k + 1) else s i
theorem nC_wrS {c d f t v : Int32} (h : nC s < 2 ^ 31 - 1) : nC (wrS s c d f t v) = nC s + 1 := by
  show (wrS s c d f t v 19).toNatClampNeg = nC s + 1
  simp only [wrS, if_true]
  exact nI_clamp (by omega)
theorem cc_wrS_lo {c d f t v : Int32} {j : Nat} (hk : k < nC s) (hj : j < 13) : cc (wrS s c d f t v) k j = cc s k j := by
  unfold cc wrS
  rw [if_neg (by omega), if_neg (by omega), if_neg (by omega), if_neg (by omega), if_neg (by omega), if_neg (by omega), if_neg (by omega), if_neg (by omega)]
theorem cc_wrS_on {c d f t v : Int32} : cc (wrS s c d f t v) (nC s) 0 = c ∧ cc (wrS s c d f t v) (nC s) 1 = d ∧ cc (wrS s c d f t v) (nC s) 2 = 1000 ∧ cc (wrS s c d f t v) (nC s) 3 = f ∧ cc (wrS s c d f t v) (nC s) 4 = t ∧ cc (wrS s c d f t v) (nC s) 5 = v ∧ cc (wrS s c d f t v) (nC s) 6 = 0 := by
  unfold cc wrS
  refine ⟨?_, ?_, ?_, ?_, ?_, ?_, ?_⟩
  · rw [if_neg (by omega), if_pos (by omega)]
  · rw [if_neg (by omega), if_neg (by omega), if_pos (by omega)]
  · rw [if_neg (by omega), if_neg (by omega), if_neg (by omega), if_pos (by omega)]
  · rw [if_neg (by omega), if_neg (by omega), if_neg (by omega), if_neg (by omega), if_pos (by omega)]
  · rw [if_neg (by omega), if_neg (by omega), if_neg (by omega), if_neg (by omega), if_neg (by omega), if_pos (by omega)]
  · rw [if_neg (by omega), if_neg (by omega), if_neg (by omega), if_neg (by omega), if_neg (by omega), if_neg (by omega), if_pos (by omega)]
  · rw [if_neg (by omega), if_neg (by omega), if_neg (by omega), if_neg (by omega), if_neg (by omega), if_neg (by omega), if_neg (by omega), if_pos (by omega)]
theorem wrS_lo {c d f t v : Int32} {i : Nat} (hi : i < 19) : wrS s c d f t v i = s i := by
  unfold wrS
  rw [if_neg (by omega), if_neg (by omega), if_neg (by omega), if_neg (by omega), if_neg (by omega), if_neg (by omega), if_neg (by omega), if_neg (by omega)]
theorem nE_wrS {c d f t v : Int32} (hk : k < nC s) : nE (wrS s c d f t v) k = nE s k := by
  unfold nE
  rw [cc_wrS_lo hk (by omega)]
theorem nE_wrS_on {c d f t v : Int32} : nE (wrS s c d f t v) (nC s) = 0 := by
  unfold nE
  rw [cc_wrS_on.2.2.2.2.2.2]
  rfl
theorem wf_wrS {c d f t v : Int32} (hW : WF s) (hn : nC s < 30) (hc : isN 6 c = true) (hd : isN 1000 d = true) (hf : isN 100 f = true) (ht : isN 100 t = true) : WF (wrS s c d f t v) := by
  have e := nC_wrS (s := s) (c := c) (d := d) (f := f) (t := t) (v := v) (by omega)
  obtain ⟨w1, w2, w3, w4, w5, w6⟩ := hW
  refine ⟨by rw [e]; omega, by rw [e]; simp [wrS], by rw [wrS_lo (by omega)]; exact w3, fun k hk => ?_, fun c hc => ?_, fun c hc b hb => ?_⟩
  · rw [e] at hk
    by_cases q : k < nC s
    · have w := w4 k q
      unfold chO
      rw [nE_wrS q, cc_wrS_lo q (by omega), cc_wrS_lo q (by omega), cc_wrS_lo q (by omega), cc_wrS_lo q (by omega), cc_wrS_lo q (by omega), cc_wrS_lo q (by omega)]
      exact w
    · have q2 : k = nC s := by omega
      subst q2
      have r := cc_wrS_on (s := s) (c := c) (d := d) (f := f) (t := t) (v := v)
      obtain ⟨j, hj, rfl⟩ := isN_t hc
      simp only [isN, Bool.and_eq_true, decide_eq_true_eq] at hd hf ht
      unfold chO
      rw [nE_wrS_on, r.1, r.2.1, r.2.2.1, r.2.2.2.1, r.2.2.2.2.1, r.2.2.2.2.2.2, nI_clamp (by omega)]
      refine ⟨hj, rfl, by omega, rfl, hd, ⟨?_, by decide⟩, hf, ht⟩
      rw [show (1000 : Int32).toInt = 1000 from rfl]
      omega
  · rw [wrS_lo (by omega), wrS_lo (by omega), wrS_lo (by omega)]
    exact w5 c hc
  · rw [wrS_lo (by omega), wrS_lo (by omega)]
    exact w6 c hc b hb
theorem k_has {c : Nat} {p : Int32} (hW : WF s) (hc : IsCl c) (hR : RC x c s) (h : Q (bI (isN (nC s) p)) x) : Call mX1_has (d + 1) [.inr c, .inl p] x Q := by
  refine call_of_go ok_X1_has.1 (Nat.le_of_ble_eq_true rfl) rfl (g_X1_has_0 hc (k_isBelow ⟨bI_01 _, ?_⟩))
  rw [hR.1, hW.2.1, nI_toInt hW.n31]
  exact h
theorem k_add {c : Nat} {p1 p2 p3 p4 p5 : Int32} (hW : WF s) (hc : IsCl c) (hR : RC x c s) (hn : nC s < 30) (h : ∀ y : XX, (∀ a, (a < c ∨ c + 10 ≤ a) → y a = x a) → RC y c (wrS s p1 p2 p3 p4 p5) → Q (nI (nC s)) y) : Call mX1_add d [.inr c, .inl p1, .inl p2, .inl p3, .inl p4, .inl p5] x Q := by
  have h19 : x c 0 = nI (nC s) := by rw [hR.1]; exact hW.2.1
  refine call_of_go ok_X1_add.1 (Nat.le_of_ble_eq_true rfl) rfl (g_X1_add_0 hc ⟨fun _ => ?_, fun q => absurd (by rw [h19]; exact nI_lt hn (by decide)) q⟩)
  intro y0 e0
  refine ⟨nC s, hn, h19, ?_⟩
  intro y1 e1
  refine ⟨nC s, hn, h19, ?_⟩
  intro y2 e2
  refine ⟨nC s, hn, h19, ?_⟩
  intro y3 e3
  refine ⟨nC s, hn, h19, ?_⟩
  intro y4 e4
  refine ⟨nC s, hn, h19, ?_⟩
  intro y5 e5
  refine ⟨nC s, hn, h19, ?_⟩
  intro y6 e6
  refine ⟨nC s, hn, h19, ?_⟩
  intro y7 e7
  rw [h19]
  have hE := nC_wrS (s := s) (c := p1) (d := p2) (f := p3) (t := p4) (v := p5) (by omega)
  refine h y7 (fun a ha => ?_) ⟨?_, fun k hk => ?_⟩
  · rw [e7, up2_off (show a ≠ c + 7 by omega), e6, up2_off (show a ≠ c + 6 by omega), e5, up2_off (show a ≠ c + 5 by omega), e4, up2_off (show a ≠ c + 4 by omega), e3, up2_off (show a ≠ c + 3 by omega), e2, up2_off (show a ≠ c + 2 by omega), e1, up2_off (show a ≠ c + 1 by omega), e0, up2_off (show a ≠ c by omega)]
  · rw [e7, up2_off (show c ≠ c + 7 by omega), e6, up2_off (show c ≠ c + 6 by omega), e5, up2_off (show c ≠ c + 5 by omega), e4, up2_off (show c ≠ c + 4 by omega), e3, up2_off (show c ≠ c + 3 by omega), e2, up2_off (show c ≠ c + 2 by omega), e1, up2_off (show c ≠ c + 1 by omega), e0]
    simp only [up2, and_self, if_true]
    rw [h19, nI_1]
    simp [wrS]
  · rw [hE] at hk
    have r1 : ∀ j, y7 (c + 1) j = if j = nC s then p1 else x (c + 1) j := by
      intro j
      rw [e7, up2_off (show c + 1 ≠ c + 7 by omega), e6, up2_off (show c + 1 ≠ c + 6 by omega), e5, up2_off (show c + 1 ≠ c + 5 by omega), e4, up2_off (show c + 1 ≠ c + 4 by omega), e3, up2_off (show c + 1 ≠ c + 3 by omega), e2, up2_off (show c + 1 ≠ c + 2 by omega)]
      rw [e1]
      by_cases q : j = nC s
      · simp only [up2, q, and_self, if_true]
      · simp only [up2, q, and_false, if_false]
        rw [e0, up2_off (show c + 1 ≠ c by omega)]
    have r2 : ∀ j, y7 (c + 2) j = if j = nC s then p2 else x (c + 2) j := by
      intro j
      rw [e7, up2_off (show c + 2 ≠ c + 7 by omega), e6, up2_off (show c + 2 ≠ c + 6 by omega), e5, up2_off (show c + 2 ≠ c + 5 by omega), e4, up2_off (show c + 2 ≠ c + 4 by omega), e3, up2_off (show c + 2 ≠ c + 3 by omega)]
      rw [e2]
      by_cases q : j = nC s
      · simp only [up2, q, and_self, if_true]
      · simp only [up2, q, and_false, if_false]
        rw [e1, up2_off (show c + 2 ≠ c + 1 by omega), e0, up2_off (show c + 2 ≠ c by omega)]
    have r3 : ∀ j, y7 (c + 3) j = if j = nC s then 1000 else x (c + 3) j := by
      intro j
      rw [e7, up2_off (show c + 3 ≠ c + 7 by omega), e6, up2_off (show c + 3 ≠ c + 6 by omega), e5, up2_off (show c + 3 ≠ c + 5 by omega), e4, up2_off (show c + 3 ≠ c + 4 by omega)]
      rw [e3]
      by_cases q : j = nC s
      · simp only [up2, q, and_self, if_true]
      · simp only [up2, q, and_false, if_false]
        rw [e2, up2_off (show c + 3 ≠ c + 2 by omega), e1, up2_off (show c + 3 ≠ c + 1 by omega), e0, up2_off (show c + 3 ≠ c by omega)]
    have r4 : ∀ j, y7 (c + 4) j = if j = nC s then p3 else x (c + 4) j := by
      intro j
      rw [e7, up2_off (show c + 4 ≠ c + 7 by omega), e6, up2_off (show c + 4 ≠ c + 6 by omega), e5, up2_off (show c + 4 ≠ c + 5 by omega)]
      rw [e4]
      by_cases q : j = nC s
      · simp only [up2, q, and_self, if_true]
      · simp only [up2, q, and_false, if_false]
        rw [e3, up2_off (show c + 4 ≠ c + 3 by omega), e2, up2_off (show c + 4 ≠ c + 2 by omega), e1, up2_off (show c + 4 ≠ c + 1 by omega), e0, up2_off (show c + 4 ≠ c by omega)]
    have r5 : ∀ j, y7 (c + 5) j = if j = nC s then p4 else x (c + 5) j := by
      intro j
      rw [e7, up2_off (show c + 5 ≠ c + 7 by omega), e6, up2_off (show c + 5 ≠ c + 6 by omega)]
      rw [e5]
      by_cases q : j = nC s
      · simp only [up2, q, and_self, if_true]
      · simp only [up2, q, and_false, if_false]
        rw [e4, up2_off (show c + 5 ≠ c + 4 by omega), e3, up2_off (show c + 5 ≠ c + 3 by omega), e2, up2_off (show c + 5 ≠ c + 2 by omega), e1, up2_off (show c + 5 ≠ c + 1 by omega), e0, up2_off (show c + 5 ≠ c by omega)]
    have r6 : ∀ j, y7 (c + 6) j = if j = nC s then p5 else x (c + 6) j := by
      intro j
      rw [e7, up2_off (show c + 6 ≠ c + 7 by omega)]
      rw [e6]
      by_cases q : j = nC s
      · simp only [up2, q, and_self, if_true]
      · simp only [up2, q, and_false, if_false]
        rw [e5, up2_off (show c + 6 ≠ c + 5 by omega), e4, up2_off (show c + 6 ≠ c + 4 by omega), e3, up2_off (show c + 6 ≠ c + 3 by omega), e2, up2_off (show c + 6 ≠ c + 2 by omega), e1, up2_off (show c + 6 ≠ c + 1 by omega), e0, up2_off (show c + 6 ≠ c by omega)]
    have r7 : ∀ j, y7 (c + 7) j = if j = nC s then 0 else x (c + 7) j := by
      intro j
      skip
      rw [e7]
      by_cases q : j = nC s
      · simp only [up2, q, and_self, if_true]
      · simp only [up2, q, and_false, if_false]
        rw [e6, up2_off (show c + 7 ≠ c + 6 by omega), e5, up2_off (show c + 7 ≠ c + 5 by omega), e4, up2_off (show c + 7 ≠ c + 4 by omega), e3, up2_off (show c + 7 ≠ c + 3 by omega), e2, up2_off (show c + 7 ≠ c + 2 by omega), e1, up2_off (show c + 7 ≠ c + 1 by omega), e0, up2_off (show c + 7 ≠ c by omega)]
    have r8 : y7 (c + 8) = x (c + 8) := by
      rw [e7, up2_off (show c + 8 ≠ c + 7 by omega), e6, up2_off (show c + 8 ≠ c + 6 by omega), e5, up2_off (show c + 8 ≠ c + 5 by omega), e4, up2_off (show c + 8 ≠ c + 4 by omega), e3, up2_off (show c + 8 ≠ c + 3 by omega), e2, up2_off (show c + 8 ≠ c + 2 by omega), e1, up2_off (show c + 8 ≠ c + 1 by omega), e0, up2_off (show c + 8 ≠ c by omega)]
    have r9 : y7 (c + 9) = x (c + 9) := by
      rw [e7, up2_off (show c + 9 ≠ c + 7 by omega), e6, up2_off (show c + 9 ≠ c + 6 by omega), e5, up2_off (show c + 9 ≠ c + 5 by omega), e4, up2_off (show c + 9 ≠ c + 4 by omega), e3, up2_off (show c + 9 ≠ c + 3 by omega), e2, up2_off (show c + 9 ≠ c + 2 by omega), e1, up2_off (show c + 9 ≠ c + 1 by omega), e0, up2_off (show c + 9 ≠ c by omega)]
    rw [r1, r2, r3, r4, r5, r6, r7, r8, r9]
    by_cases q : k = nC s
    · subst q
      have r := cc_wrS_on (s := s) (c := p1) (d := p2) (f := p3) (t := p4) (v := p5)
      simp only [if_true]
      refine ⟨⟨r.1.symm, r.2.1.symm, r.2.2.1.symm, r.2.2.2.1.symm, r.2.2.2.2.1.symm, r.2.2.2.2.2.1.symm, r.2.2.2.2.2.2.symm⟩, fun e he => ?_⟩
      rw [nE_wrS_on] at he
      omega
    · have hkn : k < nC s := by omega
      have hr := hR.2 k hkn
      have w := (hW.2.2.2.1 k hkn).2.2.1
      simp only [q, if_false]
      rw [cc_wrS_lo hkn (by omega), cc_wrS_lo hkn (by omega), cc_wrS_lo hkn (by omega), cc_wrS_lo hkn (by omega), cc_wrS_lo hkn (by omega), cc_wrS_lo hkn (by omega), cc_wrS_lo hkn (by omega), nE_wrS hkn]
      refine ⟨hr.1, fun e he => ?_⟩
      rw [cc_wrS_lo hkn (by omega), cc_wrS_lo hkn (by omega)]
      exact hr.2 e he
theorem nC_exS {f t : Int32} : nC (exS s k f t) = nC s := by
  unfold nC exS
  rw [if_neg (by omega), if_neg (by omega), if_neg (by omega)]
theorem exS_lo {f t : Int32} {i : Nat} (hi : i < 20) : exS s k f t i = s i := by
  unfold exS
  rw [if_neg (by omega), if_neg (by omega), if_neg (by omega)]
theorem cc_exS {f t : Int32} {g j : Nat} (hj : j < 13) (hg : g ≠ k ∨ (j ≠ 6 ∧ j ≠ 7 + 2 * nE s k ∧ j ≠ 8 + 2 * nE s k)) (hk : nE s k < 3) : cc (exS s k f t) g j = cc s g j := by
  unfold cc exS
  rw [if_neg (by omega), if_neg (by omega), if_neg (by omega)]
theorem cc_exS_on {f t : Int32} (hk : nE s k < 3) : cc (exS s k f t) k 6 = nI (nE s k + 1) ∧ cc (exS s k f t) k (7 + 2 * nE s k) = f ∧ cc (exS s k f t) k (8 + 2 * nE s k) = t := by
  unfold cc exS
  refine ⟨?_, ?_, ?_⟩
  · rw [if_neg (by omega), if_neg (by omega), if_pos (by omega)]
  · rw [if_pos (by omega)]
  · rw [if_neg (by omega), if_pos (by omega)]
theorem nE_exS {f t : Int32} (hk : nE s k < 3) : nE (exS s k f t) k = nE s k + 1 := by
  show (cc (exS s k f t) k 6).toNatClampNeg = _
  rw [(cc_exS_on hk).1]
  exact nI_clamp (by omega)
theorem nE_exS_ne {f t : Int32} {g : Nat} (hg : g ≠ k) (hk : nE s k < 3) : nE (exS s k f t) g = nE s g := by
  unfold nE
  rw [cc_exS (by omega) (Or.inl hg) hk]
theorem wf_exS {f t : Int32} (hW : WF s) (hk : nE s k < 3) : WF (exS s k f t) := by
  obtain ⟨w1, w2, w3, w4, w5, w6⟩ := hW
  refine ⟨by rw [nC_exS]; exact w1, by rw [nC_exS, exS_lo (by omega)]; exact w2, by rw [exS_lo (by omega)]; exact w3, fun g hg => ?_, fun c hc => ?_, fun c hc b hb => ?_⟩
  · rw [nC_exS] at hg
    have w := w4 g hg
    unfold chO
    rw [cc_exS (j := 0) (by omega) (by omega) hk, cc_exS (j := 1) (by omega) (by omega) hk, cc_exS (j := 2) (by omega) (by omega) hk, cc_exS (j := 3) (by omega) (by omega) hk, cc_exS (j := 4) (by omega) (by omega) hk]
    by_cases q : g = k
    · subst q
      rw [nE_exS hk, (cc_exS_on hk).1]
      exact ⟨w.1, w.2.1, by omega, rfl, w.2.2.2.2⟩
    · rw [nE_exS_ne q hk, cc_exS (by omega) (Or.inl q) hk]
      exact w
  · rw [exS_lo (by omega), exS_lo (by omega), exS_lo (by omega)]
    exact w5 c hc
  · rw [exS_lo (by omega), exS_lo (by omega)]
    exact w6 c hc b hb
theorem k_addException {c : Nat} {p2 p3 : Int32} (hW : WF s) (hc : IsCl c) (hR : RC x c s) (hk : k < nC s) (hE : nE s k < 3) (h : ∀ y : XX, (∀ a, (a < c ∨ c + 10 ≤ a) → y a = x a) → RC y c (exS s k p2 p3) → Q 0 y) : Call mX1_addException (d + 2) [.inr c, .inl (nI k), .inl p2, .inl p3] x Q := by
  have h30 : k < 30 := Nat.lt_of_lt_of_le hk hW.1
  have hr := hR.2 k hk
  have w := hW.2.2.2.1 k hk
  have e7 : x (c + 7) k = nI (nE s k) := by rw [hr.1.2.2.2.2.2.2]; exact w.2.2.2.1
  have ei : nI k * 3 + x (c + 7) k = nI (3 * k + nE s k) := by rw [e7]; exact nI_3k k (nE s k)
  refine call_of_go ok_X1_addException.1 (Nat.le_of_ble_eq_true rfl) rfl (g_X1_addException_0 hc (k_has hW hc hR (br_b (fun b => ?_) (fun _ => ⟨k, h30, rfl, fun _ => ⟨k, h30, rfl, 3 * k + nE s k, by omega, ei, ?_⟩, fun q => absurd (by rw [e7]; exact nI_lt hE (by decide)) q⟩))))
  · rw [isN_nI (by omega)] at b
    exact absurd hk (of_decide_eq_false b)
  · intro y1 e1
    refine ⟨3 * k + nE s k, by omega, ei, ?_⟩
    intro y2 e2
    refine ⟨k, h30, rfl, k, h30, rfl, ?_⟩
    intro y3 e3
    have r7 : y2 (c + 7) k = nI (nE s k) := by rw [e2, up2_off (show c + 7 ≠ c + 9 by omega), e1, up2_off (show c + 7 ≠ c + 8 by omega), e7]
    rw [r7, nI_1] at e3
    have off : ∀ a, a ≠ c + 7 → a ≠ c + 8 → a ≠ c + 9 → y3 a = x a := fun a h1 h2 h3 => by rw [e3, up2_off h1, e2, up2_off h3, e1, up2_off h2]
    refine h y3 (fun a ha => off a (by omega) (by omega) (by omega)) ⟨?_, fun g hg => ?_⟩
    · rw [off c (by omega) (by omega) (by omega), exS_lo (by omega)]
      exact hR.1
    · rw [nC_exS] at hg
      have hgr := hR.2 g hg
      have wg := hW.2.2.2.1 g hg
      rw [off (c + 1) (by omega) (by omega) (by omega), off (c + 2) (by omega) (by omega) (by omega), off (c + 3) (by omega) (by omega) (by omega), off (c + 4) (by omega) (by omega) (by omega), off (c + 5) (by omega) (by omega) (by omega), off (c + 6) (by omega) (by omega) (by omega)]
      rw [cc_exS (j := 0) (by omega) (by omega) hE, cc_exS (j := 1) (by omega) (by omega) hE, cc_exS (j := 2) (by omega) (by omega) hE, cc_exS (j := 3) (by omega) (by omega) hE, cc_exS (j := 4) (by omega) (by omega) hE, cc_exS (j := 5) (by omega) (by omega) hE]
      have r8 : ∀ j, y3 (c + 8) j = if j = 3 * k + nE s k then p2 else x (c + 8) j := by
        intro j
        rw [e3, up2_off (show c + 8 ≠ c + 7 by omega), e2, up2_off (show c + 8 ≠ c + 9 by omega), e1]
        by_cases q : j = 3 * k + nE s k <;> simp [up2, q]
      have r9 : ∀ j, y3 (c + 9) j = if j = 3 * k + nE s k then p3 else x (c + 9) j := by
        intro j
        rw [e3, up2_off (show c + 9 ≠ c + 7 by omega), e2]
        by_cases q : j = 3 * k + nE s k
        · simp [up2, q]
        · simp only [up2, q, and_false, if_false]
          rw [e1, up2_off (show c + 9 ≠ c + 8 by omega)]
      by_cases q : g = k
      · subst q
        rw [nE_exS hE, (cc_exS_on hE).1]
        refine ⟨⟨hgr.1.1, hgr.1.2.1, hgr.1.2.2.1, hgr.1.2.2.2.1, hgr.1.2.2.2.2.1, hgr.1.2.2.2.2.2.1, by rw [e3]; simp [up2]⟩, fun e he => ?_⟩
        rw [r8, r9]
        by_cases qe : e = nE s g
        · subst qe
          rw [if_pos rfl, if_pos rfl, (cc_exS_on hE).2.1, (cc_exS_on hE).2.2]
          exact ⟨rfl, rfl⟩
        · rw [if_neg (by omega), if_neg (by omega), cc_exS (by omega) (by omega) hE, cc_exS (by omega) (by omega) hE]
          exact hgr.2 e (by omega)
      · rw [nE_exS_ne q hE, cc_exS (j := 6) (by omega) (Or.inl q) hE]
        refine ⟨⟨hgr.1.1, hgr.1.2.1, hgr.1.2.2.1, hgr.1.2.2.2.1, hgr.1.2.2.2.2.1, hgr.1.2.2.2.2.2.1, ?_⟩, fun e he => ?_⟩
        · rw [e3]
          simp only [up2, q, and_false, if_false]
          rw [e2, up2_off (show c + 7 ≠ c + 9 by omega), e1, up2_off (show c + 7 ≠ c + 8 by omega)]
          exact hgr.1.2.2.2.2.2.2
        · rw [r8, r9, if_neg (by omega), if_neg (by omega), cc_exS (by omega) (Or.inl q) hE, cc_exS (by omega) (Or.inl q) hE]
          exact hgr.2 e he
end CP
