section M4
variable {d : Nat} {x : XX} {Q : Int32 → XX → Prop} {s : Row} {k : Nat} {T : Txt} {n p : Nat}
theorem sp_nx (st : Nat ⊕ Nat) : nx (sb st (pSp T n)) = nx (sb (sb (nx (sb st (pNu T n 99))) (pSg T n 45)) (pNu T n 99)) := by
  cases st with
  | inl e => rfl
  | inr p =>
    simp only [sb_r]
    unfold pSp
    cases h1 : pNu T n 99 p with
    | inl e => rfl
    | inr r =>
      simp only [sb_r, nx]
      cases h2 : pSg T n 45 r.1 with
      | inl e => rfl
      | inr p2 =>
        simp only [sb_r]
        cases h3 : pNu T n 99 p2 with
        | inl e => rfl
        | inr q => rfl
theorem q6_readSpan {st : Nat ⊕ Nat} {b : Bool} (hT : TM x T n) (hS : MS n x st) (hb : x 105 11 = bI b)
    (h : ∀ y b', MF x y → MS n y (nx (sb st (pSp T n))) → y 105 11 = bI b' → (∀ r, sb st (pSp T n) = .inr r → y 105 12 = r.2.1 ∧ y 105 13 = r.2.2 ∧ b' = (b || decide (r.2.2 < r.2.1))) → Q 0 y) : Call mX6_readSpan (d + 4) [.inr 105] x Q := by
  refine call_of_go ok_X6_readSpan.1 (Nat.le_of_ble_eq_true rfl) rfl (g_X6_readSpan_0 (q6_number (m := 99) (by decide) (by decide) hT hS (fun y1 v1 m1 e1 s1 f1 => ?_)))
  intro y2 g2
  have m2 := m1.tr (MF.up g2 (by decide))
  have s2 : MS n y2 (nx (sb st (pNu T n 99))) := by
    have s1 : MS n y1 (nx (sb st (pNu T n 99))) := s1
    cases hst : nx (sb st (pNu T n 99)) with
    | inl e => rw [hst] at s1; exact ⟨s1.1, by rw [u5_ne g2 (by decide)]; exact s1.2.1, by rw [u5_ne g2 (by decide)]; exact s1.2.2⟩
    | inr p => rw [hst] at s1; exact ⟨s1.1, by rw [u5_ne g2 (by decide)]; exact s1.2.1, by rw [u5_ne g2 (by decide)]; exact s1.2.2⟩
  refine q6_sign (hT.f m2.G) s2 (fun y3 _ m3 s3 f3 => q6_number (m := 99) (by decide) (by decide) (hT.f (m2.tr m3).G) s3 (fun y4 v4 m4 e4 s4 f4 => ?_))
  intro y5 g5
  have m5 := ((m2.tr m3).tr m4).tr (MF.up g5 (by decide))
  have b5 : y5 105 11 = bI b := by rw [u5_ne g5 (by decide), f4 11 (by decide) (by decide), f3 11 (by decide) (by decide), u5_ne g2 (by decide), f1 11 (by decide) (by decide)]; exact hb
  have a12 : y5 105 12 = v1 := by rw [u5_ne g5 (by decide), f4 12 (by decide) (by decide), f3 12 (by decide) (by decide), u5_at g2]
  have a13 : y5 105 13 = v4 := u5_at g5
  have s5 : ∀ z, MF y5 z → (∀ j, j ≠ 11 → z 105 j = y5 105 j) → MS n z (nx (sb st (pSp T n))) := by
    intro z _ hz
    rw [sp_nx]
    have s4 : MS n y4 (nx (sb (sb (nx (sb st (pNu T n 99))) (pSg T n 45)) (pNu T n 99))) := s4
    cases hst : nx (sb (sb (nx (sb st (pNu T n 99))) (pSg T n 45)) (pNu T n 99)) with
    | inl e => rw [hst] at s4; exact ⟨s4.1, by rw [hz 9 (by decide), u5_ne g5 (by decide)]; exact s4.2.1, by rw [hz 10 (by decide), u5_ne g5 (by decide)]; exact s4.2.2⟩
    | inr p => rw [hst] at s4; exact ⟨s4.1, by rw [hz 9 (by decide), u5_ne g5 (by decide)]; exact s4.2.1, by rw [hz 10 (by decide), u5_ne g5 (by decide)]; exact s4.2.2⟩
  have vals : ∀ r, sb st (pSp T n) = .inr r → v1 = r.2.1 ∧ v4 = r.2.2 := by
    intro r hr
    obtain ⟨p, hp⟩ : ∃ p, st = .inr p := by
      cases st with
      | inl e => cases hr
      | inr p => exact ⟨p, rfl⟩
    subst hp
    have hr : sb (pNu T n 99 p) (fun r => sb (pSg T n 45 r.1) fun p2 => sb (pNu T n 99 p2) fun q => .inr (q.1, r.2, q.2)) = .inr r := hr
    obtain ⟨r1, h1, hr⟩ := sb_s hr
    obtain ⟨p2, h2, hr⟩ := sb_s hr
    obtain ⟨r3, h3, hr⟩ := sb_s hr
    cases hr
    have e1 : v1 = vl (sb (.inr p) (pNu T n 99)) := e1
    have e4 : v4 = vl (sb (sb (nx (sb (.inr p) (pNu T n 99))) (pSg T n 45)) (pNu T n 99)) := e4
    rw [sb_r, h1] at e1 e4
    simp only [nx, sb_r, h2, h3] at e4
    exact ⟨e1, e4⟩
  have fin : ∀ (z : XX) (b' : Bool), z = up2 y5 105 11 (bI b') → b' = (b || decide (v4 < v1)) → Q 0 z := by
    intro z b' hz hb'
    refine h z b' (m5.tr (MF.up hz (by decide))) (s5 z (MF.up hz (by decide)) (fun j hj => u5_ne hz hj)) (u5_at hz) (fun r hr => ?_)
    obtain ⟨c1, c2⟩ := vals r hr
    exact ⟨by rw [u5_ne hz (by decide), a12]; exact c1, by rw [u5_ne hz (by decide), a13]; exact c2, by rw [hb', c1, c2]⟩
  rw [b5, a12, a13]
  refine br_n (fun e => ⟨fun c y6 g6 => fin y6 false g6 ?_, fun c y6 g6 => fin y6 true g6 ?_⟩) (fun e y6 g6 => fin y6 true g6 (by rw [e]; rfl))
  · rw [li_le] at c
    simp [e, li_lt]
    omega
  · rw [li_le] at c
    simp [e, li_lt]
    omega
def badE (l : List (Int32 × Int32)) : Bool := l.any fun e => decide (e.2 < e.1)
def badC (c : Cl) : Bool := decide (c.2.2.2.1 < c.2.2.1) || badE c.2.2.2.2.2
def pE (T : Txt) (n : Nat) (c : Int32) : Nat → Nat → Nat ⊕ (Nat × List (Int32 × Int32))
  | 0, p => .inr (p, [])
  | r + 1, p => match pSg T n c p with
    | .inl _ => .inr (p, [])
    | .inr p2 => sb (pSp T n p2) fun w => sb (pEr T n r w.1) fun z => .inr (z.1, w.2 :: z.2)
theorem pE_44 : ∀ r p, pE T n 44 r p = pEr T n r p
  | 0, _ => rfl
  | _ + 1, _ => rfl
theorem pE_33 : pE T n 33 3 p = pXs T n p := rfl
theorem nxB_c {c : Int32} : nxB T n (.inr p) c c = true ↔ pSg T n c p = .inr (p + 1) := by
  unfold nxB pSg
  constructor
  · intro h
    simp only [Bool.and_eq_true, decide_eq_true_eq] at h
    rw [if_pos ⟨h.1, by rw [li_eq]; omega⟩]
  · intro h
    split at h
    · rename_i q
      simp [q.1, q.2]
    · cases h
theorem nxB_f {c : Int32} (h : nxB T n (.inr p) c c = false) : pSg T n c p = .inl p := by
  unfold pSg
  rw [if_neg]
  rintro ⟨q1, q2⟩
  simp [nxB, q1, q2] at h
/-- the exceptions, one after the other -/
theorem q6_exLoop {z : Bool} {kk : Nat} : ∀ (r : Nat) (c : Int32) (st : Nat ⊕ Nat) (s : Row) (y : XX) (b : Bool) (v2 v3 v4 v5 v6 v7 : Int32), r ≤ 3 → TM y T n → MS n y st → y 105 11 = bI b → RM y s → (z = true → WF s ∧ nC s = kk + 1 ∧ nE s kk + r ≤ 3 ∧ ∃ q, sb st (pE T n c r) = .inr q) →
    (∀ y' b', MG y y' → MS n y' (nx (sb st (pE T n c r))) → y' 105 11 = bI b' → (z = false → RM y' s) → (∀ q, sb st (pE T n c r) = .inr q → RM y' (if z then apL s kk q.2 else s) ∧ b' = (b || badE q.2)) → Q 0 y') →
    Go mX6_readClause (d + 5) 101 [some (.inr 105), some (.inl (bI z)), some (.inl v2), some (.inl v3), some (.inl v4), some (.inl v5), some (.inl v6), some (.inl v7), some (.inl (bI (nxB T n st c c))), some (.inl (nI (3 - r))), none] [] y Q
  | 0, c, st, s, y, b, v2, v3, v4, v5, v6, v7, _, hT, hS, hb, hR, hz, g => by
    refine g_X6_readClause_101 ⟨fun _ => ?_, fun c => absurd le_n c⟩
    refine g y b MG.rf ?_ hb (fun _ => hR) (fun q hq => ?_)
    · cases st with
      | inl e => exact hS
      | inr p => exact hS
    · cases st with
      | inl e => cases hq
      | inr p =>
        cases hq
        refine ⟨?_, by simp [badE]⟩
        split <;> exact hR
  | r + 1, c, st, s, y, b, v2, v3, v4, v5, v6, v7, hr, hT, hS, hb, hR, hz, g => by
    have h80 := hT.2.1
    refine g_X6_readClause_101 ⟨fun c => absurd c (ge_n (m := 3) (by omega) (by decide)), fun _ => br_b (fun e => ?_) (fun e => ?_)⟩
    · have hE : (∃ q, st = .inl q) ∨ ∃ p, st = .inr p ∧ sb st (pE T n c (r + 1)) = .inr (p, []) := by
        cases st with
        | inl q => exact Or.inl ⟨q, rfl⟩
        | inr p => exact Or.inr ⟨p, rfl, by rw [sb_r]; simp only [pE]; rw [nxB_f e]⟩
      refine g y b MG.rf ?_ hb (fun _ => hR) (fun q hq => ?_)
      · rcases hE with ⟨q, hq⟩ | ⟨p, hp, hq⟩
        · subst hq; exact hS
        · rw [hq]; subst hp; exact hS
      · rcases hE with ⟨q', hq'⟩ | ⟨p, hp, hq'⟩
        · subst hq'; cases hq
        · rw [hq'] at hq
          cases hq
          refine ⟨?_, by simp [badE]⟩
          split <;> exact hR
    · cases st with
      | inl q => simp [nxB] at e
      | inr p =>
        have hsg := nxB_c.mp e
        have hpn := pSg_s hsg
        intro y1 g1
        have m1 := MF.up g1 (by decide)
        rw [hS.2.1, nI_1] at g1
        have s1 : MS n y1 (.inr (p + 1)) := ⟨by omega, u5_at g1, by rw [u5_ne g1 (by decide)]; exact hS.2.2⟩
        have hE : sb (.inr p) (pE T n c (r + 1)) = sb (pSp T n (p + 1)) fun w => sb (pEr T n r w.1) fun z => .inr (z.1, w.2 :: z.2) := by
          rw [sb_r]
          simp only [pE]
          rw [hsg]
        refine q6_readSpan (hT.f m1.G) s1 (by rw [u5_ne g1 (by decide)]; exact hb) (fun y2 b2 m2 s2 e2 f2 => ?_)
        have m12 := m1.tr m2
        have s2 : MS n y2 (nx (pSp T n (p + 1))) := s2
        have ek : nI (3 - (r + 1)) + 1 = nI (3 - r) := by rw [nI_1]; congr 1; omega
        rw [ek]
        have hnx : nx (sb (.inr p) (pE T n c (r + 1))) = nx (sb (nx (pSp T n (p + 1))) (pE T n 44 r)) := by
          rw [hE]
          cases h1 : pSp T n (p + 1) with
          | inl e => rfl
          | inr w =>
            simp only [sb_r, nx, pE_44]
            cases h2 : pEr T n r w.1 with
            | inl e => rfl
            | inr q => rfl
        have hq : ∀ q, sb (.inr p) (pE T n c (r + 1)) = .inr q → ∃ w q', pSp T n (p + 1) = .inr w ∧ sb (nx (pSp T n (p + 1))) (pE T n 44 r) = .inr q' ∧ q.2 = w.2 :: q'.2 := by
          intro q hq
          rw [hE] at hq
          obtain ⟨w, h1, hq⟩ := sb_s hq
          obtain ⟨q', h2, hq⟩ := sb_s hq
          cases hq
          refine ⟨w, q', h1, ?_, rfl⟩
          rw [h1]
          show pE T n 44 r w.1 = .inr q'
          rw [pE_44]
          exact h2
        refine br_b (fun z0 => ?_) (fun z1 => ?_)
        · refine q6_isNext (hT.f m12.G) s2 ?_
          refine q6_exLoop (kk := kk) r 44 _ s y2 b2 v2 v3 v4 v5 v6 v7 (by omega) (hT.f m12.G) s2 e2 (hR.f m12) (fun h => by rw [z0] at h; cases h) (fun y' b' k1 k2 k3 k4 k5 => g y' b' (m12.G.tr k1) (by rw [hnx]; exact k2) k3 k4 (fun q hq1 => ?_))
          obtain ⟨w, q', a1, a2, a3⟩ := hq q hq1
          obtain ⟨a4, a5⟩ := k5 q' a2
          have a6 := (f2 w a1).2.2
          refine ⟨by rw [z0] at a4 ⊢; exact a4, ?_⟩
          rw [a5, a6, a3]
          simp [badE, Bool.or_assoc]
        · obtain ⟨w1, w2, w3, q, hq1⟩ := hz z1
          obtain ⟨w, q', a1, a2, a3⟩ := hq q hq1
          obtain ⟨c12, c13, cb⟩ := f2 w a1
          have hR2 := hR.f m12
          have e19 : y2 106 19 - 1 = nI kk := by rw [hR2 19 (by decide), w1.2.1, w2]; exact nI_pred kk
          rw [e19, c12, c13]
          refine q6_excepts w1 hR2 (by omega) (by omega) (fun y3 o3 hR3 => ?_)
          have mG : MG y2 y3 := ⟨fun a _ hb => o3 a hb, fun j _ => by rw [o3 105 (by decide)]⟩
          have s3 : MS n y3 (nx (pSp T n (p + 1))) := by
            cases hst : nx (pSp T n (p + 1)) with
            | inl e => rw [hst] at s2; exact ⟨s2.1, by rw [o3 105 (by decide)]; exact s2.2.1, by rw [o3 105 (by decide)]; exact s2.2.2⟩
            | inr p => rw [hst] at s2; exact ⟨s2.1, by rw [o3 105 (by decide)]; exact s2.2.1, by rw [o3 105 (by decide)]; exact s2.2.2⟩
          refine q6_isNext (hT.f (m12.G.tr mG)) s3 ?_
          refine q6_exLoop (kk := kk) r 44 _ (exS s kk w.2.1 w.2.2) y3 b2 v2 v3 v4 v5 v6 v7 (by omega) (hT.f (m12.G.tr mG)) s3 (by rw [o3 105 (by decide)]; exact e2) hR3 (fun _ => ⟨wf_exS w1 (by omega), by rw [nC_exS]; exact w2, by rw [nE_exS (by omega)]; omega, q', a2⟩) (fun y' b' k1 k2 k3 k4 k5 => g y' b' ((m12.G.tr mG).tr k1) (by rw [hnx]; exact k2) k3 (fun h => by rw [z1] at h; cases h) (fun q2 hq2 => ?_))
          obtain ⟨w', q2', b1, b2', b3⟩ := hq q2 hq2
          rw [a1] at b1
          cases b1
          obtain ⟨a4, a5⟩ := k5 q2' b2'
          refine ⟨by rw [z1] at a4 ⊢; rw [b3]; exact a4, ?_⟩
          rw [a5, cb, b3]
          simp [badE, Bool.or_assoc]
/-- the chain of a clause's parts -/
theorem cl_chain {r1 r3 r7 : Nat ⊕ (Nat × Int32)} {t2 t4 t6 : Nat ⊕ Nat} {r5 : Nat ⊕ (Nat × Int32 × Int32)} (h1 : pNu T n 5 p = r1) (h2 : sb (nx r1) (pSg T n 64) = t2) (h3 : sb t2 (pNu T n 999) = r3) (h4 : sb (nx r3) (pSg T n 58) = t4) (h5 : sb t4 (pSp T n) = r5) (h6 : sb (nx r5) (pSg T n 61) = t6) (h7 : sb t6 (pNu T n 9) = r7) :
    nx (pCl T n p) = nx (sb (nx r7) (pXs T n)) ∧ ∀ cc, pCl T n p = .inr cc → ∃ q w, sb (nx r7) (pXs T n) = .inr q ∧ r5 = .inr w ∧ cc.2 = (vl r1, vl r3, w.2.1, w.2.2, vl r7, q.2) := by
  unfold pCl
  rw [h1]
  cases r1 with
  | inl e => subst h2; subst h3; subst h4; subst h5; subst h6; subst h7; exact ⟨rfl, fun cc h => by cases h⟩
  | inr a1 =>
    rw [sb_r]
    have h2 : pSg T n 64 a1.1 = t2 := h2
    rw [h2]
    cases t2 with
    | inl e => subst h3; subst h4; subst h5; subst h6; subst h7; exact ⟨rfl, fun cc h => by cases h⟩
    | inr p2 =>
      rw [sb_r] at h3 ⊢
      rw [h3]
      cases r3 with
      | inl e => subst h4; subst h5; subst h6; subst h7; exact ⟨rfl, fun cc h => by cases h⟩
      | inr a3 =>
        rw [sb_r]
        have h4 : pSg T n 58 a3.1 = t4 := h4
        rw [h4]
        cases t4 with
        | inl e => subst h5; subst h6; subst h7; exact ⟨rfl, fun cc h => by cases h⟩
        | inr p4 =>
          rw [sb_r] at h5 ⊢
          rw [h5]
          cases r5 with
          | inl e => subst h6; subst h7; exact ⟨rfl, fun cc h => by cases h⟩
          | inr w =>
            rw [sb_r]
            have h6 : pSg T n 61 w.1 = t6 := h6
            rw [h6]
            cases t6 with
            | inl e => subst h7; exact ⟨rfl, fun cc h => by cases h⟩
            | inr p6 =>
              rw [sb_r] at h7 ⊢
              rw [h7]
              cases r7 with
              | inl e => exact ⟨rfl, fun cc h => by cases h⟩
              | inr a7 =>
                rw [sb_r]
                show nx (sb (pXs T n a7.1) _) = nx (pXs T n a7.1) ∧ _
                cases h8 : pXs T n a7.1 with
                | inl e => exact ⟨rfl, fun cc h => by cases h⟩
                | inr q =>
                  refine ⟨rfl, fun cc h => ⟨q, w, h8, rfl, ?_⟩⟩
                  cases h
                  rfl
theorem if_z0 {α : Type} {z : Bool} {a b : α} (h : z = false) : (if z = true then a else b) = b := by rw [h]; rfl
theorem c5 : nI 5 = 5 := rfl
theorem c9 : nI 9 = 9 := rfl
theorem c999 : nI 999 = 999 := rfl
theorem ms_keep {st : Nat ⊕ Nat} {y : XX} (h : MS n x st) (e : y 105 = x 105) : MS n y st := by
  cases st with
  | inl _ => exact ⟨h.1, by rw [e]; exact h.2.1, by rw [e]; exact h.2.2⟩
  | inr _ => exact ⟨h.1, by rw [e]; exact h.2.1, by rw [e]; exact h.2.2⟩
theorem q6_readClause {z b : Bool} (hT : TM x T n) (hS : MS n x (.inr p)) (hb : x 105 11 = bI b) (hR : RM x s) (hz : z = true → WF s ∧ nC s < 30 ∧ ∃ c, pCl T n p = .inr c)
    (h : ∀ y b', MG x y → MS n y (nx (pCl T n p)) → y 105 11 = bI b' → (z = false → RM y s) → (∀ c, pCl T n p = .inr c → RM y (if z then app s c.2 else s) ∧ b' = (b || badC c.2)) → Q 0 y) : Call mX6_readClause (d + 5) [.inr 105, .inl (bI z)] x Q := by
  refine call_of_go ok_X6_readClause.1 (Nat.le_of_ble_eq_true rfl) rfl (g_X6_readClause_0 ?_)
  refine q6_digit (m := 5) (by decide) hT hS (fun x1 c m1 e1 s1 f1 => ?_)
  rw [sb_r, c5] at e1 s1
  generalize h1 : pNu T n 5 p = r1 at e1 s1
  refine q6_sign (hT.f m1.G) s1 (fun x2 u2 n2 s2 f2 => ?_)
  generalize h2 : sb (nx r1) (pSg T n 64) = t2 at s2
  have m2 := m1.tr n2
  refine q6_number (m := 999) (by decide) (by decide) (hT.f m2.G) s2 (fun x3 dt n3 e3 s3 f3 => ?_)
  rw [c999] at e3 s3
  generalize h3 : sb t2 (pNu T n 999) = r3 at e3 s3
  have m3 := m2.tr n3
  refine q6_sign (hT.f m3.G) s3 (fun x4 u4 n4 s4 f4 => ?_)
  generalize h4 : sb (nx r3) (pSg T n 58) = t4 at s4
  have m4 := m3.tr n4
  have b4 : x4 105 11 = bI b := by rw [f4 11 (by decide) (by decide), f3 11 (by decide) (by decide), f2 11 (by decide) (by decide), f1 11 (by decide) (by decide)]; exact hb
  refine q6_readSpan (hT.f m4.G) s4 b4 (fun x5 b5 n5 s5 e5 f5 => ?_)
  generalize h5 : sb t4 (pSp T n) = r5 at s5 f5
  have m5 := m4.tr n5
  refine q6_sign (hT.f m5.G) s5 (fun x6 v6 n6 s6 f6 => ?_)
  generalize h6 : sb (nx r5) (pSg T n 61) = t6 at s6
  have m6 := m5.tr n6
  refine q6_digit (m := 9) (by decide) (hT.f m6.G) s6 (fun x7 v n7 e7 s7 f7 => ?_)
  rw [c9] at e7 s7
  generalize h7 : sb t6 (pNu T n 9) = r7 at e7 s7
  have m7 := m6.tr n7
  have b7 : x7 105 11 = bI b5 := by rw [f7 11 (by decide) (by decide), f6 11 (by decide) (by decide)]; exact e5
  have hR7 := hR.f m7
  obtain ⟨hcl1, hcl0⟩ := cl_chain h1 h2 h3 h4 h5 h6 h7
  rw [← e1, ← e3, ← e7] at hcl0
  have hcl2 : ∀ cc, pCl T n p = .inr cc → ∃ q, sb (nx r7) (pXs T n) = .inr q ∧ cc.2 = (c, dt, x5 105 12, x5 105 13, v, q.2) ∧ b5 = (b || decide (x5 105 13 < x5 105 12)) := by
    intro cc hcc
    obtain ⟨q, w, a1, a2, a3⟩ := hcl0 cc hcc
    obtain ⟨c12, c13, cb⟩ := f5 w a2
    exact ⟨q, a1, by rw [c12, c13]; exact a3, by rw [c12, c13]; exact cb⟩
  clear hcl0 h1 h2 h3 h4 h5 h6 h7 e1 e3 e7 f5 s1 s2 s3 s4 s5 s6
  generalize nx r7 = st7 at s7 hcl1 hcl2
  refine ⟨fun z0 => ?_, fun z1 => ?_⟩
  · have z0 : z = false := by cases z with | false => rfl | true => exact absurd z0 (by decide)
    refine q6_isNext (hT.f m7.G) s7 ?_
    refine q6_exLoop (kk := 0) 3 33 st7 s x7 b5 c v6 dt (x5 105 12) (x5 105 13) v (by decide) (hT.f m7.G) s7 b7 hR7 (fun h => by rw [z0] at h; cases h) (fun y' b' k1 k2 k3 k4 k5 => h y' b' (m7.G.tr k1) (by rw [hcl1]; exact k2) k3 k4 (fun cc hcc => ?_))
    obtain ⟨q, a1, a2, a3⟩ := hcl2 cc hcc
    obtain ⟨a4, a5⟩ := k5 q a1
    refine ⟨by rw [if_z0 z0] at a4 ⊢; exact a4, ?_⟩
    rw [a5, a3, a2]
    simp [badC, Bool.or_assoc]
  · have z1 : z = true := by cases z with | true => rfl | false => exact absurd rfl z1
    obtain ⟨w1, w2, cc, hcc⟩ := hz z1
    obtain ⟨q, a1, a2, a3⟩ := hcl2 cc hcc
    have hok := (pCl_s hcc).2.2
    rw [a2] at hok
    refine q6_writes w1 hR7 w2 (fun x8 o8 hR8 => ?_)
    have mG : MG x7 x8 := ⟨fun a _ hb => o8 a hb, fun j _ => by rw [o8 105 (by decide)]⟩
    have s8 : MS n x8 st7 := ms_keep s7 (o8 105 (by decide))
    refine q6_isNext (hT.f (m7.G.tr mG)) s8 ?_
    have hwf := wf_wrS (v := v) w1 w2 hok.1 hok.2.1 hok.2.2.1 hok.2.2.2.1
    refine q6_exLoop (kk := nC s) 3 33 st7 (wrS s c dt (x5 105 12) (x5 105 13) v) x8 b5 c v6 dt (x5 105 12) (x5 105 13) v (by decide) (hT.f (m7.G.tr mG)) s8 (by rw [o8 105 (by decide)]; exact b7) hR8 (fun _ => ⟨hwf, nC_wrS (by omega), by rw [nE_wrS_on]; omega, q, a1⟩) (fun y' b' k1 k2 k3 k4 k5 => h y' b' ((m7.G.tr mG).tr k1) (by rw [hcl1]; exact k2) k3 (fun h => by rw [z1] at h; cases h) (fun cc2 hcc2 => ?_))
    obtain ⟨q2, b1, b2, b3⟩ := hcl2 cc2 hcc2
    obtain ⟨b4, b5⟩ := k5 q2 b1
    refine ⟨by rw [z1] at b4 ⊢; rw [b2]; exact b4, ?_⟩
    rw [b5, b3, b2]
    simp [badC, Bool.or_assoc]
end M4
