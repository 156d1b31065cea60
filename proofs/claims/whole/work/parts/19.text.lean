/-! THE CLASS: the text and its reading -/
def RT (x : XX) (T : Txt) (n : Nat) : Prop := x 3 1 = nI n ∧ n ≤ 80 ∧ ∀ i, i < n → x 104 i = T i
/-- nothing but the reading's own fields (and the draft) has changed -/
def TF (x y : XX) : Prop := (∀ a, a ≠ 3 → y a = x a) ∧ y 3 1 = x 3 1
def TD (x y : XX) : Prop := (∀ a, a ≠ 3 → (a < 4 ∨ 13 < a) → y a = x a) ∧ y 3 1 = x 3 1
theorem TF.tr {x y z : XX} (h1 : TF x y) (h2 : TF y z) : TF x z := ⟨fun a ha => by rw [h2.1 a ha, h1.1 a ha], by rw [h2.2, h1.2]⟩
theorem TD.tr {x y z : XX} (h1 : TD x y) (h2 : TD y z) : TD x z := ⟨fun a ha hb => by rw [h2.1 a ha hb, h1.1 a ha hb], by rw [h2.2, h1.2]⟩
theorem TF.D {x y : XX} (h : TF x y) : TD x y := ⟨fun a ha _ => h.1 a ha, h.2⟩
theorem TF.rf {x : XX} : TF x x := ⟨fun _ _ => rfl, rfl⟩
theorem TD.rf {x : XX} : TD x x := TF.rf.D
theorem RT.f {x y : XX} {T : Txt} {n : Nat} (h : RT x T n) (e : TD x y) : RT y T n := ⟨by rw [e.2]; exact h.1, h.2.1, fun i hi => by rw [e.1 104 (by decide) (by omega)]; exact h.2.2 i hi⟩
theorem TF.up {x y : XX} {j : Nat} {v : Int32} (h : y = up2 x 3 j v) (hj : j ≠ 1) : TF x y := ⟨fun a ha => by rw [h, up2_off ha], by rw [h]; simp [up2]; intro q; exact absurd q.symm hj⟩
section TX
variable {d : Nat} {x : XX} {Q : Int32 → XX → Prop} {s t : Row} {k : Nat} {T : Txt} {n p : Nat}
theorem up_at {x y : XX} {j : Nat} {v : Int32} (h : y = up2 x 3 j v) : y 3 j = v := by rw [h]; simp [up2]
theorem up_ne {x y : XX} {j i : Nat} {v : Int32} (h : y = up2 x 3 j v) (hij : i ≠ j) : y 3 i = x 3 i := by rw [h]; simp [up2, hij]
theorem k_digitHere (hT : RT x T n) (hp : x 3 2 = nI p) (hpn : p ≤ n) (hn : dg T n p = none → Q (-1) x) (hs : ∀ g, dg T n p = some g → Q g x) : Call mX4_digitHere d [.inr 3] x Q := by
  refine call_of_go ok_X4_digitHere.1 (Nat.le_of_ble_eq_true rfl) rfl (g_X4_digitHere_0 ?_)
  have h80 := hT.2.1
  rw [hp, hT.1]
  refine ⟨fun c => ?_, fun c => hn ?_⟩
  · have hlt : p < n := by
      by_cases q : p < n
      · exact q
      · exact absurd c (nI_nlt (by omega) (by omega))
    refine ⟨p, by omega, rfl, ?_⟩
    rw [hT.2.2 p hlt]
    refine ⟨fun c => hn ?_, fun c => ⟨fun c2 => hn ?_, fun c2 => hs _ ?_⟩⟩
    · rw [li_lt, show (48 : Int32).toInt = 48 from rfl] at c
      unfold dg; rw [if_neg (by omega)]
    · rw [li_lt, show (57 : Int32).toInt = 57 from rfl] at c2
      unfold dg; rw [if_neg (by omega)]
    · rw [li_lt, show (48 : Int32).toInt = 48 from rfl] at c
      rw [li_lt, show (57 : Int32).toInt = 57 from rfl] at c2
      unfold dg; rw [if_pos (by omega)]
  · unfold dg; rw [if_neg]
    rintro ⟨q, -⟩
    exact c (nI_lt q (by omega))
theorem k_readSign {c : Int32} (hT : RT x T n) (hp : x 3 2 = nI p) (hpn : p ≤ n) (h0 : ∀ e, pSg T n c p = .inl e → e = p → Q 0 x) (h1 : ∀ y q, TF x y → pSg T n c p = .inr q → y 3 2 = nI q → (∀ j, j ≠ 2 → y 3 j = x 3 j) → Q 1 y) : Call mX4_readSign d [.inr 3, .inl c] x Q := by
  refine call_of_go ok_X4_readSign.1 (Nat.le_of_ble_eq_true rfl) rfl (g_X4_readSign_0 ?_)
  have h80 := hT.2.1
  rw [hp, hT.1]
  refine ⟨fun q => h0 p ?_ rfl, fun q => ?_⟩
  · unfold pSg; rw [if_neg]
    rintro ⟨z, -⟩
    exact nI_ge z (by omega) q
  · have hlt : p < n := by
      by_cases z : p < n
      · exact z
      · exact absurd (nI_le (by omega) (by omega)) q
    refine ⟨p, by omega, rfl, ?_⟩
    rw [hT.2.2 p hlt]
    refine ⟨fun e => ?_, fun e => h0 p ?_ rfl⟩
    · intro y hy
      refine h1 y (p + 1) (TF.up hy (by decide)) ?_ (by rw [up_at hy, nI_1]) (fun j hj => up_ne hy hj)
      unfold pSg; rw [if_pos ⟨hlt, e⟩]
    · unfold pSg; rw [if_neg (fun z => e z.2)]
theorem k_readNumber {m : Int32} (hm : m.toInt ≤ 999) (hT : RT x T n) (hp : x 3 2 = nI p) (hpn : p ≤ n) (h0 : ∀ e, pNu T n m p = .inl e → e = p → Q 0 x) (h1 : ∀ y r, TF x y → pNu T n m p = .inr r → y 3 2 = nI r.1 → y 3 3 = r.2 → (∀ j, j ≠ 2 → j ≠ 3 → y 3 j = x 3 j) → Q 1 y) : Call mX4_readNumber (d + 1) [.inr 3, .inl m] x Q := by
  have h80 := hT.2.1
  refine call_of_go ok_X4_readNumber.1 (Nat.le_of_ble_eq_true rfl) rfl (g_X4_readNumber_0 (k_digitHere hT hp hpn (fun hd => ⟨fun _ => h0 p ?_ rfl, fun c => absurd (by decide) c⟩) (fun g hd => ?_)))
  · unfold pNu; rw [hd]
  · obtain ⟨a1, -, j, a2, a3⟩ := dg_s hd
    refine ⟨fun c => absurd c (by rw [a3]; exact nI_pos (by omega)), fun _ => ⟨fun c => ?_, fun c => h0 p ?_ rfl⟩⟩
    · rw [li_le] at c
      intro y1 e1 y2 e2
      have f1 := TF.up e1 (by decide)
      have f2 := f1.tr (TF.up e2 (by decide))
      have key : ∀ f p' (v w : Int32) (y : XX), n - p' = f → p' ≤ n → TF x y → (∀ j, j ≠ 2 → j ≠ 3 → y 3 j = x 3 j) → y 3 2 = nI p' → y 3 3 = v → (∃ a, a < 1000 ∧ v = nI a) → pNu T n m p = .inr (nuL T n m f p' v) → Go mX4_readNumber (d + 1) 31 [some (.inr 3), some (.inl m), some (.inl w)] [] y Q := by
        intro f
        induction f with
        | zero =>
          intro p' v w y hf hp' hy hj h2 h3 hv hr
          have hTy := hT.f hy.D
          refine g_X4_readNumber_31 ⟨fun _ => h1 y _ hy hr h2 h3 hj, fun c => absurd (by rw [h2, hTy.1]; exact nI_le (by omega) (by omega)) c⟩
        | succ f ih =>
          intro p' v w y hf hp' hy hj h2 h3 hv hr
          have hTy := hT.f hy.D
          obtain ⟨a, ha, hva⟩ := hv
          refine g_X4_readNumber_31 ⟨fun c => absurd c (by rw [h2, hTy.1]; exact nI_ge (by omega) (by omega)), fun _ => ⟨fun c => ?_, fun c => ?_⟩⟩
          · rw [h3, li_le, show (0 : Int32).toInt = 0 from rfl] at c
            refine h1 y _ hy hr ?_ ?_ hj
            · unfold nuL; rw [if_neg (by omega)]; exact h2
            · unfold nuL; rw [if_neg (by omega)]; exact h3
          · rw [h3, li_le, show (0 : Int32).toInt = 0 from rfl] at c
            refine k_digitHere hTy h2 hp' (fun hd => ⟨fun _ => h1 y _ hy hr ?_ ?_ hj, fun c => absurd (by decide) c⟩) (fun g hd => ?_)
            · unfold nuL; rw [if_pos (by omega), hd]; exact h2
            · unfold nuL; rw [if_pos (by omega), hd]; exact h3
            · obtain ⟨b1, -, j, b2, b3⟩ := dg_s hd
              rw [h3]
              refine ⟨fun c => absurd c (by rw [b3]; exact nI_pos (by omega)), fun _ => ⟨fun c2 => ?_, fun c2 => h1 y _ hy hr ?_ ?_ hj⟩⟩
              · rw [li_le] at c2
                intro y3 e3 y4 e4
                have g3 := TF.up e3 (by decide)
                have g4 := g3.tr (TF.up e4 (by decide))
                have e : v * 10 + g = nI (a * 10 + j) := by rw [hva, b3, show (10 : Int32) = nI 10 from rfl, pk_mul, nI_add]
                refine ih (p' + 1) (v * 10 + g) g y4 (by omega) (by omega) (hy.tr g4) (fun i hi hi2 => by rw [up_ne e4 hi, up_ne e3 hi2]; exact hj i hi hi2) ?_ ?_ ⟨a * 10 + j, ?_, e⟩ ?_
                · rw [up_at e4, up_ne e3 (by decide), h2, nI_1]
                · rw [up_ne e4 (by decide), up_at e3]
                · rw [e, nI_toInt (by omega)] at c2
                  omega
                · rw [hr]
                  conv => lhs; unfold nuL
                  rw [if_pos (by omega), hd]
                  dsimp only
                  rw [if_pos c2]
              · rw [li_le] at c2
                unfold nuL; rw [if_pos (by omega), hd]; dsimp only; rw [if_neg c2]; exact h2
              · rw [li_le] at c2
                unfold nuL; rw [if_pos (by omega), hd]; dsimp only; rw [if_neg c2]; exact h3
      refine key (n - (p + 1)) (p + 1) g g y2 rfl (by omega) f2 (fun i hi hi2 => by rw [up_ne e2 hi, up_ne e1 hi2]) ?_ ?_ ⟨j, by omega, a3⟩ ?_
      · rw [up_at e2, up_ne e1 (by decide), hp, nI_1]
      · rw [up_ne e2 (by decide), up_at e1]
      · unfold pNu; rw [hd]; dsimp only; rw [if_pos c]
    · rw [li_le] at c
      unfold pNu; rw [hd]; dsimp only; rw [if_neg c]
theorem k_readSpan (hT : RT x T n) (hp : x 3 2 = nI p) (hpn : p ≤ n) (h0 : ∀ y e, TF x y → pSp T n p = .inl e → y 3 2 = nI e → Q 0 y) (h1 : ∀ y r, TF x y → pSp T n p = .inr r → y 3 2 = nI r.1 → y 3 4 = r.2.1 → y 3 5 = r.2.2 → Q 1 y) : Call mX4_readSpan (d + 2) [.inr 3] x Q := by
  refine call_of_go ok_X4_readSpan.1 (Nat.le_of_ble_eq_true rfl) rfl (g_X4_readSpan_0 ?_)
  refine k_readNumber (by decide) hT hp hpn (fun e he hep => ?_) (fun y1 r1 f1 a1 b1 c1 _ => ?_)
  · exact ⟨fun c => absurd rfl c, fun _ => h0 x e TF.rf (by unfold pSp; rw [he]; rfl) (by rw [hep]; exact hp)⟩
  · have s1 := pNu_s (m := 99) (by omega) a1
    refine ⟨fun _ => ?_, fun c => absurd c (by decide)⟩
    intro y2 e2
    have f2 := f1.tr (TF.up e2 (by decide))
    have p2 : y2 3 2 = nI r1.1 := by rw [up_ne e2 (by decide)]; exact b1
    refine k_readSign (hT.f f2.D) p2 s1.2.1 (fun e he hep => ?_) (fun y3 q3 f3 a3 b3 c3 => ?_)
    · exact ⟨fun _ => h0 y2 e f2 (by unfold pSp; rw [a1, sb_r, he]; rfl) (by rw [hep]; exact p2), fun c => absurd rfl c⟩
    · have s3 := pSg_s a3
      have f3' := f2.tr f3
      refine ⟨fun c => absurd c (by decide), fun _ => k_readNumber (by decide) (hT.f f3'.D) b3 (by omega) (fun e he hep => ?_) (fun y4 r4 f4 a4 b4 c4 d4 => ?_)⟩
      · exact ⟨fun c => absurd rfl c, fun _ => h0 y3 e f3' (by unfold pSp; rw [a1, sb_r, a3, sb_r, he]; rfl) (by rw [hep]; exact b3)⟩
      · refine ⟨fun _ => ?_, fun c => absurd c (by decide)⟩
        intro y5 e5
        refine h1 y5 (r4.1, r1.2, r4.2) ((f3'.tr f4).tr (TF.up e5 (by decide))) (by unfold pSp; rw [a1, sb_r, a3, sb_r, a4]; rfl) ?_ ?_ ?_
        · rw [up_ne e5 (by decide)]; exact b4
        · rw [up_ne e5 (by decide), d4 4 (by decide) (by decide), c3 4 (by decide), up_at e2]; exact c1
        · rw [up_at e5]; exact c4
theorem TD.cl {x y : XX} (h : ∀ a, (a < 4 ∨ 4 + 10 ≤ a) → y a = x a) : TD x y := ⟨fun a _ hb => h a (by omega), by rw [h 3 (by omega)]⟩
theorem apL_snoc {s : Row} {k : Nat} {e : Int32 × Int32} : ∀ {l : List (Int32 × Int32)} {s : Row}, apL s k (l ++ [e]) = exS (apL s k l) k e.1 e.2
  | [], s => rfl
  | f :: l, s => apL_snoc (s := s) (l := l)
/-- the exceptions of the clause that was read last -/
theorem k_readExceptions (hT : RT x T n) (hp : x 3 2 = nI p) (hpn : p ≤ n) (ht : WF t) (hR : RC x 4 t) (hk : k < nC t) (hE : nE t k = 0)
    (h0 : ∀ y e, TD x y → (sb (pSp T n p) fun w => sb (pEr T n 2 w.1) fun z => .inr (z.1, w.2 :: z.2)) = .inl e → y 3 2 = nI e → Q 0 y)
    (h1 : ∀ y z, TD x y → (sb (pSp T n p) fun w => sb (pEr T n 2 w.1) fun z => .inr (z.1, w.2 :: z.2)) = .inr z → y 3 2 = nI z.1 → RC y 4 (apL t k z.2) → Q 1 y) : Call mX4_readExceptions (d + 3) [.inr 3, .inr 4, .inl (nI k)] x Q := by
  refine call_of_go ok_X4_readExceptions.1 (Nat.le_of_ble_eq_true rfl) rfl (g_X4_readExceptions_0 ?_)
  have key : ∀ r i, i + r = 3 → 1 ≤ i → ∀ (l : List (Int32 × Int32)) (p : Nat) (y : XX), l.length = i → p ≤ n → TD x y → y 3 2 = nI p → RC y 4 (apL t k l) → (∀ y e, TD x y → pEr T n r p = .inl e → y 3 2 = nI e → Q 0 y) → (∀ y z, TD x y → pEr T n r p = .inr z → y 3 2 = nI z.1 → RC y 4 (apL t k (l ++ z.2)) → Q 1 y) → Go mX4_readExceptions (d + 3) 2 [some (.inr 3), some (.inr 4), some (.inl (nI k)), some (.inl (nI i))] [] y Q := by
    intro r
    induction r with
    | zero =>
      intro i hi h1i l p y hl hpn hy h2 hRy g0 g1
      have : i = 3 := by omega
      subst this
      exact g_X4_readExceptions_2 ⟨fun _ => g1 y (p, []) hy rfl h2 (by rw [List.append_nil]; exact hRy), fun c => absurd le_n c⟩
    | succ r ih =>
      intro i hi h1i l p y hl hpn hy h2 hRy g0 g1
      have hTy := hT.f hy
      have hal := apL_f (k := k) (l := l) ht (by rw [hE]; omega)
      refine g_X4_readExceptions_2 ⟨fun c => absurd c (ge_n (m := 3) (by omega) (by decide)), fun _ => ⟨fun c => absurd c (nI_nle (by omega) (by omega)), fun _ => k_readSign hTy h2 hpn (fun e he hep => ?_) (fun y1 q1 f1 a1 b1 c1 => ?_)⟩⟩
      · refine ⟨fun c => absurd rfl c, fun _ => g1 y (p, []) hy ?_ h2 (by rw [List.append_nil]; exact hRy)⟩
        unfold pEr; rw [he]
      · have s1 := pSg_s a1
        refine ⟨fun _ => ?_, fun c => absurd c (by decide)⟩
        refine k_readSpan (hTy.f f1.D) b1 (by omega) (fun y2 e f2 he h2' => ?_) (fun y2 w f2 he b2 c2 d2 => ?_)
        · refine ⟨fun c => absurd rfl c, fun _ => g0 y2 e (hy.tr (f1.tr f2).D) ?_ h2'⟩
          unfold pEr; rw [a1]; dsimp only; rw [he]; rfl
        · have s2 := pSp_s he
          refine ⟨fun _ => ?_, fun c => absurd c (by decide)⟩
          rw [c2, d2]
          have f12 := (f1.tr f2)
          refine k_addException hal.1 isCl_4 (hRy.same (fun a q1 q2 => f12.1 a (by omega))) (by rw [hal.2.1]; exact hk) (by rw [hal.2.2, hE]; omega) (fun y3 o3 hR3 => ?_)
          rw [nI_1]
          have hy3 := (hy.tr f12.D).tr (TD.cl o3)
          refine ih (i + 1) (by omega) (by omega) (l ++ [w.2]) w.1 y3 (by simp [hl]) s2.2.1 hy3 (by rw [o3 3 (by omega)]; exact b2) (by rw [apL_snoc (s := t)]; exact hR3) (fun y4 e g4 he4 h4 => g0 y4 e g4 ?_ h4) (fun y4 z g4 he4 h4 hR4 => g1 y4 (z.1, w.2 :: z.2) g4 ?_ h4 (by rw [List.append_assoc] at hR4; exact hR4))
          · unfold pEr; rw [a1]; dsimp only; rw [he, sb_r, he4]; rfl
          · unfold pEr; rw [a1]; dsimp only; rw [he, sb_r, he4]; rfl
  refine g_X4_readExceptions_2 ⟨fun c => absurd c (by decide), fun _ => ⟨fun _ => ?_, fun c => absurd (by decide) c⟩⟩
  refine k_readSpan hT hp hpn (fun y2 e f2 he h2' => ?_) (fun y2 w f2 he b2 c2 d2 => ?_)
  · exact ⟨fun c => absurd rfl c, fun _ => h0 y2 e f2.D (by rw [he]; rfl) h2'⟩
  · have s2 := pSp_s he
    refine ⟨fun _ => ?_, fun c => absurd c (by decide)⟩
    rw [c2, d2]
    refine k_addException ht isCl_4 (hR.same (fun a q1 q2 => f2.1 a (by omega))) hk (by omega) (fun y3 o3 hR3 => ?_)
    have hy3 := f2.D.tr (TD.cl o3)
    refine key 2 1 rfl (Nat.le_refl 1) [w.2] w.1 y3 rfl s2.2.1 hy3 (by rw [o3 3 (by omega)]; exact b2) hR3 (fun y4 e g4 he4 h4 => h0 y4 e g4 ?_ h4) (fun y4 z g4 he4 h4 hR4 => h1 y4 (z.1, w.2 :: z.2) g4 ?_ h4 hR4)
    · rw [he, sb_r, he4]; rfl
    · rw [he, sb_r, he4]; rfl
end TX
section TX2
variable {d : Nat} {x : XX} {Q : Int32 → XX → Prop} {s t : Row} {k : Nat} {T : Txt} {n p : Nat}
theorem k_readClause (hT : RT x T n) (hp : x 3 2 = nI p) (hpn : p ≤ n) (ht : WF t) (hR : RC x 4 t) (hn : nC t < 30)
    (h0 : ∀ y e, TD x y → pCl T n p = .inl e → y 3 2 = nI e → Q 0 y)
    (h1 : ∀ y c, TD x y → pCl T n p = .inr c → y 3 2 = nI c.1 → RC y 4 (app t c.2) → Q 1 y) : Call mX4_readClause (d + 4) [.inr 3, .inr 4] x Q := by
  refine call_of_go ok_X4_readClause.1 (Nat.le_of_ble_eq_true rfl) rfl (g_X4_readClause_0 ?_)
  refine k_readNumber (by decide) hT hp hpn (fun e he hep => ⟨fun c => absurd rfl c, fun _ => h0 x e TD.rf (by unfold pCl; rw [show pNu T n 5 p = .inl e from he]; rfl) (by rw [hep]; exact hp)⟩) (fun x1 r1 f1 a1 b1 c1 _ => ⟨fun _ => ?_, fun c => absurd c (by decide)⟩)
  have s1 := pNu_s (m := 5) (by omega) a1
  refine k_readSign (hT.f f1.D) b1 s1.2.1 (fun e he hep => ⟨fun _ => h0 x1 e f1.D (by unfold pCl; rw [a1, sb_r, he]; rfl) (by rw [hep]; exact b1), fun c => absurd rfl c⟩) (fun x2 r2 g2 a2 b2 _ => ⟨fun c => absurd c (by decide), fun _ => ?_⟩)
  have s2 := pSg_s a2
  have f2 := f1.tr g2
  refine k_readNumber (by decide) (hT.f f2.D) b2 (by omega) (fun e he hep => ⟨fun c => absurd rfl c, fun _ => h0 x2 e f2.D (by unfold pCl; rw [a1, sb_r, a2, sb_r, he]; rfl) (by rw [hep]; exact b2)⟩) (fun x3 r3 g3 a3 b3 c3 _ => ⟨fun _ => ?_, fun c => absurd c (by decide)⟩)
  have s3 := pNu_s (m := 999) (by omega) a3
  have f3 := f2.tr g3
  refine k_readSign (hT.f f3.D) b3 s3.2.1 (fun e he hep => ⟨fun _ => h0 x3 e f3.D (by unfold pCl; rw [a1, sb_r, a2, sb_r, a3, sb_r, he]; rfl) (by rw [hep]; exact b3), fun c => absurd rfl c⟩) (fun x4 r4 g4 a4 b4 _ => ⟨fun c => absurd c (by decide), fun _ => ?_⟩)
  have s4 := pSg_s a4
  have f4 := f3.tr g4
  refine k_readSpan (hT.f f4.D) b4 (by omega) (fun x5 e g5 he h5 => ⟨fun _ => h0 x5 e (f4.tr g5).D (by unfold pCl; rw [a1, sb_r, a2, sb_r, a3, sb_r, a4, sb_r, he]; rfl) h5, fun c => absurd rfl c⟩) (fun x5 r5 g5 a5 b5 c5 d5 => ⟨fun c => absurd c (by decide), fun _ => ?_⟩)
  have s5 := pSp_s a5
  have f5 := f4.tr g5
  refine k_readSign (hT.f f5.D) b5 s5.2.1 (fun e he hep => ⟨fun _ => h0 x5 e f5.D (by unfold pCl; rw [a1, sb_r, a2, sb_r, a3, sb_r, a4, sb_r, a5, sb_r, he]; rfl) (by rw [hep]; exact b5), fun c => absurd rfl c⟩) (fun x6 r6 g6 a6 b6 e6 => ⟨fun c => absurd c (by decide), fun _ => ?_⟩)
  have s6 := pSg_s a6
  have f6 := f5.tr g6
  refine k_readNumber (by decide) (hT.f f6.D) b6 (by omega) (fun e he hep => ⟨fun c => absurd rfl c, fun _ => h0 x6 e f6.D (by unfold pCl; rw [a1, sb_r, a2, sb_r, a3, sb_r, a4, sb_r, a5, sb_r, a6, sb_r, he]; rfl) (by rw [hep]; exact b6)⟩) (fun x7 r7 g7 a7 b7 c7 e7 => ⟨fun _ => ?_, fun c => absurd c (by decide)⟩)
  have s7 := pNu_s (m := 9) (by omega) a7
  have f7 := f6.tr g7
  have v4 : x7 3 4 = r5.2.1 := by rw [e7 4 (by decide) (by decide), e6 4 (by decide)]; exact c5
  have v5 : x7 3 5 = r5.2.2 := by rw [e7 5 (by decide) (by decide), e6 5 (by decide)]; exact d5
  rw [c1, c3, v4, v5, c7]
  refine k_add ht isCl_4 (hR.same (fun a q1 q2 => f7.1 a (by omega))) hn (fun x8 o8 hR8 => ?_)
  have f8 := f7.D.tr (TD.cl o8)
  have w8 := wf_wrS (v := r7.2) ht hn s1.2.2 s3.2.2 s5.2.2.1 s5.2.2.2
  have b8 : x8 3 2 = nI r7.1 := by rw [o8 3 (by omega)]; exact b7
  have pre : pCl T n p = sb (pXs T n r7.1) fun z => .inr (z.1, r1.2, r3.2, r5.2.1, r5.2.2, r7.2, z.2) := by
    unfold pCl; rw [a1, sb_r, a2, sb_r, a3, sb_r, a4, sb_r, a5, sb_r, a6, sb_r, a7, sb_r]
  refine k_readSign (hT.f f8) b8 s7.2.1 (fun e he hep => ⟨fun _ => h1 x8 (r7.1, r1.2, r3.2, r5.2.1, r5.2.2, r7.2, []) f8 ?_ b8 hR8, fun c => absurd rfl c⟩) (fun x9 r9 g9 a9 b9 _ => ⟨fun c => absurd c (by decide), fun _ => ?_⟩)
  · rw [pre]; unfold pXs; rw [he]; rfl
  · have s9 := pSg_s a9
    have f9 := f8.tr g9.D
    have px : pXs T n r7.1 = sb (pSp T n r9) fun w => sb (pEr T n 2 w.1) fun z => .inr (z.1, w.2 :: z.2) := by unfold pXs; rw [a9]
    refine k_readExceptions (hT.f f9) b9 (by omega) w8 (hR8.same (fun a q1 q2 => g9.1 a (by omega))) (by rw [nC_wrS (by omega)]; omega) nE_wrS_on (fun y e g he h5 => ⟨fun _ => h0 y e (f9.tr g) (by rw [pre, px, he]; rfl) h5, fun c => absurd rfl c⟩) (fun y z g he h5 hRy => ⟨fun c => absurd c (by decide), fun _ => h1 y (z.1, r1.2, r3.2, r5.2.1, r5.2.2, r7.2, z.2) (f9.tr g) (by rw [pre, px, he]; rfl) h5 hRy⟩)
theorem k_readClauses {tz : Row} (hz : WF tz) (hz0 : nC tz = 0) (hT : RT x T n)
    (h0 : ∀ y e, TD x y → pTx T n = .inl e → y 3 2 = nI e → Q 0 y)
    (h1 : ∀ y l, TD x y → pTx T n = .inr l → RC y 4 (l.foldl app tz) → Q 1 y) : Call mX4_readClauses (d + 5) [.inr 3, .inr 4] x Q := by
  have h80 := hT.2.1
  refine call_of_go ok_X4_readClauses.1 (Nat.le_of_ble_eq_true rfl) rfl (g_X4_readClauses_0 ?_)
  intro y1 e1 y2 e2
  have f1 := TF.up e1 (by decide)
  have hd : TD x y2 := ⟨fun a ha hb => by rw [e2, up2_off (by omega)]; exact f1.1 a ha, by rw [e2, up2_off (by decide)]; exact f1.2⟩
  have hR2 : RC y2 4 tz := ⟨by rw [e2, hz.2.1, hz0]; simp [up2]; rfl, fun k hk => by omega⟩
  have b2 : y2 3 2 = nI 0 := by rw [e2, up2_off (by decide), up_at e1]; rfl
  have key : ∀ f p i (t : Row) (y : XX), n + 1 = p + f → 9 * i ≤ p → p ≤ n → WF t → nC t = i → TD x y → y 3 2 = nI p → RC y 4 t → (∀ y e, TD x y → pAll T n f p = .inl e → y 3 2 = nI e → Q 0 y) → (∀ y l, TD x y → pAll T n f p = .inr l → RC y 4 (l.foldl app t) → Q 1 y) → Go mX4_readClauses (d + 5) 12 [some (.inr 3), some (.inr 4), some (.inl (nI i))] [] y Q := by
    intro f
    induction f using Nat.strongRecOn with
    | _ f ih =>
      intro p i t y hf hip hpn ht hti hy h2 hRt g0 g1
      obtain ⟨f, rfl⟩ : ∃ f', f = f' + 1 := ⟨f - 1, by omega⟩
      refine g_X4_readClauses_12 ⟨fun c => absurd c (nI_nlt (a := 80) (b := i) (by omega) (by omega)), fun _ => ?_⟩
      refine k_readClause (hT.f hy) h2 hpn ht hRt (by omega) (fun y3 e k3 he h3 => ⟨fun c => absurd rfl c, fun _ => g0 y3 e (hy.tr k3) (by unfold pAll; rw [he]; rfl) h3⟩) (fun y3 c k3 he h3 hR3 => ⟨fun _ => ?_, fun c => absurd c (by decide)⟩)
      have s3 := pCl_s he
      have d3 := hy.tr k3
      have hT3 := hT.f d3
      have ha := app_f ht (by omega) s3.2.2
      rw [h3, hT3.1]
      refine ⟨fun q => ?_, fun q => ?_⟩
      · have hne : ¬ c.1 = n := fun z => q (by rw [z])
        have pre : pAll T n (f + 1) p = sb (pSg T n 59 c.1) fun p2 => sb (pAll T n f p2) fun l => .inr (c.2 :: l) := by
          conv => lhs; unfold pAll
          rw [he, sb_r, if_neg hne]
        refine k_readSign hT3 h3 s3.2.1 (fun e he4 hep => ⟨fun c => absurd rfl c, fun _ => g0 y3 e d3 (by rw [pre, he4]; rfl) (by rw [hep]; exact h3)⟩) (fun y4 q4 k4 a4 b4 _ => ⟨fun _ => ?_, fun c => absurd c (by decide)⟩)
        have s4 := pSg_s a4
        rw [nI_1]
        obtain ⟨j, hj⟩ : ∃ j, n + 1 = q4 + j := ⟨n + 1 - q4, by omega⟩
        have hfj : pAll T n f q4 = pAll T n j q4 := pAll_fuel (by omega) (by omega)
        refine ih j (by omega) q4 (i + 1) (app t c.2) y4 hj (by omega) (by omega) ha.1 (by rw [ha.2, hti]) (d3.tr k4.D) b4 (hR3.same (fun a q1 q2 => k4.1 a (by omega))) (fun y5 e k5 he5 h5 => g0 y5 e k5 (by rw [pre, a4, sb_r, hfj, he5]; rfl) h5) (fun y5 l k5 he5 hR5 => g1 y5 (c.2 :: l) k5 (by rw [pre, a4, sb_r, hfj, he5]; rfl) hR5)
      · have hne : c.1 = n := by rwa [nI_eq (by omega) (by omega)] at q
        exact g1 y3 [c.2] d3 (by unfold pAll; rw [he, sb_r, if_pos hne]) hR3
  exact key (n + 1) 0 0 tz y2 (by omega) (by omega) (by omega) hz hz0 hd b2 hR2 h0 h1
end TX2
