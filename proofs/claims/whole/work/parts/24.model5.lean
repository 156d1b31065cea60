section M5
variable {d : Nat} {x : XX} {Q : Int32 → XX → Prop} {s : Row} {k : Nat} {T : Txt} {n p : Nat}
theorem fold_app {s : Row} : ∀ {l : List Cl}, WF s → (∀ c ∈ l, okCl c) → nC s + l.length ≤ 30 → WF (l.foldl app s) ∧ nC (l.foldl app s) = nC s + l.length
  | [], hW, _, _ => ⟨hW, rfl⟩
  | c :: l, hW, hok, hn => by
    have hc := hok c List.mem_cons_self
    have h1 := app_f hW (by simp at hn; omega) hc
    have := fold_app (s := app s c) (l := l) h1.1 (fun e he => hok e (List.mem_cons_of_mem _ he)) (by rw [h1.2]; simp at hn; omega)
    refine ⟨this.1, ?_⟩
    show nC (l.foldl app (app s c)) = _
    rw [this.2, h1.2, List.length_cons]
    omega
theorem pAll_ok : ∀ {f p : Nat} {l : List Cl}, pAll T n f p = .inr l → ∀ c ∈ l, okCl c
  | 0, p, l, h => by cases h
  | f + 1, p, l, h => by
    unfold pAll at h
    obtain ⟨c, h1, h⟩ := sb_s h
    have hc := (pCl_s h1).2.2
    split at h
    · cases h
      intro e he
      rcases List.mem_cons.mp he with q | q
      · rw [q]; exact hc
      · cases q
    · obtain ⟨p2, h2, h⟩ := sb_s h
      obtain ⟨l', h3, h⟩ := sb_s h
      cases h
      intro e he
      rcases List.mem_cons.mp he with q | q
      · rw [q]; exact hc
      · exact pAll_ok h3 e q
theorem pAll_len : ∀ {f p : Nat} {l : List Cl}, p ≤ n → pAll T n f p = .inr l → 9 * l.length ≤ n - p
  | 0, p, l, _, h => by cases h
  | f + 1, p, l, hp, h => by
    unfold pAll at h
    obtain ⟨c, h1, h⟩ := sb_s h
    have hc := pCl_s h1
    split at h
    · cases h
      show 9 * 1 ≤ n - p
      omega
    · obtain ⟨p2, h2, h⟩ := sb_s h
      obtain ⟨l', h3, h⟩ := sb_s h
      have hs := pSg_s h2
      cases h
      have := pAll_len (by omega) h3
      show 9 * (l'.length + 1) ≤ n - p
      omega
theorem q6_reads {z : Bool} (hT : TM x T n) (hR : RM x s) (hz : z = true → WF s ∧ ∃ l, pTx T n = .inr l ∧ nC s + l.length ≤ 30)
    (h0 : ∀ r y e, MG x y → z = false → RM y s → pTx T n = .inl e → MP y e true → Q r y)
    (h1 : ∀ y l, MG x y → pTx T n = .inr l → y 105 10 = 0 → y 105 11 = bI (l.any badC) → RM y (if z then l.foldl app s else s) → Q (nI l.length) y) : Call mX6_reads (d + 6) [.inr 105, .inl (bI z)] x Q := by
  have h80 := hT.2.1
  refine call_of_go ok_X6_reads.1 (Nat.le_of_ble_eq_true rfl) rfl (g_X6_reads_0 ?_)
  intro y1 e1 y2 e2 y3 e3
  have m1 := MF.up e1 (by decide)
  have m2 := m1.tr (MF.up e2 (by decide))
  have m3 := m2.tr (MF.up e3 (by decide))
  have key : ∀ f p i (si : Row) (b : Bool) (y : XX), n + 1 = p + f → p ≤ n → TM y T n → MS n y (.inr p) → y 105 11 = bI b → RM y si → (z = true → WF si ∧ ∃ l, pAll T n f p = .inr l ∧ nC si + l.length ≤ 30) →
      (∀ r y' e, MG y y' → z = false → RM y' si → pAll T n f p = .inl e → MP y' e true → Q r y') →
      (∀ y' l, MG y y' → pAll T n f p = .inr l → y' 105 10 = 0 → y' 105 11 = bI (b || l.any badC) → RM y' (if z then l.foldl app si else si) → Q (nI (i + l.length)) y') →
      Go mX6_reads (d + 6) 19 [some (.inr 105), some (.inl (bI z)), some (.inl (nI i)), some (.inl 1), none] [] y Q := by
    intro f
    induction f using Nat.strongRecOn with
    | _ f ih =>
      intro p i si b y hf hpn hTy hS hb hRy hzz g0 g1
      obtain ⟨f, rfl⟩ : ∃ f', f = f' + 1 := ⟨f - 1, by omega⟩
      have hzc : z = true → WF si ∧ nC si < 30 ∧ ∃ c, pCl T n p = .inr c := by
        intro hz1
        obtain ⟨w1, l, hl, hn⟩ := hzz hz1
        unfold pAll at hl
        obtain ⟨c, hc, hl⟩ := sb_s hl
        refine ⟨w1, ?_, c, hc⟩
        split at hl
        · cases hl; simp at hn; omega
        · obtain ⟨p2, -, hl⟩ := sb_s hl
          obtain ⟨l', -, hl⟩ := sb_s hl
          cases hl
          simp at hn
          omega
      refine g_X6_reads_19 ⟨fun c => absurd c (by decide), fun _ => q6_readClause hTy hS hb hRy hzc (fun y4 b4 k4 s4 e4 r4 f4 => ?_)⟩
      cases hc : pCl T n p with
      | inl e =>
        rw [hc] at s4
        have hz0 : z = false := by
          cases hz0 : z with
          | false => rfl
          | true => obtain ⟨-, -, c, hcc⟩ := hzc hz0; rw [hc] at hcc; cases hcc
        have hp : pAll T n (f + 1) p = .inl e := by unfold pAll; rw [hc]; rfl
        refine ⟨fun _ => g_X6_reads_19 ⟨fun _ => g0 _ y4 e k4 hz0 (r4 hz0) hp s4.2, fun c => absurd rfl c⟩, fun c => ?_⟩
        rw [s4.2.2] at c
        exact absurd c (by decide)
      | inr c =>
        rw [hc] at s4
        obtain ⟨hR4, hb4⟩ := f4 c hc
        have sc := pCl_s hc
        have hT4 := hTy.f k4
        refine ⟨fun q => absurd s4.2.2 q, fun _ => ?_⟩
        rw [s4.2.1, hT4.1]
        by_cases hcn : c.1 = n
        · have hp : pAll T n (f + 1) p = .inr [c.2] := by unfold pAll; rw [hc, sb_r, if_pos hcn]
          refine ⟨fun _ => g_X6_reads_19 ⟨fun _ => ?_, fun q => absurd rfl q⟩, fun q => absurd (by show nI n ≤ nI c.1; rw [hcn]; exact le_n) q⟩
          rw [nI_1]
          refine g1 y4 [c.2] k4 hp s4.2.2 (by rw [e4, hb4]; simp) ?_
          cases z <;> exact hR4
        · refine ⟨fun q => absurd q (ge_n (k := c.1) (by omega) (by omega)), fun _ => ?_⟩
          have pre : pAll T n (f + 1) p = sb (pSg T n 59 c.1) fun p2 => sb (pAll T n f p2) fun l => .inr (c.2 :: l) := by
            conv => lhs; unfold pAll
            rw [hc, sb_r, if_neg hcn]
          have s4' : MS n y4 (.inr c.1) := s4
          refine q6_sign hT4 s4' (fun y5 u5 m5 s5 f5 => ?_)
          rw [sb_r] at s5
          have hR5 := hR4.f m5
          have b5 : y5 105 11 = bI b4 := by rw [f5 11 (by decide) (by decide)]; exact e4
          cases hs : pSg T n 59 c.1 with
          | inl e =>
            rw [hs] at s5
            have hp : pAll T n (f + 1) p = .inl e := by rw [pre, hs]; rfl
            have hz0 : z = false := by
              cases hz0 : z with
              | false => rfl
              | true => obtain ⟨-, l, hl, -⟩ := hzz hz0; rw [hp] at hl; cases hl
            refine ⟨fun _ => g_X6_reads_19 ⟨fun _ => g0 _ y5 e (k4.tr m5.G) hz0 (by rw [if_z0 hz0] at hR5; exact hR5) hp s5.2, fun c => absurd rfl c⟩, fun q => ?_⟩
            rw [s5.2.2] at q
            exact absurd q (by decide)
          | inr p2 =>
            rw [hs] at s5
            have ss := pSg_s hs
            refine ⟨fun q => absurd s5.2.2 q, fun _ => ?_⟩
            rw [nI_1]
            obtain ⟨j, hj⟩ : ∃ j, n + 1 = p2 + j := ⟨n + 1 - p2, by omega⟩
            have hfj : pAll T n f p2 = pAll T n j p2 := pAll_fuel (by omega) (by omega)
            refine ih j (by omega) p2 (i + 1) (if z then app si c.2 else si) b4 y5 hj (by omega) (hT4.f m5.G) s5 b5 hR5 (fun hz1 => ?_) (fun r y6 e k6 hz0 r6 he6 mp6 => ?_) (fun y6 l k6 he6 a6 b6 r6 => ?_)
            · obtain ⟨w1, l, hl, hn⟩ := hzz hz1
              rw [pre, hs, sb_r, hfj] at hl
              obtain ⟨l', hl', hl⟩ := sb_s hl
              cases hl
              have hn : nC si + (l'.length + 1) ≤ 30 := hn
              have ha := app_f w1 (by omega) sc.2.2
              rw [hz1]
              exact ⟨ha.1, l', hl', by show nC (app si c.2) + l'.length ≤ 30; rw [ha.2]; omega⟩
            · refine g0 r y6 e ((k4.tr m5.G).tr k6) hz0 (by rw [if_z0 hz0] at r6; exact r6) (by rw [pre, hs, sb_r, hfj, he6]; rfl) mp6
            · have := g1 y6 (c.2 :: l) ((k4.tr m5.G).tr k6) (by rw [pre, hs, sb_r, hfj, he6]; rfl) a6 (by rw [b6, hb4]; simp [Bool.or_assoc]) (by cases z <;> exact r6)
              rw [List.length_cons] at this
              rw [show i + 1 + l.length = i + (l.length + 1) by omega]
              exact this
  refine key (n + 1) 0 0 s false y3 (by omega) (by omega) (hT.f m3.G) ⟨by omega, ?_, ?_⟩ (u5_at e3) (hR.f m3) (fun hz1 => hz hz1) (fun r y e k hz0 r6 he mp => h0 r y e (m3.G.tr k) hz0 r6 he mp) (fun y l k he a b r => ?_)
  · rw [u5_ne e3 (by decide), u5_ne e2 (by decide), u5_at e1]; rfl
  · rw [u5_ne e3 (by decide), u5_at e2]; rfl
  · rw [Nat.zero_add]
    exact h1 y l (m3.G.tr k) he a (by simpa using b) r
end M5
