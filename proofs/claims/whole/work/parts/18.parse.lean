/-! PURE: the reading of a text: .inl the fault, or .inr what was read and the place behind it -/
abbrev Txt : Type := Nat → Int32
abbrev Cl : Type := Int32 × Int32 × Int32 × Int32 × Int32 × List (Int32 × Int32)
def sb {α β : Type} (r : Nat ⊕ α) (f : α → Nat ⊕ β) : Nat ⊕ β := match r with
  | .inl e => .inl e
  | .inr a => f a
theorem sb_l {α β : Type} {e : Nat} {f : α → Nat ⊕ β} : sb (.inl e) f = .inl e := rfl
theorem sb_r {α β : Type} {a : α} {f : α → Nat ⊕ β} : sb (.inr a) f = f a := rfl
def dg (T : Txt) (n p : Nat) : Option Int32 := if p < n ∧ 48 ≤ (T p).toInt ∧ (T p).toInt ≤ 57 then some (T p - 48) else none
def nuL (T : Txt) (n : Nat) (m : Int32) : Nat → Nat → Int32 → Nat × Int32
  | 0, p, v => (p, v)
  | f + 1, p, v => if 0 < v.toInt then (match dg T n p with
      | none => (p, v)
      | some g => if (v * 10 + g).toInt ≤ m.toInt then nuL T n m f (p + 1) (v * 10 + g) else (p, v)) else (p, v)
def pNu (T : Txt) (n : Nat) (m : Int32) (p : Nat) : Nat ⊕ (Nat × Int32) := match dg T n p with
  | none => .inl p
  | some g => if g.toInt ≤ m.toInt then .inr (nuL T n m (n - (p + 1)) (p + 1) g) else .inl p
def pSg (T : Txt) (n : Nat) (c : Int32) (p : Nat) : Nat ⊕ Nat := if p < n ∧ T p = c then .inr (p + 1) else .inl p
def pSp (T : Txt) (n p : Nat) : Nat ⊕ (Nat × Int32 × Int32) := sb (pNu T n 99 p) fun r => sb (pSg T n 45 r.1) fun p2 => sb (pNu T n 99 p2) fun q => .inr (q.1, r.2, q.2)
def pEr (T : Txt) (n : Nat) : Nat → Nat → Nat ⊕ (Nat × List (Int32 × Int32))
  | 0, p => .inr (p, [])
  | r + 1, p => match pSg T n 44 p with
    | .inl _ => .inr (p, [])
    | .inr p2 => sb (pSp T n p2) fun w => sb (pEr T n r w.1) fun z => .inr (z.1, w.2 :: z.2)
def pXs (T : Txt) (n p : Nat) : Nat ⊕ (Nat × List (Int32 × Int32)) := match pSg T n 33 p with
  | .inl _ => .inr (p, [])
  | .inr p2 => sb (pSp T n p2) fun w => sb (pEr T n 2 w.1) fun z => .inr (z.1, w.2 :: z.2)
def pCl (T : Txt) (n p : Nat) : Nat ⊕ (Nat × Cl) := sb (pNu T n 5 p) fun c => sb (pSg T n 64 c.1) fun p2 => sb (pNu T n 999 p2) fun dt => sb (pSg T n 58 dt.1) fun p4 => sb (pSp T n p4) fun w => sb (pSg T n 61 w.1) fun p6 => sb (pNu T n 9 p6) fun v => sb (pXs T n v.1) fun z => .inr (z.1, c.2, dt.2, w.2.1, w.2.2, v.2, z.2)
def pAll (T : Txt) (n : Nat) : Nat → Nat → Nat ⊕ List Cl
  | 0, p => .inl p
  | f + 1, p => sb (pCl T n p) fun c => if c.1 = n then .inr [c.2] else sb (pSg T n 59 c.1) fun p2 => sb (pAll T n f p2) fun l => .inr (c.2 :: l)
def pTx (T : Txt) (n : Nat) : Nat ⊕ List Cl := pAll T n (n + 1) 0
theorem dg_s {T : Txt} {n p : Nat} {g : Int32} (h : dg T n p = some g) : p < n ∧ g = T p - 48 ∧ ∃ j, j < 10 ∧ g = nI j := by
  unfold dg at h
  split at h
  · rename_i h1
    cases h
    refine ⟨h1.1, rfl, ?_⟩
    obtain ⟨a, ha, e⟩ := isN_t (m := 58) (p := T p) (by simp [isN]; omega)
    have h2 : 48 ≤ a := by
      have := h1.2.1
      rw [e, nI_toInt (by omega)] at this
      omega
    refine ⟨a - 48, by omega, ?_⟩
    rw [e, show (48 : Int32) = nI 48 from rfl, pk_sub h2]
  · cases h
theorem nuL_s {T : Txt} {n : Nat} {m : Int32} (hm : m.toInt ≤ 999) : ∀ (f p : Nat) (v : Int32), (∃ a, a < 1000 ∧ v = nI a) → v.toInt ≤ m.toInt → p ≤ n → p ≤ (nuL T n m f p v).1 ∧ (nuL T n m f p v).1 ≤ n ∧ (∃ a, a < 1000 ∧ (nuL T n m f p v).2 = nI a) ∧ (nuL T n m f p v).2.toInt ≤ m.toInt
  | 0, p, v, h, h2, hp => ⟨Nat.le_refl _, hp, h, h2⟩
  | f + 1, p, v, h, h2, hp => by
    unfold nuL
    split
    · cases hd : dg T n p with
      | none => exact ⟨Nat.le_refl _, hp, h, h2⟩
      | some g =>
        dsimp only
        split
        · rename_i h3
          obtain ⟨h4, -, j, h5, h6⟩ := dg_s hd
          obtain ⟨a, ha, he⟩ := h
          have e : v * 10 + g = nI (a * 10 + j) := by rw [he, h6, show (10 : Int32) = nI 10 from rfl, pk_mul, nI_add]
          have h7 : a * 10 + j < 1000 := by
            rw [e, nI_toInt (by omega)] at h3
            omega
          have := nuL_s (T := T) (n := n) hm f (p + 1) (v * 10 + g) ⟨_, h7, e⟩ h3 (by omega)
          exact ⟨by omega, this.2⟩
        · exact ⟨Nat.le_refl _, hp, h, h2⟩
    · exact ⟨Nat.le_refl _, hp, h, h2⟩
theorem pNu_s {T : Txt} {n p : Nat} {m : Nat} (hm : m < 1000) {r : Nat × Int32} (h : pNu T n (nI m) p = .inr r) : p < r.1 ∧ r.1 ≤ n ∧ isN (m + 1) r.2 = true := by
  have em : (nI m).toInt = m := nI_toInt (by omega)
  unfold pNu at h
  split at h
  · cases h
  · rename_i g hd
    split at h
    · rename_i h1
      obtain ⟨h2, -, j, h3, h4⟩ := dg_s hd
      cases h
      obtain ⟨a1, a2, ⟨a, a3, a4⟩, a5⟩ := nuL_s (T := T) (n := n) (m := nI m) (by omega) (n - (p + 1)) (p + 1) g ⟨j, by omega, h4⟩ h1 (by omega)
      refine ⟨by omega, a2, ?_⟩
      rw [a4, isN_nI (by omega)]
      rw [a4, em, nI_toInt (by omega)] at a5
      exact decide_eq_true (by omega)
    · cases h
theorem pSg_s {T : Txt} {n p q : Nat} {c : Int32} (h : pSg T n c p = .inr q) : q = p + 1 ∧ p < n ∧ T p = c := by
  unfold pSg at h
  split at h
  · rename_i h1
    cases h
    exact ⟨rfl, h1⟩
  · cases h
theorem sb_s {α β : Type} {r : Nat ⊕ α} {f : α → Nat ⊕ β} {b : β} (h : sb r f = .inr b) : ∃ a, r = .inr a ∧ f a = .inr b := by
  cases r with
  | inl e => cases h
  | inr a => exact ⟨a, rfl, h⟩
theorem pSp_s {T : Txt} {n p : Nat} {w : Nat × Int32 × Int32} (h : pSp T n p = .inr w) : p + 3 ≤ w.1 ∧ w.1 ≤ n ∧ isN 100 w.2.1 = true ∧ isN 100 w.2.2 = true := by
  obtain ⟨r, h1, h⟩ := sb_s h
  obtain ⟨p2, h2, h⟩ := sb_s h
  obtain ⟨q, h3, h⟩ := sb_s h
  cases h
  have a1 := pNu_s (m := 99) (by omega) h1
  have a2 := pSg_s h2
  have a3 := pNu_s (m := 99) (by omega) h3
  exact ⟨by show p + 3 ≤ q.1; omega, a3.2.1, a1.2.2, a3.2.2⟩
theorem pEr_s {T : Txt} {n : Nat} : ∀ {r p : Nat} {z : Nat × List (Int32 × Int32)}, p ≤ n → pEr T n r p = .inr z → p ≤ z.1 ∧ z.1 ≤ n ∧ z.2.length ≤ r ∧ ∀ e ∈ z.2, isN 100 e.1 = true ∧ isN 100 e.2 = true
  | 0, p, z, hp, h => by
    cases h
    exact ⟨Nat.le_refl _, hp, Nat.le_refl _, fun e he => by cases he⟩
  | r + 1, p, z, hp, h => by
    unfold pEr at h
    split at h
    · cases h
      exact ⟨Nat.le_refl _, hp, Nat.zero_le _, fun e he => by cases he⟩
    · rename_i p2 h1
      obtain ⟨w, h2, h⟩ := sb_s h
      obtain ⟨y, h3, h⟩ := sb_s h
      cases h
      have a1 := pSg_s h1
      have a2 := pSp_s h2
      have a3 := pEr_s a2.2.1 h3
      refine ⟨by show p ≤ y.1; omega, a3.2.1, by show y.2.length + 1 ≤ r + 1; omega, fun e he => ?_⟩
      rcases List.mem_cons.mp he with q | q
      · rw [q]; exact a2.2.2
      · exact a3.2.2.2 e q
theorem pXs_s {T : Txt} {n p : Nat} {z : Nat × List (Int32 × Int32)} (hp : p ≤ n) (h : pXs T n p = .inr z) : p ≤ z.1 ∧ z.1 ≤ n ∧ z.2.length ≤ 3 ∧ ∀ e ∈ z.2, isN 100 e.1 = true ∧ isN 100 e.2 = true := by
  unfold pXs at h
  split at h
  · cases h
    exact ⟨Nat.le_refl _, hp, Nat.zero_le _, fun e he => by cases he⟩
  · rename_i p2 h1
    obtain ⟨w, h2, h⟩ := sb_s h
    obtain ⟨y, h3, h⟩ := sb_s h
    cases h
    have a1 := pSg_s h1
    have a2 := pSp_s h2
    have a3 := pEr_s a2.2.1 h3
    refine ⟨by show p ≤ y.1; omega, a3.2.1, by show y.2.length + 1 ≤ 3; omega, fun e he => ?_⟩
    rcases List.mem_cons.mp he with q | q
    · rw [q]; exact a2.2.2
    · exact a3.2.2.2 e q
/-- a clause as it may be read -/
def okCl (c : Cl) : Prop := isN 6 c.1 = true ∧ isN 1000 c.2.1 = true ∧ isN 100 c.2.2.1 = true ∧ isN 100 c.2.2.2.1 = true ∧ c.2.2.2.2.2.length ≤ 3
theorem pCl_s {T : Txt} {n p : Nat} {c : Nat × Cl} (h : pCl T n p = .inr c) : p + 9 ≤ c.1 ∧ c.1 ≤ n ∧ okCl c.2 := by
  obtain ⟨c1, h1, h⟩ := sb_s h
  obtain ⟨p2, h2, h⟩ := sb_s h
  obtain ⟨dt, h3, h⟩ := sb_s h
  obtain ⟨p4, h4, h⟩ := sb_s h
  obtain ⟨w, h5, h⟩ := sb_s h
  obtain ⟨p6, h6, h⟩ := sb_s h
  obtain ⟨v, h7, h⟩ := sb_s h
  obtain ⟨z, h8, h⟩ := sb_s h
  cases h
  have a1 := pNu_s (m := 5) (by omega) h1
  have a2 := pSg_s h2
  have a3 := pNu_s (m := 999) (by omega) h3
  have a4 := pSg_s h4
  have a5 := pSp_s h5
  have a6 := pSg_s h6
  have a7 := pNu_s (m := 9) (by omega) h7
  have a8 := pXs_s a7.2.1 h8
  exact ⟨by show p + 9 ≤ z.1; omega, a8.2.1, a1.2.2, a3.2.2, a5.2.2.1, a5.2.2.2, a8.2.2.1⟩
def apL (s : Row) (k : Nat) : List (Int32 × Int32) → Row
  | [] => s
  | e :: l => apL (exS s k e.1 e.2) k l
/-- a row with a clause that was read -/
def app (s : Row) (c : Cl) : Row := apL (wrS s c.1 c.2.1 c.2.2.1 c.2.2.2.1 c.2.2.2.2.1) (nC s) c.2.2.2.2.2
theorem apL_f {k : Nat} : ∀ {l : List (Int32 × Int32)} {s : Row}, WF s → nE s k + l.length ≤ 3 → WF (apL s k l) ∧ nC (apL s k l) = nC s ∧ nE (apL s k l) k = nE s k + l.length
  | [], s, hW, _ => ⟨hW, rfl, rfl⟩
  | e :: l, s, hW, h => by
    have h0 : nE s k < 3 := by simp at h; omega
    have := apL_f (k := k) (l := l) (s := exS s k e.1 e.2) (wf_exS hW h0) (by rw [nE_exS h0]; simp at h; omega)
    rw [nC_exS, nE_exS h0] at this
    refine ⟨this.1, this.2.1, ?_⟩
    show nE (apL (exS s k e.1 e.2) k l) k = _
    rw [this.2.2, List.length_cons]
    omega
theorem app_f {s : Row} {c : Cl} (hW : WF s) (hn : nC s < 30) (h : okCl c) : WF (app s c) ∧ nC (app s c) = nC s + 1 := by
  have h1 := wf_wrS (v := c.2.2.2.2.1) hW hn h.1 h.2.1 h.2.2.1 h.2.2.2.1
  have h2 := apL_f (k := nC s) (l := c.2.2.2.2.2) h1 (by rw [nE_wrS_on]; have := h.2.2.2.2; omega)
  exact ⟨h2.1, by show nC (apL _ _ _) = _; rw [h2.2.1, nC_wrS (by omega)]⟩
theorem pAll_fuel {T : Txt} {n : Nat} : ∀ {f g p : Nat}, n < p + f → n < p + g → pAll T n f p = pAll T n g p := by
  have key : ∀ (m f g p : Nat), n + 1 - p ≤ m → n < p + f → n < p + g → pAll T n f p = pAll T n g p := by
    intro m
    induction m with
    | zero =>
      intro f g p hm hf hg
      have hp : n < p := by omega
      have e : pCl T n p = .inl p := by
        unfold pCl pNu dg
        rw [if_neg (by omega)]
        rfl
      cases f <;> cases g <;> simp [pAll, e, sb]
    | succ m ih =>
      intro f g p hm hf hg
      by_cases hp : n < p
      · have e : pCl T n p = .inl p := by
          unfold pCl pNu dg
          rw [if_neg (by omega)]
          rfl
        cases f <;> cases g <;> simp [pAll, e, sb]
      · obtain ⟨f, rfl⟩ : ∃ f', f = f' + 1 := ⟨f - 1, by omega⟩
        obtain ⟨g, rfl⟩ : ∃ g', g = g' + 1 := ⟨g - 1, by omega⟩
        unfold pAll
        cases hc : pCl T n p with
        | inl e => rfl
        | inr c =>
          have s := pCl_s hc
          rw [sb_r, sb_r]
          by_cases q : c.1 = n
          · rw [if_pos q, if_pos q]
          · rw [if_neg q, if_neg q]
            cases hs : pSg T n 59 c.1 with
            | inl e => rfl
            | inr p2 =>
              have s2 := pSg_s hs
              rw [sb_r, sb_r, ih f g p2 (by omega) (by omega) (by omega)]
  exact fun {f g p} h1 h2 => key _ f g p (Nat.le_refl _) h1 h2
