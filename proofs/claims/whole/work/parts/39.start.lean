/-! THE LAW: its entry -/
theorem vp_q_eq {n : Nat} {f g : Nat → Option Nat} (cA : ClassId) (h : ∀ j, j < n → f j = g j) : vp_cell cA (n, .inr (.inr (.inr (.inr f)))) = vp_cell cA (n, .inr (.inr (.inr (.inr g)))) := by
  rw [vp_cell_q, vp_cell_q]
  unfold arrV
  have e : (fun j : Fin n => va_rf (f j.val)) = fun j : Fin n => va_rf (g j.val) := by
    funext j
    rw [h j.val j.isLt]
  rw [e]
theorem va_P_q {D : va_G} {cl : List vw_C} {ws : va_W} {H : Heap} {p a n : Nat} {cA : ClassId} {f g : Nat → Option Nat} (hP : va_P D cl ws H) (hp : ws[p]? = some (a, .inl (cA, n, .inr (.inr (.inr (.inr f)))))) (h : ∀ j, j < n → f j = g j) : va_P D cl (ws.set p (a, .inl (cA, n, .inr (.inr (.inr (.inr g)))))) H := by
  intro k q hk
  rw [List.getElem?_set] at hk
  by_cases e : p = k
  · subst e
    rw [if_pos rfl] at hk
    split at hk
    · cases hk
      have h1 : H[a]? = some (vp_cell cA (n, .inr (.inr (.inr (.inr f))))) := hP p _ hp
      show H[a]? = some (vp_cell cA (n, .inr (.inr (.inr (.inr g)))))
      rw [h1, vp_q_eq cA h]
    · cases hk
  · rw [if_neg e] at hk
    exact hP k q hk
/-- what all cells hold behind both constructors -/
def x00 : XX := fun a => match a with
  | 16 => fL 6 | 30 => fL 6 | 44 => fL 6 | 58 => fL 6 | 72 => fL 6 | 86 => fL 6
  | 17 => fR 6 | 31 => fR 6 | 45 => fR 6 | 59 => fR 6 | 73 => fR 6 | 87 => fR 6
  | 98 => fun j => nI (pb j)
  | 106 => fS 6
  | _ => fun _ => 0
def r00 : Row := fS 6
def S00 : Stt := (r00, 0, fun _ => r00, false, r00, 0, fun _ => 0)
theorem wf_r00 : WF r00 := by
  refine ⟨by decide, by decide, by decide, fun k hk => absurd (show k < 0 from hk) (Nat.not_lt_zero k), ?_, ?_⟩
  · intro e he
    rcases (show e = 0 ∨ e = 1 ∨ e = 2 ∨ e = 3 ∨ e = 4 ∨ e = 5 by omega) with rfl | rfl | rfl | rfl | rfl | rfl <;> decide
  · intro e he g hg h
    rcases (show e = 0 ∨ e = 1 ∨ e = 2 ∨ e = 3 ∨ e = 4 ∨ e = 5 by omega) with rfl | rfl | rfl | rfl | rfl | rfl <;> rcases (show g = 0 ∨ g = 1 ∨ g = 2 ∨ g = 3 ∨ g = 4 ∨ g = 5 by omega) with rfl | rfl | rfl | rfl | rfl | rfl <;> first | rfl | exact absurd h (by decide)
theorem rc_00 : RepC x00 S00 := by
  refine ⟨wf_r00, ⟨rfl, fun c hc => ?_, ⟨rfl, fun k hk => absurd (show k < 0 from hk) (Nat.not_lt_zero k)⟩⟩, ⟨0, fun j hj => by show nI (pb j) = nI (pb (0 + j)); rw [Nat.zero_add], rfl, Nat.zero_le _, fun j hj => absurd hj (Nat.not_lt_zero j)⟩, rfl, (fun h => Bool.noConfusion h), rfl, Nat.zero_le _, fun i hi => absurd hi (Nat.not_lt_zero i)⟩
  rcases (show c = 0 ∨ c = 1 ∨ c = 2 ∨ c = 3 ∨ c = 4 ∨ c = 5 by omega) with rfl | rfl | rfl | rfl | rfl | rfl <;> decide
theorem rm_00 : RepM x00 S00 :=
  ⟨wf_r00, fun i _ => rfl, ⟨rfl, Nat.zero_le _, fun j hj => absurd hj (Nat.not_lt_zero j)⟩, rfl, (fun h => Bool.noConfusion h), ⟨rfl, Nat.zero_le _, fun i hi => absurd hi (Nat.not_lt_zero i)⟩, fun j hj => absurd hj (Nat.not_lt_zero j)⟩
def adr (h : Nat) (j s d t p b1 b2 b3 b4 : Nat → Nat) (pa : Nat) (u : Nat → Nat) : Nat → Nat := fun k => match k with | 0 => h | 1 => j 14 | 2 => p 0 | 3 => t 0 | 4 => d 0 | 5 => d 1 | 6 => d 2 | 7 => d 3 | 8 => d 4 | 9 => d 5 | 10 => d 6 | 11 => d 7 | 12 => d 8 | 13 => d 9 | 14 => j 0 | 15 => j 1 | 16 => j 2 | 17 => j 3 | 18 => j 4 | 19 => j 5 | 20 => j 6 | 21 => j 7 | 22 => j 8 | 23 => j 9 | 24 => j 10 | 25 => j 11 | 26 => j 12 | 27 => j 13 | 28 => s 0 | 29 => s 1 | 30 => s 2 | 31 => s 3 | 32 => s 4 | 33 => s 5 | 34 => s 6 | 35 => s 7 | 36 => s 8 | 37 => s 9 | 38 => s 10 | 39 => s 11 | 40 => s 12 | 41 => s 13 | 42 => b1 0 | 43 => b1 1 | 44 => b1 2 | 45 => b1 3 | 46 => b1 4 | 47 => b1 5 | 48 => b1 6 | 49 => b1 7 | 50 => b1 8 | 51 => b1 9 | 52 => b1 10 | 53 => b1 11 | 54 => b1 12 | 55 => b1 13 | 56 => b2 0 | 57 => b2 1 | 58 => b2 2 | 59 => b2 3 | 60 => b2 4 | 61 => b2 5 | 62 => b2 6 | 63 => b2 7 | 64 => b2 8 | 65 => b2 9 | 66 => b2 10 | 67 => b2 11 | 68 => b2 12 | 69 => b2 13 | 70 => b3 0 | 71 => b3 1 | 72 => b3 2 | 73 => b3 3 | 74 => b3 4 | 75 => b3 5 | 76 => b3 6 | 77 => b3 7 | 78 => b3 8 | 79 => b3 9 | 80 => b3 10 | 81 => b3 11 | 82 => b3 12 | 83 => b3 13 | 84 => b4 0 | 85 => b4 1 | 86 => b4 2 | 87 => b4 3 | 88 => b4 4 | 89 => b4 5 | 90 => b4 6 | 91 => b4 7 | 92 => b4 8 | 93 => b4 9 | 94 => b4 10 | 95 => b4 11 | 96 => b4 12 | 97 => b4 13 | 98 => pa | 99 => j 15 | 100 => j 16 | 101 => p 1 | 102 => p 2 | 103 => p 3 | 104 => t 1 | 105 => u 0 | 106 => u 1 | 107 => u 2 | 108 => u 3 | 109 => u 4 | 110 => u 5 | 111 => u 6 | _ => 0
def perm0 : List Nat := [0, 1, 45, 33, 35, 36, 37, 38, 39, 40, 41, 42, 43, 44, 2, 3, 4, 5, 6, 7, 8, 9, 10, 11, 12, 13, 14, 15, 18, 19, 20, 21, 22, 23, 24, 25, 26, 27, 28, 29, 30, 31, 49, 50, 51, 52, 53, 54, 55, 56, 57, 58, 59, 60, 61, 62, 63, 64, 65, 66, 67, 68, 69, 70, 71, 72, 73, 74, 75, 76, 77, 78, 79, 80, 81, 82, 83, 84, 85, 86, 87, 88, 89, 90, 91, 92, 93, 94, 95, 96, 97, 98, 99, 100, 101, 102, 103, 104, 32, 16, 17, 46, 47, 48, 34, 105, 106, 107, 108, 109, 110, 111]
def Inc (o : Nat) (B ws : va_W) : Prop := ∀ (i : Nat) (q : Nat × va_E), B[i]? = some q → ws[o + i]? = some q
theorem Inc.rf {B : va_W} : Inc 0 B B := fun i q h => by rw [Nat.zero_add]; exact h
theorem Inc.l {o : Nat} {B C ws : va_W} (h : Inc o (B ++ C) ws) : Inc o B ws := fun i q hq => h i q (by rw [List.getElem?_append_left (List.getElem?_eq_some_iff.mp hq).1]; exact hq)
theorem Inc.r {o n : Nat} {B C ws : va_W} (h : Inc o (B ++ C) ws) (hn : B.length = n) : Inc (o + n) C ws := fun i q hq => by
  subst hn
  have := h (B.length + i) q (by rw [List.getElem?_append_right (Nat.le_add_right _ _), Nat.add_sub_cancel_left]; exact hq)
  rw [Nat.add_assoc]
  exact this
theorem Inc.h {o : Nat} {q : Nat × va_E} {C ws : va_W} (h : Inc o (q :: C) ws) : ws[o]? = some q := h 0 q rfl
theorem Inc.c {o : Nat} {q : Nat × va_E} {C ws : va_W} (h : Inc o (q :: C) ws) : Inc (o + 1) C ws := fun i r hr => by
  have := h (i + 1) r hr
  rw [show o + 1 + i = o + (i + 1) by omega]
  exact this
def AllN (P : Nat → Prop) : Nat → Prop
  | 0 => True
  | n + 1 => AllN P n ∧ P n
theorem AllN.at {P : Nat → Prop} : ∀ {n : Nat}, AllN P n → ∀ k, k < n → P k
  | 0, _, k, hk => absurd hk (Nat.not_lt_zero k)
  | n + 1, h, k, hk => by
    by_cases q : k = n
    · subst q; exact h.2
    · exact h.1.at k (by omega)
def pm (k : Nat) : Nat := perm0.getD k 0
theorem pm_inj : ∀ i, i < 112 → ∀ j, j < 112 → pm i = pm j → i = j := by decide +kernel
theorem wld_len {G : GG} {x : XX} : (wld G x).length = 112 := by
  unfold wld
  rw [List.length_mapIdx]
  rfl
/-- where each cell stands in a world, and what it is -/
def PK (G : GG) (x : XX) (ws : va_W) (k : Nat) : Prop := ∃ e, Lay[k]? = some e ∧ ws[pm k]? = some (G.1 k, ce G (x k) e)
theorem of_PK {G : GG} {x : XX} {ws : va_W} {H : Heap} {A : Nat → Prop} (h : ∀ k, k < 112 → PK G x ws k) (hP : va_P G.2.1 vwCl ws H) (hD : va_D A ws) : va_P G.2.1 vwCl (wld G x) H ∧ va_D A (wld G x) := by
  have at_ : ∀ (k : Nat) (q : Nat × va_E), (wld G x)[k]? = some q → k < 112 ∧ ws[pm k]? = some q := by
    intro k q hq
    have hk : k < 112 := by
      have := (List.getElem?_eq_some_iff.mp hq).1
      rw [wld_len] at this
      exact this
    obtain ⟨e, h1, h2⟩ := h k hk
    rw [wld_at h1] at hq
    cases hq
    exact ⟨hk, h2⟩
  refine ⟨fun k q hq => hP _ _ (at_ k q hq).2, ⟨fun i j p q hp hq e => ?_, fun k q hq => hD.2 _ _ (at_ k q hq).2⟩⟩
  obtain ⟨h1, h2⟩ := at_ i p hp
  obtain ⟨h3, h4⟩ := at_ j q hq
  exact pm_inj i h1 j h3 (hD.1 _ _ _ _ h2 h4 e)
section TOW
variable {E : GE} {h pa : Nat} {j s d t p b1 b2 b3 b4 u : Nat → Nat}
abbrev gA (h : Nat) (j s d t p b1 b2 b3 b4 : Nat → Nat) (pa : Nat) (u : Nat → Nat) : Nat → Option Nat := fun i => some (adr h j s d t p b1 b2 b3 b4 pa u (nI (pb i)).toNatClampNeg)
theorem pk_all {ws : va_W} (w0 : Inc 0 (stW E (gA h j s d t p b1 b2 b3 b4 pa u) h j s d t p b1 b2 b3 b4 pa ++ mdW E u) ws) : ∀ k, k < 112 → PK (adr h j s d t p b1 b2 b3 b4 pa u, E.1, E.2) x00 ws k := by
  have wu : Inc 105 (mdW E u) ws := w0.r rfl
  have w1 := w0.l
  have w2 := w1.c
  have wj : Inc 1 (jgW E j) ws := w2.l
  have w3 : Inc 18 _ ws := w2.r (n := 17) rfl
  have ws_ : Inc 18 (bkW E s) ws := w3.l
  have w4 : Inc 32 _ ws := w3.r (n := 14) rfl
  have w5 : Inc 33 _ ws := w4.c
  have wt : Inc 33 (txW E t) ws := w5.l
  have w6 : Inc 35 _ ws := w5.r (n := 2) rfl
  have wd : Inc 35 (clW E d) ws := w6.l
  have w7 : Inc 45 _ ws := w6.r (n := 10) rfl
  have wp : Inc 45 (ptW E p) ws := w7.l
  have w8 : Inc 49 _ ws := w7.r (n := 4) rfl
  have wb1 : Inc 49 (bkW E b1) ws := w8.l
  have w9 : Inc 63 _ ws := w8.r (n := 14) rfl
  have wb2 : Inc 63 (bkW E b2) ws := w9.l
  have w10 : Inc 77 _ ws := w9.r (n := 14) rfl
  have wb3 : Inc 77 (bkW E b3) ws := w10.l
  have wb4 : Inc 91 (bkW E b4) ws := w10.r (n := 14) rfl
  have p0 : PK (adr h j s d t p b1 b2 b3 b4 pa u, E.1, E.2) x00 ws 0 := ⟨_, rfl, w1.h⟩
  have p1 : PK (adr h j s d t p b1 b2 b3 b4 pa u, E.1, E.2) x00 ws 1 := ⟨_, rfl, wj 0 _ rfl⟩
  have p2 : PK (adr h j s d t p b1 b2 b3 b4 pa u, E.1, E.2) x00 ws 2 := ⟨_, rfl, wp 0 _ rfl⟩
  have p3 : PK (adr h j s d t p b1 b2 b3 b4 pa u, E.1, E.2) x00 ws 3 := ⟨_, rfl, wt 0 _ rfl⟩
  have p4 : PK (adr h j s d t p b1 b2 b3 b4 pa u, E.1, E.2) x00 ws 4 := ⟨_, rfl, wd 0 _ rfl⟩
  have p5 : PK (adr h j s d t p b1 b2 b3 b4 pa u, E.1, E.2) x00 ws 5 := ⟨_, rfl, wd 1 _ rfl⟩
  have p6 : PK (adr h j s d t p b1 b2 b3 b4 pa u, E.1, E.2) x00 ws 6 := ⟨_, rfl, wd 2 _ rfl⟩
  have p7 : PK (adr h j s d t p b1 b2 b3 b4 pa u, E.1, E.2) x00 ws 7 := ⟨_, rfl, wd 3 _ rfl⟩
  have p8 : PK (adr h j s d t p b1 b2 b3 b4 pa u, E.1, E.2) x00 ws 8 := ⟨_, rfl, wd 4 _ rfl⟩
  have p9 : PK (adr h j s d t p b1 b2 b3 b4 pa u, E.1, E.2) x00 ws 9 := ⟨_, rfl, wd 5 _ rfl⟩
  have p10 : PK (adr h j s d t p b1 b2 b3 b4 pa u, E.1, E.2) x00 ws 10 := ⟨_, rfl, wd 6 _ rfl⟩
  have p11 : PK (adr h j s d t p b1 b2 b3 b4 pa u, E.1, E.2) x00 ws 11 := ⟨_, rfl, wd 7 _ rfl⟩
  have p12 : PK (adr h j s d t p b1 b2 b3 b4 pa u, E.1, E.2) x00 ws 12 := ⟨_, rfl, wd 8 _ rfl⟩
  have p13 : PK (adr h j s d t p b1 b2 b3 b4 pa u, E.1, E.2) x00 ws 13 := ⟨_, rfl, wd 9 _ rfl⟩
  have p14 : PK (adr h j s d t p b1 b2 b3 b4 pa u, E.1, E.2) x00 ws 14 := ⟨_, rfl, wj 1 _ rfl⟩
  have p15 : PK (adr h j s d t p b1 b2 b3 b4 pa u, E.1, E.2) x00 ws 15 := ⟨_, rfl, wj 2 _ rfl⟩
  have p16 : PK (adr h j s d t p b1 b2 b3 b4 pa u, E.1, E.2) x00 ws 16 := ⟨_, rfl, wj 3 _ rfl⟩
  have p17 : PK (adr h j s d t p b1 b2 b3 b4 pa u, E.1, E.2) x00 ws 17 := ⟨_, rfl, wj 4 _ rfl⟩
  have p18 : PK (adr h j s d t p b1 b2 b3 b4 pa u, E.1, E.2) x00 ws 18 := ⟨_, rfl, wj 5 _ rfl⟩
  have p19 : PK (adr h j s d t p b1 b2 b3 b4 pa u, E.1, E.2) x00 ws 19 := ⟨_, rfl, wj 6 _ rfl⟩
  have p20 : PK (adr h j s d t p b1 b2 b3 b4 pa u, E.1, E.2) x00 ws 20 := ⟨_, rfl, wj 7 _ rfl⟩
  have p21 : PK (adr h j s d t p b1 b2 b3 b4 pa u, E.1, E.2) x00 ws 21 := ⟨_, rfl, wj 8 _ rfl⟩
  have p22 : PK (adr h j s d t p b1 b2 b3 b4 pa u, E.1, E.2) x00 ws 22 := ⟨_, rfl, wj 9 _ rfl⟩
  have p23 : PK (adr h j s d t p b1 b2 b3 b4 pa u, E.1, E.2) x00 ws 23 := ⟨_, rfl, wj 10 _ rfl⟩
  have p24 : PK (adr h j s d t p b1 b2 b3 b4 pa u, E.1, E.2) x00 ws 24 := ⟨_, rfl, wj 11 _ rfl⟩
  have p25 : PK (adr h j s d t p b1 b2 b3 b4 pa u, E.1, E.2) x00 ws 25 := ⟨_, rfl, wj 12 _ rfl⟩
  have p26 : PK (adr h j s d t p b1 b2 b3 b4 pa u, E.1, E.2) x00 ws 26 := ⟨_, rfl, wj 13 _ rfl⟩
  have p27 : PK (adr h j s d t p b1 b2 b3 b4 pa u, E.1, E.2) x00 ws 27 := ⟨_, rfl, wj 14 _ rfl⟩
  have p28 : PK (adr h j s d t p b1 b2 b3 b4 pa u, E.1, E.2) x00 ws 28 := ⟨_, rfl, ws_ 0 _ rfl⟩
  have p29 : PK (adr h j s d t p b1 b2 b3 b4 pa u, E.1, E.2) x00 ws 29 := ⟨_, rfl, ws_ 1 _ rfl⟩
  have p30 : PK (adr h j s d t p b1 b2 b3 b4 pa u, E.1, E.2) x00 ws 30 := ⟨_, rfl, ws_ 2 _ rfl⟩
  have p31 : PK (adr h j s d t p b1 b2 b3 b4 pa u, E.1, E.2) x00 ws 31 := ⟨_, rfl, ws_ 3 _ rfl⟩
  have p32 : PK (adr h j s d t p b1 b2 b3 b4 pa u, E.1, E.2) x00 ws 32 := ⟨_, rfl, ws_ 4 _ rfl⟩
  have p33 : PK (adr h j s d t p b1 b2 b3 b4 pa u, E.1, E.2) x00 ws 33 := ⟨_, rfl, ws_ 5 _ rfl⟩
  have p34 : PK (adr h j s d t p b1 b2 b3 b4 pa u, E.1, E.2) x00 ws 34 := ⟨_, rfl, ws_ 6 _ rfl⟩
  have p35 : PK (adr h j s d t p b1 b2 b3 b4 pa u, E.1, E.2) x00 ws 35 := ⟨_, rfl, ws_ 7 _ rfl⟩
  have p36 : PK (adr h j s d t p b1 b2 b3 b4 pa u, E.1, E.2) x00 ws 36 := ⟨_, rfl, ws_ 8 _ rfl⟩
  have p37 : PK (adr h j s d t p b1 b2 b3 b4 pa u, E.1, E.2) x00 ws 37 := ⟨_, rfl, ws_ 9 _ rfl⟩
  have p38 : PK (adr h j s d t p b1 b2 b3 b4 pa u, E.1, E.2) x00 ws 38 := ⟨_, rfl, ws_ 10 _ rfl⟩
  have p39 : PK (adr h j s d t p b1 b2 b3 b4 pa u, E.1, E.2) x00 ws 39 := ⟨_, rfl, ws_ 11 _ rfl⟩
  have p40 : PK (adr h j s d t p b1 b2 b3 b4 pa u, E.1, E.2) x00 ws 40 := ⟨_, rfl, ws_ 12 _ rfl⟩
  have p41 : PK (adr h j s d t p b1 b2 b3 b4 pa u, E.1, E.2) x00 ws 41 := ⟨_, rfl, ws_ 13 _ rfl⟩
  have p42 : PK (adr h j s d t p b1 b2 b3 b4 pa u, E.1, E.2) x00 ws 42 := ⟨_, rfl, wb1 0 _ rfl⟩
  have p43 : PK (adr h j s d t p b1 b2 b3 b4 pa u, E.1, E.2) x00 ws 43 := ⟨_, rfl, wb1 1 _ rfl⟩
  have p44 : PK (adr h j s d t p b1 b2 b3 b4 pa u, E.1, E.2) x00 ws 44 := ⟨_, rfl, wb1 2 _ rfl⟩
  have p45 : PK (adr h j s d t p b1 b2 b3 b4 pa u, E.1, E.2) x00 ws 45 := ⟨_, rfl, wb1 3 _ rfl⟩
  have p46 : PK (adr h j s d t p b1 b2 b3 b4 pa u, E.1, E.2) x00 ws 46 := ⟨_, rfl, wb1 4 _ rfl⟩
  have p47 : PK (adr h j s d t p b1 b2 b3 b4 pa u, E.1, E.2) x00 ws 47 := ⟨_, rfl, wb1 5 _ rfl⟩
  have p48 : PK (adr h j s d t p b1 b2 b3 b4 pa u, E.1, E.2) x00 ws 48 := ⟨_, rfl, wb1 6 _ rfl⟩
  have p49 : PK (adr h j s d t p b1 b2 b3 b4 pa u, E.1, E.2) x00 ws 49 := ⟨_, rfl, wb1 7 _ rfl⟩
  have p50 : PK (adr h j s d t p b1 b2 b3 b4 pa u, E.1, E.2) x00 ws 50 := ⟨_, rfl, wb1 8 _ rfl⟩
  have p51 : PK (adr h j s d t p b1 b2 b3 b4 pa u, E.1, E.2) x00 ws 51 := ⟨_, rfl, wb1 9 _ rfl⟩
  have p52 : PK (adr h j s d t p b1 b2 b3 b4 pa u, E.1, E.2) x00 ws 52 := ⟨_, rfl, wb1 10 _ rfl⟩
  have p53 : PK (adr h j s d t p b1 b2 b3 b4 pa u, E.1, E.2) x00 ws 53 := ⟨_, rfl, wb1 11 _ rfl⟩
  have p54 : PK (adr h j s d t p b1 b2 b3 b4 pa u, E.1, E.2) x00 ws 54 := ⟨_, rfl, wb1 12 _ rfl⟩
  have p55 : PK (adr h j s d t p b1 b2 b3 b4 pa u, E.1, E.2) x00 ws 55 := ⟨_, rfl, wb1 13 _ rfl⟩
  have p56 : PK (adr h j s d t p b1 b2 b3 b4 pa u, E.1, E.2) x00 ws 56 := ⟨_, rfl, wb2 0 _ rfl⟩
  have p57 : PK (adr h j s d t p b1 b2 b3 b4 pa u, E.1, E.2) x00 ws 57 := ⟨_, rfl, wb2 1 _ rfl⟩
  have p58 : PK (adr h j s d t p b1 b2 b3 b4 pa u, E.1, E.2) x00 ws 58 := ⟨_, rfl, wb2 2 _ rfl⟩
  have p59 : PK (adr h j s d t p b1 b2 b3 b4 pa u, E.1, E.2) x00 ws 59 := ⟨_, rfl, wb2 3 _ rfl⟩
  have p60 : PK (adr h j s d t p b1 b2 b3 b4 pa u, E.1, E.2) x00 ws 60 := ⟨_, rfl, wb2 4 _ rfl⟩
  have p61 : PK (adr h j s d t p b1 b2 b3 b4 pa u, E.1, E.2) x00 ws 61 := ⟨_, rfl, wb2 5 _ rfl⟩
  have p62 : PK (adr h j s d t p b1 b2 b3 b4 pa u, E.1, E.2) x00 ws 62 := ⟨_, rfl, wb2 6 _ rfl⟩
  have p63 : PK (adr h j s d t p b1 b2 b3 b4 pa u, E.1, E.2) x00 ws 63 := ⟨_, rfl, wb2 7 _ rfl⟩
  have p64 : PK (adr h j s d t p b1 b2 b3 b4 pa u, E.1, E.2) x00 ws 64 := ⟨_, rfl, wb2 8 _ rfl⟩
  have p65 : PK (adr h j s d t p b1 b2 b3 b4 pa u, E.1, E.2) x00 ws 65 := ⟨_, rfl, wb2 9 _ rfl⟩
  have p66 : PK (adr h j s d t p b1 b2 b3 b4 pa u, E.1, E.2) x00 ws 66 := ⟨_, rfl, wb2 10 _ rfl⟩
  have p67 : PK (adr h j s d t p b1 b2 b3 b4 pa u, E.1, E.2) x00 ws 67 := ⟨_, rfl, wb2 11 _ rfl⟩
  have p68 : PK (adr h j s d t p b1 b2 b3 b4 pa u, E.1, E.2) x00 ws 68 := ⟨_, rfl, wb2 12 _ rfl⟩
  have p69 : PK (adr h j s d t p b1 b2 b3 b4 pa u, E.1, E.2) x00 ws 69 := ⟨_, rfl, wb2 13 _ rfl⟩
  have p70 : PK (adr h j s d t p b1 b2 b3 b4 pa u, E.1, E.2) x00 ws 70 := ⟨_, rfl, wb3 0 _ rfl⟩
  have p71 : PK (adr h j s d t p b1 b2 b3 b4 pa u, E.1, E.2) x00 ws 71 := ⟨_, rfl, wb3 1 _ rfl⟩
  have p72 : PK (adr h j s d t p b1 b2 b3 b4 pa u, E.1, E.2) x00 ws 72 := ⟨_, rfl, wb3 2 _ rfl⟩
  have p73 : PK (adr h j s d t p b1 b2 b3 b4 pa u, E.1, E.2) x00 ws 73 := ⟨_, rfl, wb3 3 _ rfl⟩
  have p74 : PK (adr h j s d t p b1 b2 b3 b4 pa u, E.1, E.2) x00 ws 74 := ⟨_, rfl, wb3 4 _ rfl⟩
  have p75 : PK (adr h j s d t p b1 b2 b3 b4 pa u, E.1, E.2) x00 ws 75 := ⟨_, rfl, wb3 5 _ rfl⟩
  have p76 : PK (adr h j s d t p b1 b2 b3 b4 pa u, E.1, E.2) x00 ws 76 := ⟨_, rfl, wb3 6 _ rfl⟩
  have p77 : PK (adr h j s d t p b1 b2 b3 b4 pa u, E.1, E.2) x00 ws 77 := ⟨_, rfl, wb3 7 _ rfl⟩
  have p78 : PK (adr h j s d t p b1 b2 b3 b4 pa u, E.1, E.2) x00 ws 78 := ⟨_, rfl, wb3 8 _ rfl⟩
  have p79 : PK (adr h j s d t p b1 b2 b3 b4 pa u, E.1, E.2) x00 ws 79 := ⟨_, rfl, wb3 9 _ rfl⟩
  have p80 : PK (adr h j s d t p b1 b2 b3 b4 pa u, E.1, E.2) x00 ws 80 := ⟨_, rfl, wb3 10 _ rfl⟩
  have p81 : PK (adr h j s d t p b1 b2 b3 b4 pa u, E.1, E.2) x00 ws 81 := ⟨_, rfl, wb3 11 _ rfl⟩
  have p82 : PK (adr h j s d t p b1 b2 b3 b4 pa u, E.1, E.2) x00 ws 82 := ⟨_, rfl, wb3 12 _ rfl⟩
  have p83 : PK (adr h j s d t p b1 b2 b3 b4 pa u, E.1, E.2) x00 ws 83 := ⟨_, rfl, wb3 13 _ rfl⟩
  have p84 : PK (adr h j s d t p b1 b2 b3 b4 pa u, E.1, E.2) x00 ws 84 := ⟨_, rfl, wb4 0 _ rfl⟩
  have p85 : PK (adr h j s d t p b1 b2 b3 b4 pa u, E.1, E.2) x00 ws 85 := ⟨_, rfl, wb4 1 _ rfl⟩
  have p86 : PK (adr h j s d t p b1 b2 b3 b4 pa u, E.1, E.2) x00 ws 86 := ⟨_, rfl, wb4 2 _ rfl⟩
  have p87 : PK (adr h j s d t p b1 b2 b3 b4 pa u, E.1, E.2) x00 ws 87 := ⟨_, rfl, wb4 3 _ rfl⟩
  have p88 : PK (adr h j s d t p b1 b2 b3 b4 pa u, E.1, E.2) x00 ws 88 := ⟨_, rfl, wb4 4 _ rfl⟩
  have p89 : PK (adr h j s d t p b1 b2 b3 b4 pa u, E.1, E.2) x00 ws 89 := ⟨_, rfl, wb4 5 _ rfl⟩
  have p90 : PK (adr h j s d t p b1 b2 b3 b4 pa u, E.1, E.2) x00 ws 90 := ⟨_, rfl, wb4 6 _ rfl⟩
  have p91 : PK (adr h j s d t p b1 b2 b3 b4 pa u, E.1, E.2) x00 ws 91 := ⟨_, rfl, wb4 7 _ rfl⟩
  have p92 : PK (adr h j s d t p b1 b2 b3 b4 pa u, E.1, E.2) x00 ws 92 := ⟨_, rfl, wb4 8 _ rfl⟩
  have p93 : PK (adr h j s d t p b1 b2 b3 b4 pa u, E.1, E.2) x00 ws 93 := ⟨_, rfl, wb4 9 _ rfl⟩
  have p94 : PK (adr h j s d t p b1 b2 b3 b4 pa u, E.1, E.2) x00 ws 94 := ⟨_, rfl, wb4 10 _ rfl⟩
  have p95 : PK (adr h j s d t p b1 b2 b3 b4 pa u, E.1, E.2) x00 ws 95 := ⟨_, rfl, wb4 11 _ rfl⟩
  have p96 : PK (adr h j s d t p b1 b2 b3 b4 pa u, E.1, E.2) x00 ws 96 := ⟨_, rfl, wb4 12 _ rfl⟩
  have p97 : PK (adr h j s d t p b1 b2 b3 b4 pa u, E.1, E.2) x00 ws 97 := ⟨_, rfl, wb4 13 _ rfl⟩
  have p98 : PK (adr h j s d t p b1 b2 b3 b4 pa u, E.1, E.2) x00 ws 98 := ⟨_, rfl, w4.h⟩
  have p99 : PK (adr h j s d t p b1 b2 b3 b4 pa u, E.1, E.2) x00 ws 99 := ⟨_, rfl, wj 15 _ rfl⟩
  have p100 : PK (adr h j s d t p b1 b2 b3 b4 pa u, E.1, E.2) x00 ws 100 := ⟨_, rfl, wj 16 _ rfl⟩
  have p101 : PK (adr h j s d t p b1 b2 b3 b4 pa u, E.1, E.2) x00 ws 101 := ⟨_, rfl, wp 1 _ rfl⟩
  have p102 : PK (adr h j s d t p b1 b2 b3 b4 pa u, E.1, E.2) x00 ws 102 := ⟨_, rfl, wp 2 _ rfl⟩
  have p103 : PK (adr h j s d t p b1 b2 b3 b4 pa u, E.1, E.2) x00 ws 103 := ⟨_, rfl, wp 3 _ rfl⟩
  have p104 : PK (adr h j s d t p b1 b2 b3 b4 pa u, E.1, E.2) x00 ws 104 := ⟨_, rfl, wt 1 _ rfl⟩
  have p105 : PK (adr h j s d t p b1 b2 b3 b4 pa u, E.1, E.2) x00 ws 105 := ⟨_, rfl, wu 0 _ rfl⟩
  have p106 : PK (adr h j s d t p b1 b2 b3 b4 pa u, E.1, E.2) x00 ws 106 := ⟨_, rfl, wu 1 _ rfl⟩
  have p107 : PK (adr h j s d t p b1 b2 b3 b4 pa u, E.1, E.2) x00 ws 107 := ⟨_, rfl, wu 2 _ rfl⟩
  have p108 : PK (adr h j s d t p b1 b2 b3 b4 pa u, E.1, E.2) x00 ws 108 := ⟨_, rfl, wu 3 _ rfl⟩
  have p109 : PK (adr h j s d t p b1 b2 b3 b4 pa u, E.1, E.2) x00 ws 109 := ⟨_, rfl, wu 4 _ rfl⟩
  have p110 : PK (adr h j s d t p b1 b2 b3 b4 pa u, E.1, E.2) x00 ws 110 := ⟨_, rfl, wu 5 _ rfl⟩
  have p111 : PK (adr h j s d t p b1 b2 b3 b4 pa u, E.1, E.2) x00 ws 111 := ⟨_, rfl, wu 6 _ rfl⟩
  exact AllN.at (n := 112) ⟨⟨⟨⟨⟨⟨⟨⟨⟨⟨⟨⟨⟨⟨⟨⟨⟨⟨⟨⟨⟨⟨⟨⟨⟨⟨⟨⟨⟨⟨⟨⟨⟨⟨⟨⟨⟨⟨⟨⟨⟨⟨⟨⟨⟨⟨⟨⟨⟨⟨⟨⟨⟨⟨⟨⟨⟨⟨⟨⟨⟨⟨⟨⟨⟨⟨⟨⟨⟨⟨⟨⟨⟨⟨⟨⟨⟨⟨⟨⟨⟨⟨⟨⟨⟨⟨⟨⟨⟨⟨⟨⟨⟨⟨⟨⟨⟨⟨⟨⟨⟨⟨⟨⟨⟨⟨⟨⟨⟨⟨⟨⟨trivial, p0⟩, p1⟩, p2⟩, p3⟩, p4⟩, p5⟩, p6⟩, p7⟩, p8⟩, p9⟩, p10⟩, p11⟩, p12⟩, p13⟩, p14⟩, p15⟩, p16⟩, p17⟩, p18⟩, p19⟩, p20⟩, p21⟩, p22⟩, p23⟩, p24⟩, p25⟩, p26⟩, p27⟩, p28⟩, p29⟩, p30⟩, p31⟩, p32⟩, p33⟩, p34⟩, p35⟩, p36⟩, p37⟩, p38⟩, p39⟩, p40⟩, p41⟩, p42⟩, p43⟩, p44⟩, p45⟩, p46⟩, p47⟩, p48⟩, p49⟩, p50⟩, p51⟩, p52⟩, p53⟩, p54⟩, p55⟩, p56⟩, p57⟩, p58⟩, p59⟩, p60⟩, p61⟩, p62⟩, p63⟩, p64⟩, p65⟩, p66⟩, p67⟩, p68⟩, p69⟩, p70⟩, p71⟩, p72⟩, p73⟩, p74⟩, p75⟩, p76⟩, p77⟩, p78⟩, p79⟩, p80⟩, p81⟩, p82⟩, p83⟩, p84⟩, p85⟩, p86⟩, p87⟩, p88⟩, p89⟩, p90⟩, p91⟩, p92⟩, p93⟩, p94⟩, p95⟩, p96⟩, p97⟩, p98⟩, p99⟩, p100⟩, p101⟩, p102⟩, p103⟩, p104⟩, p105⟩, p106⟩, p107⟩, p108⟩, p109⟩, p110⟩, p111⟩
theorem to_wld {H : Heap} {A : Nat → Prop} {f : Nat → Option Nat} (hf : f = va_up (va_up (va_up (va_up (fun _ => none) 0 (some (b1 0))) 1 (some (b2 0))) 2 (some (b3 0))) 3 (some (b4 0))) (hP : va_P E.1 vwCl (stW E f h j s d t p b1 b2 b3 b4 pa ++ mdW E u) H) (hD : va_D A (stW E f h j s d t p b1 b2 b3 b4 pa ++ mdW E u)) : va_P E.1 vwCl (wld (adr h j s d t p b1 b2 b3 b4 pa u, E.1, E.2) x00) H ∧ va_D A (wld (adr h j s d t p b1 b2 b3 b4 pa u, E.1, E.2) x00) := by
  have hg : ∀ i, i < 4 → f i = gA h j s d t p b1 b2 b3 b4 pa u i := by
    intro i hi
    subst hf
    rcases (show i = 0 ∨ i = 1 ∨ i = 2 ∨ i = 3 by omega) with rfl | rfl | rfl | rfl <;> rfl
  have w0 : Inc 0 (stW E f h j s d t p b1 b2 b3 b4 pa ++ mdW E u) _ := Inc.rf
  have w2 := w0.l.c
  have w3 : Inc 18 _ _ := w2.r (n := 17) rfl
  have w4 : Inc 32 _ _ := w3.r (n := 14) rfl
  have h32 := w4.h
  have e : (stW E f h j s d t p b1 b2 b3 b4 pa ++ mdW E u).set 32 (pa, .inl (E.2 2, 4, .inr (.inr (.inr (.inr (gA h j s d t p b1 b2 b3 b4 pa u)))))) = stW E (gA h j s d t p b1 b2 b3 b4 pa u) h j s d t p b1 b2 b3 b4 pa ++ mdW E u := by
    have l1 : (jgW E j).length = 17 := rfl
    have l2 : (bkW E s).length = 14 := rfl
    unfold stW
    rw [List.cons_append, List.cons_append, List.set_cons_succ, List.append_assoc, List.append_assoc, List.set_append_right _ _ (by rw [l1]; decide), l1, List.append_assoc, List.append_assoc, List.set_append_right _ _ (by rw [l2]; decide), l2]
    rfl
  have hP1 := va_P_q hP h32 hg
  have hD1 := hD.set (e := .inl (E.2 2, 4, .inr (.inr (.inr (.inr (gA h j s d t p b1 b2 b3 b4 pa u)))))) h32
  rw [e] at hP1 hD1
  exact of_PK (pk_all Inc.rf) hP1 hD1
end TOW
