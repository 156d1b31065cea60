/-! PURE: a book is a row s of ints (the reference's own layout); what is asked of it, as functions of the row -/
theorem li_lt (a b : Int32) : a < b ↔ a.toInt < b.toInt := Int32.lt_iff_toInt_lt
theorem li_le (a b : Int32) : a ≤ b ↔ a.toInt ≤ b.toInt := Int32.le_iff_toInt_le
theorem li_eq (a b : Int32) : a = b ↔ a.toInt = b.toInt := Int32.toInt_inj.symm
abbrev Row : Type := Nat → Int32
def bI (b : Bool) : Int32 := if b then 1 else 0
def oI (z : Int32) (o : Option Nat) : Int32 := match o with
  | none => z
  | some k => nI k
theorem bI_01 (b : Bool) : bI b = 0 ∨ bI b = 1 := by cases b <;> simp [bI]
theorem q1 {Q : Int32 → XX → Prop} {x : XX} {b : Bool} (h : Q (bI b) x) (e : b = true) : Q 1 x := by subst e; exact h
theorem q0 {Q : Int32 → XX → Prop} {x : XX} {b : Bool} (h : Q (bI b) x) (e : b = false) : Q 0 x := by subst e; exact h
theorem br_b {b : Bool} {A B : Prop} (ha : b = false → A) (hb : b = true → B) : (bI b = 0 → A) ∧ (¬ bI b = 0 → B) := by
  cases b
  · exact ⟨fun _ => ha rfl, fun h => absurd rfl h⟩
  · exact ⟨fun h => absurd h (by decide), fun _ => hb rfl⟩
theorem br_n {b : Bool} {A B : Prop} (ha : b = false → A) (hb : b = true → B) : (¬ bI b = 0 → B) ∧ (bI b = 0 → A) := ⟨(br_b ha hb).2, (br_b ha hb).1⟩
theorem up_loop {P : Nat → Prop} {n : Nat} (he : P n) (hs : ∀ k, k < n → P (k + 1) → P k) : ∀ k, k ≤ n → P k := by
  intro k hk
  obtain ⟨j, rfl⟩ := Nat.exists_eq_add_of_le hk
  clear hk
  induction j generalizing k with
  | zero => exact he
  | succ j ih =>
    refine hs k (by omega) (ih (k + 1) ?_ ?_)
    · rw [show k + 1 + j = k + (j + 1) by omega]; exact he
    · rw [show k + 1 + j = k + (j + 1) by omega]; exact hs
def isN (m : Nat) (p : Int32) : Bool := decide (0 ≤ p.toInt) && decide (p.toInt < m)
theorem isN_t {m : Nat} {p : Int32} (h : isN m p = true) : ∃ j, j < m ∧ p = nI j := by
  simp only [isN, Bool.and_eq_true, decide_eq_true_eq] at h
  refine ⟨p.toInt.toNat, by omega, ?_⟩
  have h3 : p.toInt < 2 ^ 31 := p.toInt_lt
  rw [li_eq, nI_toInt (by omega)]
  omega
theorem isN_nI {m j : Nat} (hj : j < 2 ^ 31) : isN m (nI j) = decide (j < m) := by
  simp only [isN, nI_toInt hj]
  by_cases h : j < m <;> simp [h] <;> omega
def cc (s : Row) (k j : Nat) : Int32 := s (20 + 13 * k + j)
def nC (s : Row) : Nat := (s 19).toNatClampNeg
def nE (s : Row) (k : Nat) : Nat := (cc s k 6).toNatClampNeg
def chO (s : Row) (k : Nat) : Nat := (cc s k 0).toNatClampNeg
def inF (s : Row) (k : Nat) (day : Int32) : Bool := decide (cc s k 1 ≤ day) && decide (day < cc s k 2)
def rea (s : Row) (c : Nat) (num : Int32) : Bool := decide (s (1 + 3 * c) ≤ num) && decide (num ≤ s (2 + 3 * c))
def spn (s : Row) (k : Nat) (num : Int32) : Bool := decide (cc s k 3 ≤ num) && decide (num ≤ cc s k 4)
def exA (s : Row) (k : Nat) (num : Int32) : Nat → Bool
  | 0 => false
  | e + 1 => exA s k num e || (decide (cc s k (7 + 2 * e) ≤ num) && decide (num ≤ cc s k (8 + 2 * e)))
def exc (s : Row) (k : Nat) (num : Int32) : Bool := exA s k num (nE s k)
def mee (s : Row) (k : Nat) (num : Int32) : Bool := rea s (chO s k) num && spn s k num && !exc s k num
def may (s : Row) (c : Nat) (num day : Int32) (wo : Option Nat) (k : Nat) : Bool := decide (wo ≠ some k) && inF s k day && mee s k num && decide (chO s k = c)
def later (s : Row) (o : Option Nat) (k : Nat) : Bool := match o with
  | none => true
  | some g => decide (cc s g 1 ≤ cc s k 1)
def lat (s : Row) (c : Nat) (num day : Int32) (wo : Option Nat) : Nat → Option Nat
  | 0 => none
  | n + 1 => if may s c num day wo n && later s (lat s c num day wo n) n then some n else lat s c num day wo n
def lto (s : Row) (c : Nat) (num day : Int32) (wo : Option Nat) : Option Nat := lat s c num day wo (nC s)
def spo (s : Row) (o : Option Nat) : Option Nat := match o with
  | none => none
  | some k => if cc s k 5 = 0 then none else some k
def rulT (s : Row) (t : Nat → Option Nat) : Nat → Option Nat × Int32
  | 0 => (none, -1)
  | c + 1 => match spo s (t c) with
    | none => rulT s t c
    | some k => if (rulT s t c).2 < s (3 + 3 * c) then (some k, s (3 + 3 * c)) else rulT s t c
/-- the clause that rules a case on a day, as if one was not there -/
def rul (s : Row) (num day : Int32) (wo : Option Nat) : Option Nat := (rulT s (fun c => lto s c num day wo) 6).1
/-- a row that an object can come to -/
def WF (s : Row) : Prop := nC s ≤ 30 ∧ s 19 = nI (nC s) ∧ (0 ≤ (s 0).toInt ∧ (s 0).toInt < 1000) ∧
  (∀ k, k < nC s → chO s k < 6 ∧ cc s k 0 = nI (chO s k) ∧ nE s k ≤ 3 ∧ cc s k 6 = nI (nE s k) ∧ (0 ≤ (cc s k 1).toInt ∧ (cc s k 1).toInt < 1000) ∧ ((cc s k 1).toInt < (cc s k 2).toInt ∧ (cc s k 2).toInt ≤ 1000) ∧ (0 ≤ (cc s k 3).toInt ∧ (cc s k 3).toInt < 100) ∧ (0 ≤ (cc s k 4).toInt ∧ (cc s k 4).toInt < 100)) ∧
  (∀ c, c < 6 → (0 ≤ (s (1 + 3 * c)).toInt ∧ (s (1 + 3 * c)).toInt < 100) ∧ (0 ≤ (s (2 + 3 * c)).toInt ∧ (s (2 + 3 * c)).toInt < 100) ∧ (0 ≤ (s (3 + 3 * c)).toInt ∧ (s (3 + 3 * c)).toInt < 6)) ∧
  ∀ c, c < 6 → ∀ b, b < 6 → s (3 + 3 * c) = s (3 + 3 * b) → c = b
/-- the object of class Clauses at c holds the clauses of s -/
def RC (x : XX) (c : Nat) (s : Row) : Prop := x c 0 = s 19 ∧ ∀ k, k < nC s → (x (c + 1) k = cc s k 0 ∧ x (c + 2) k = cc s k 1 ∧ x (c + 3) k = cc s k 2 ∧ x (c + 4) k = cc s k 3 ∧ x (c + 5) k = cc s k 4 ∧ x (c + 6) k = cc s k 5 ∧ x (c + 7) k = cc s k 6) ∧ ∀ e, e < nE s k → x (c + 8) (3 * k + e) = cc s k (7 + 2 * e) ∧ x (c + 9) (3 * k + e) = cc s k (8 + 2 * e)
/-- the book at b holds s -/
def RB (x : XX) (b : Nat) (s : Row) : Prop := x b 0 = s 0 ∧ (∀ c, c < 6 → x (b + 1) c = s (1 + 3 * c) ∧ x (b + 2) c = s (2 + 3 * c) ∧ x (b + 3) c = s (3 + 3 * c)) ∧ RC x (b + 4) s
theorem RC.same {x y : XX} {c : Nat} {s : Row} (h : RC x c s) (e : ∀ a, c ≤ a → a < c + 10 → y a = x a) : RC y c s := by
  refine ⟨by rw [e c (by omega) (by omega)]; exact h.1, fun k hk => ?_⟩
  have h2 := h.2 k hk
  rw [e (c + 1) (by omega) (by omega), e (c + 2) (by omega) (by omega), e (c + 3) (by omega) (by omega), e (c + 4) (by omega) (by omega), e (c + 5) (by omega) (by omega), e (c + 6) (by omega) (by omega), e (c + 7) (by omega) (by omega), e (c + 8) (by omega) (by omega), e (c + 9) (by omega) (by omega)]
  exact h2
theorem RB.same {x y : XX} {b : Nat} {s : Row} (h : RB x b s) (e : ∀ a, b ≤ a → a < b + 14 → y a = x a) : RB y b s := by
  refine ⟨by rw [e b (by omega) (by omega)]; exact h.1, fun c hc => ?_, h.2.2.same (fun a h1 h2 => e a (by omega) (by omega))⟩
  have h2 := h.2.1 c hc
  rw [e (b + 1) (by omega) (by omega), e (b + 2) (by omega) (by omega), e (b + 3) (by omega) (by omega)]
  exact h2
theorem lat_lt {s : Row} {c : Nat} {num day : Int32} {wo : Option Nat} : ∀ {n k : Nat}, lat s c num day wo n = some k → k < n
  | 0, k, h => by simp [lat] at h
  | n + 1, k, h => by
    unfold lat at h
    split at h
    · cases h; omega
    · have := lat_lt h; omega
theorem lto_lt {s : Row} {c : Nat} {num day : Int32} {wo : Option Nat} {k : Nat} (h : lto s c num day wo = some k) : k < nC s := lat_lt h
theorem lat_ch {s : Row} {c : Nat} {num day : Int32} {wo : Option Nat} : ∀ {n k : Nat}, lat s c num day wo n = some k → may s c num day wo k = true
  | 0, k, h => by simp [lat] at h
  | n + 1, k, h => by
    unfold lat at h
    split at h
    · rename_i h1
      cases h
      simp only [Bool.and_eq_true] at h1
      exact h1.1
    · exact lat_ch h
theorem spo_some {s : Row} {o : Option Nat} {k : Nat} (h : spo s o = some k) : o = some k ∧ ¬ cc s k 5 = 0 := by
  cases o with
  | none => cases h
  | some j =>
    simp only [spo] at h
    split at h
    · cases h
    · rename_i h1
      cases h
      exact ⟨rfl, h1⟩
theorem rulT_of {s : Row} {t : Nat → Option Nat} : ∀ {n k : Nat}, (rulT s t n).1 = some k → ∃ c, c < n ∧ spo s (t c) = some k
  | 0, k, h => by simp [rulT] at h
  | n + 1, k, h => by
    unfold rulT at h
    split at h
    · obtain ⟨c, h1, h2⟩ := rulT_of h
      exact ⟨c, by omega, h2⟩
    · rename_i j hj
      split at h
      · cases h; exact ⟨n, by omega, hj⟩
      · obtain ⟨c, h1, h2⟩ := rulT_of h
        exact ⟨c, by omega, h2⟩
theorem rul_lt {s : Row} {num day : Int32} {wo : Option Nat} {k : Nat} (h : rul s num day wo = some k) : k < nC s := by
  obtain ⟨c, -, h2⟩ := rulT_of h
  exact lto_lt (spo_some h2).1
def cnt (f : Nat → Bool) : Nat → Nat
  | 0 => 0
  | n + 1 => cnt f n + if f n then 1 else 0
theorem cnt_le (f : Nat → Bool) : ∀ n, cnt f n ≤ n
  | 0 => Nat.le_refl 0
  | n + 1 => by
    have := cnt_le f n
    unfold cnt
    split <;> omega
theorem oI_none {z : Int32} (hz : z.toInt < 0) {o : Option Nat} (ho : ∀ k, o = some k → k < 2 ^ 31) : oI z o = z ↔ o = none := by
  cases o with
  | none => simp [oI]
  | some k =>
    have h := ho k rfl
    simp only [oI, reduceCtorEq, iff_false]
    intro h1
    rw [li_eq, nI_toInt h] at h1
    omega
theorem oI_inj {z : Int32} (hz : z.toInt < 0) {o p : Option Nat} (ho : ∀ k, o = some k → k < 2 ^ 31) (hp : ∀ k, p = some k → k < 2 ^ 31) : oI z o = oI z p ↔ o = p := by
  constructor
  · intro h
    cases p with
    | none => exact (oI_none hz ho).mp h
    | some k =>
      cases o with
      | none => exact ((oI_none hz hp).mp h.symm).symm
      | some j =>
        have h1 := ho j rfl
        have h2 := hp k rfl
        rw [show oI z (some j) = nI j from rfl, show oI z (some k) = nI k from rfl, nI_eq h1 h2] at h
        rw [h]
  · intro h; rw [h]
