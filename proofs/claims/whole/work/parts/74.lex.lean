/-! the bytes, and the tokens that they make -/
def blkB (b : Nat) : Bool := decide (b = 32) || decide (b = 10)
def ltrB (b : Nat) : Bool := decide (97 ≤ b) && decide (b ≤ 122)
def dgtB (b : Nat) : Bool := decide (48 ≤ b) && decide (b ≤ 57)
def sgnB (b : Nat) : Bool := [40, 41, 42, 43, 45, 47, 59, 60, 61].contains b
def sb (b : Nat) : Int32 := (nI b).toInt8.toInt32
theorem by_C : ∀ b, b < 256 → f6_isBlank (sb b) = some (blkB b) ∧ f6_isLetter (sb b) = some (ltrB b) ∧ f6_isDigit (sb b) = some (dgtB b) ∧ f6_isSign (sb b) = some (sgnB b) := by decide +kernel
theorem by_M : ∀ b, b < 256 → (nI b = 32 ↔ b = 32) ∧ (nI b = 10 ↔ b = 10) ∧ f11_isLetter (nI b) = some (ltrB b) ∧ f11_isDigit (nI b) = some (dgtB b) ∧ f11_isMark (nI b) = some (sgnB b) ∧ nI b ≠ -1 := by decide +kernel
theorem by_e : ∀ b, b < 256 → (ltrB b || dgtB b || sgnB b) = true → sb b = nI b := by decide +kernel
theorem run_ex (f : Nat → Bool) (B : Nat → Nat) {a n : Nat} (h : a ≤ n) : ∃ b, a ≤ b ∧ b ≤ n ∧ (∀ k, a ≤ k → k < b → f (B k) = true) ∧ (b < n → f (B b) = false) := by
  refine ⟨a + fa_first (fun d => !f (B (a + d))) (n - a), by omega, ?_, ?_, ?_⟩
  · have := fa_first_le (fun d => !f (B (a + d))) (n - a); omega
  · intro k h1 h2
    have := fa_first_no (fun d => !f (B (a + d))) (n - a) (k - a) (by omega)
    rw [show a + (k - a) = k by omega] at this
    simpa using this
  · intro h2
    have := fa_first_yes (fun d => !f (B (a + d))) (n - a) (by omega)
    simpa using this
def chW (i k : Nat) : Int32 := (xByt.getD i []).getD k 0
def splB (B : Nat → Nat) (s e i : Nat) : Bool := decide (xLen.getD i 0 = e - s) && allB (fun k => decide (chW i k = nI (B (s + k)))) (xLen.getD i 0)
theorem w_dist : ∀ i, i < 16 → ∀ j, j < 16 → i ≠ j → xLen.getD i 0 ≠ xLen.getD j 0 ∨ ∃ k, k < 8 ∧ k < xLen.getD i 0 ∧ chW i k ≠ chW j k := by decide +kernel
theorem spl_iff {B : Nat → Nat} {s e i : Nat} : splB B s e i = true ↔ xLen.getD i 0 = e - s ∧ ∀ k, k < xLen.getD i 0 → chW i k = nI (B (s + k)) := by
  unfold splB
  rw [Bool.and_eq_true, decide_eq_true_eq, allB_iff]
  simp only [decide_eq_true_eq]
theorem spl_uniq {B : Nat → Nat} {s e i j : Nat} (hi : i < 16) (hj : j < 16) (h1 : splB B s e i = true) (h2 : splB B s e j = true) : i = j := by
  refine Classical.byContradiction fun hne => ?_
  obtain ⟨a1, a2⟩ := spl_iff.1 h1
  obtain ⟨b1, b2⟩ := spl_iff.1 h2
  rcases w_dist i hi j hj hne with h | ⟨k, -, k1, k2⟩
  · exact h (a1.trans b1.symm)
  · exact k2 ((a2 k k1).trans (b2 k (by omega)).symm)
def wdN (B : Nat → Nat) (s e : Nat) : Nat → Nat
  | 0 => 316
  | j + 1 => if splB B s e j = true then 300 + j else wdN B s e j
theorem wd_ok {B : Nat → Nat} {s e : Nat} : ∀ n, n ≤ 16 → (wdN B s e n = 316 ∧ ∀ i, i < n → splB B s e i = false) ∨ ∃ i, i < n ∧ wdN B s e n = 300 + i ∧ splB B s e i = true := by
  intro n
  induction n with
  | zero => intro _; exact .inl ⟨rfl, fun i hi => absurd hi (Nat.not_lt_zero i)⟩
  | succ n ih =>
    intro hn
    unfold wdN
    cases h : splB B s e n with
    | true => exact .inr ⟨n, by omega, if_pos rfl, h⟩
    | false =>
      rw [if_neg (by decide)]
      rcases ih (by omega) with ⟨h1, h2⟩ | ⟨i, h1, h2, h3⟩
      · refine .inl ⟨h1, fun i hi => ?_⟩
        by_cases z : i = n
        · rw [z, h]
        · exact h2 i (by omega)
      · exact .inr ⟨i, by omega, h2, h3⟩
theorem wd_iff {B : Nat → Nat} {s e i : Nat} (hi : i < 16) : (wdN B s e 16 = 300 + i) ↔ splB B s e i = true := by
  rcases wd_ok (B := B) (s := s) (e := e) 16 (Nat.le_refl _) with ⟨h1, h2⟩ | ⟨j, h1, h2, h3⟩
  · constructor
    · intro h; omega
    · intro h; rw [h2 i hi] at h; cases h
  · constructor
    · intro h
      have : i = j := by omega
      rw [this]; exact h3
    · intro h
      rw [h2, spl_uniq hi h1 h h3]
theorem wd_bd {B : Nat → Nat} {s e : Nat} : 300 ≤ wdN B s e 16 ∧ wdN B s e 16 < 317 := by
  rcases wd_ok (B := B) (s := s) (e := e) 16 (Nat.le_refl _) with ⟨h1, h2⟩ | ⟨j, h1, h2, h3⟩ <;> omega
def vlN (B : Nat → Nat) (s : Nat) : Nat → Nat
  | 0 => 0
  | j + 1 => 10 * vlN B s j + (B (s + j) - 48)
/-- a token: where it begins, where it ends, its kind as the class counts it, its value -/
abbrev LX : Type := Nat × Nat × Nat × Nat
def TokP (n : Nat) (B : Nat → Nat) (a : Nat) (L : LX) : Prop :=
  a ≤ L.1 ∧ L.1 ≤ n ∧ (∀ k, a ≤ k → k < L.1 → blkB (B k) = true) ∧ (L.1 < n → blkB (B L.1) = false) ∧
  ((L.1 = n ∧ L.2.1 = L.1 ∧ L.2.2.1 = 0) ∨
   (L.1 < L.2.1 ∧ L.2.1 ≤ n ∧ (∀ k, L.1 ≤ k → k < L.2.1 → ltrB (B k) = true) ∧ (L.2.1 < n → ltrB (B L.2.1) = false) ∧ L.2.2.1 = wdN B L.1 L.2.1 16) ∨
   (L.1 < L.2.1 ∧ L.2.1 ≤ n ∧ ltrB (B L.1) = false ∧ (∀ k, L.1 ≤ k → k < L.2.1 → dgtB (B k) = true) ∧ (L.2.1 < n → dgtB (B L.2.1) = false) ∧ L.2.2.1 = 2 ∧ L.2.2.2 = vlN B L.1 (L.2.1 - L.1)) ∨
   (L.1 < n ∧ L.2.1 = L.1 + 1 ∧ ltrB (B L.1) = false ∧ dgtB (B L.1) = false ∧ L.2.2.1 = if sgnB (B L.1) = true then B L.1 else 1))
theorem tok_ex (n : Nat) (B : Nat → Nat) {a : Nat} (h : a ≤ n) : ∃ L, TokP n B a L := by
  obtain ⟨s, h1, h2, h3, h4⟩ := run_ex blkB B h
  by_cases e0 : s = n
  · exact ⟨(s, s, 0, 0), h1, h2, h3, h4, .inl ⟨e0, rfl, rfl⟩⟩
  · cases hl : ltrB (B s) with
    | true =>
      obtain ⟨e, a1, a2, a3, a4⟩ := run_ex ltrB B (show s ≤ n by omega)
      have : s < e := Nat.lt_of_le_of_ne a1 fun z => by rw [← z, hl] at a4; exact absurd (a4 (by omega)) (by decide)
      exact ⟨(s, e, wdN B s e 16, 0), h1, h2, h3, h4, .inr (.inl ⟨this, a2, a3, a4, rfl⟩)⟩
    | false =>
      cases hd : dgtB (B s) with
      | true =>
        obtain ⟨e, a1, a2, a3, a4⟩ := run_ex dgtB B (show s ≤ n by omega)
        have : s < e := Nat.lt_of_le_of_ne a1 fun z => by rw [← z, hd] at a4; exact absurd (a4 (by omega)) (by decide)
        exact ⟨(s, e, 2, vlN B s (e - s)), h1, h2, h3, h4, .inr (.inr (.inl ⟨this, a2, hl, a3, a4, rfl, rfl⟩))⟩
      | false => exact ⟨(s, s + 1, if sgnB (B s) = true then B s else 1, 0), h1, h2, h3, h4, .inr (.inr (.inr ⟨by omega, rfl, hl, hd, rfl⟩))⟩
/-- what is so of every token -/
def LOk (n : Nat) (B : Nat → Nat) (L : LX) : Prop :=
  L.1 ≤ L.2.1 ∧ L.2.1 ≤ n ∧ (L.2.2.1 ≠ 0 → L.1 < L.2.1) ∧ (L.2.2.1 = 0 ∨ L.2.2.1 = 1 ∨ (L.2.2.1 = 2 ∧ (L.2.1 - L.1 ≤ 4 → L.2.2.2 ≤ 9999)) ∨ (L.2.2.1 < 62 ∧ sgnB L.2.2.1 = true ∧ B L.1 = L.2.2.1) ∨ (300 ≤ L.2.2.1 ∧ L.2.2.1 < 317 ∧ ∀ i, i < 16 → (L.2.2.1 = 300 + i ↔ splB B L.1 L.2.1 i = true)))
theorem vl_le {B : Nat → Nat} {s : Nat} : ∀ j, (∀ k, s ≤ k → k < s + j → dgtB (B k) = true) → vlN B s j + 1 ≤ 10 ^ j := by
  intro j
  induction j with
  | zero => intro _; exact Nat.le_refl _
  | succ j ih =>
    intro h
    have h1 := ih fun k a b => h k a (by omega)
    have h2 := h (s + j) (by omega) (by omega)
    unfold dgtB at h2
    rw [Bool.and_eq_true, decide_eq_true_eq, decide_eq_true_eq] at h2
    show 10 * vlN B s j + (B (s + j) - 48) + 1 ≤ 10 ^ (j + 1)
    rw [Nat.pow_succ]
    omega
theorem sgn_lt : ∀ b, b < 256 → sgnB b = true → b < 62 ∧ 40 ≤ b := by decide +kernel
theorem TokP.ok {n : Nat} {B : Nat → Nat} {a : Nat} {L : LX} (hB : ∀ k, k < n → B k < 256) (h : TokP n B a L) : LOk n B L := by
  obtain ⟨h1, h2, h3, h4, h5⟩ := h
  rcases h5 with ⟨a1, a2, a3⟩ | ⟨a1, a2, a3, a4, a5⟩ | ⟨a1, a2, a3, a4, a5, a6, a7⟩ | ⟨a1, a2, a3, a4, a5⟩
  · exact ⟨by omega, by omega, fun z => absurd a3 z, .inl a3⟩
  · refine ⟨by omega, by omega, fun _ => a1, .inr (.inr (.inr (.inr ⟨?_, ?_, fun i hi => ?_⟩)))⟩
    · rw [a5]; exact wd_bd.1
    · rw [a5]; exact wd_bd.2
    · rw [a5]; exact wd_iff hi
  · refine ⟨by omega, by omega, fun _ => a1, .inr (.inr (.inl ⟨a6, fun hl => ?_⟩))⟩
    have hv := vl_le (B := B) (s := L.1) (L.2.1 - L.1) (fun k x y => a4 k x (by omega))
    have hp : 10 ^ (L.2.1 - L.1) ≤ 10 ^ 4 := Nat.pow_le_pow_right (by decide) hl
    rw [a7]
    omega
  · refine ⟨by omega, by omega, fun _ => by omega, ?_⟩
    cases hs : sgnB (B L.1) with
    | false => rw [hs, if_neg (by decide)] at a5; exact .inr (.inl a5)
    | true =>
      rw [hs, if_pos rfl] at a5
      have := sgn_lt _ (hB _ a1) hs
      exact .inr (.inr (.inr (.inl ⟨by omega, by rw [a5]; exact hs, a5.symm⟩)))
