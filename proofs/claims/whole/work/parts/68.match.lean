/-! the best twins: the table of least strife, and the first row of it -/
def lwN (s : Nat) : Nat := fa_first (fun i => s.testBit i) 12
def rmB (s a b : Nat) : Nat := s &&& (4095 ^^^ (2 ^ a ||| 2 ^ b))
def pcN (s : Nat) : Nat := fb_ct (fun i => s.testBit i) 12
def mnF (c : Nat → Nat → Nat) (D : Nat → Nat) (X s a : Nat) : Nat → Nat
  | 0 => X
  | b + 1 => if a < b ∧ s.testBit b = true then min (mnF c D X s a b) (c a b + D (rmB s a b)) else mnF c D X s a b
def dpE (c : Nat → Nat → Nat) (L : Nat) : Nat → Nat → Nat
  | 0 => fun _ => 0
  | n + 1 => fun s => if s = n then (if n = 0 then 0 else mnF c (dpE c L n) 100000 n (lwN n) L) else dpE c L n s
def dpD (c : Nat → Nat → Nat) (L s : Nat) : Nat := dpE c L (s + 1) s
section
variable {c : Nat → Nat → Nat} {L : Nat}
theorem tb_4095 (i : Nat) : (4095 : Nat).testBit i = decide (i < 12) := by
  rcases Nat.lt_or_ge i 12 with h | h
  · exact (by decide +kernel : ∀ i, i < 12 → (4095 : Nat).testBit i = decide (i < 12)) i h
  · rw [decide_eq_false (by omega)]
    exact Nat.testBit_lt_two_pow (Nat.lt_of_lt_of_le (by decide : 4095 < 2 ^ 12) (Nat.pow_le_pow_right (by decide) h))
theorem tb_big {s i : Nat} (hs : s < 4096) (hi : 12 ≤ i) : s.testBit i = false := Nat.testBit_lt_two_pow (Nat.lt_of_lt_of_le hs (Nat.pow_le_pow_right (by decide) hi : 2 ^ 12 ≤ 2 ^ i))
theorem tb_rm {s a b : Nat} (hs : s < 4096) (i : Nat) : (rmB s a b).testBit i = (s.testBit i && !(decide (i = a) || decide (i = b))) := by
  unfold rmB
  rw [Nat.testBit_and, Nat.testBit_xor, Nat.testBit_or, tb_4095, Nat.testBit_two_pow, Nat.testBit_two_pow]
  have e1 : decide (a = i) = decide (i = a) := decide_eq_decide.2 eq_comm
  have e2 : decide (b = i) = decide (i = b) := decide_eq_decide.2 eq_comm
  rw [e1, e2]
  rcases Nat.lt_or_ge i 12 with h | h
  · rw [decide_eq_true h, Bool.true_xor]
  · rw [tb_big hs h, Bool.false_and, Bool.false_and]
theorem rm_le (s a b : Nat) : rmB s a b ≤ s := Nat.and_le_left
theorem rm_lt {s a b : Nat} (hs : s < 4096) (ha : s.testBit a = true) : rmB s a b < s := by
  refine Nat.lt_of_le_of_ne (rm_le s a b) fun e => ?_
  have := tb_rm (a := a) (b := b) hs a
  rw [e, ha] at this
  simp at this
theorem rm_e {s a b : Nat} (hs : s < 4096) (ha : a < 12) (hb : b < 12) : nI s &&& ((((1 : Int32) <<< (nI a &&& 31)) ||| ((1 : Int32) <<< (nI b &&& 31))) ^^^ (-1)) = nI (rmB s a b) := by
  have h1 := (Bm.of_num (n := 12) (k := s) hs (by decide)).sub ((Bm.one ha (by decide)).or (Bm.one hb (by decide)))
  refine h1.uniq2 (Bm.of_num (n := 12) (k := rmB s a b) (Nat.lt_of_le_of_lt (rm_le s a b) hs) (by decide)) (fun i hi => ?_)
  rw [tb_rm hs]
theorem pc_rm {s a b : Nat} (hs : s < 4096) (ha : a < 12) (hb : b < 12) (hne : a ≠ b) (h1 : s.testBit a = true) (h2 : s.testBit b = true) : pcN (rmB s a b) + 2 = pcN s := by
  have e1 : pcN (rmB s a b) = fb_ct (fun i => if i = b then false else if i = a then false else s.testBit i) 12 := fb_ct_cong fun i _ => by
    rw [tb_rm hs]
    by_cases z : i = b
    · simp [z]
    · by_cases w : i = a
      · simp [w]
      · simp [z, w]
  have u1 := fb_ct_upd (fun i => if i = a then false else s.testBit i) false hb
  have u2 := fb_ct_upd (fun i => s.testBit i) false ha
  rw [h1] at u2
  have : (if b = a then false else s.testBit b) = true := by rw [if_neg (fun z => hne z.symm)]; exact h2
  rw [this] at u1
  have u1 : fb_ct (fun i => if i = b then false else if i = a then false else s.testBit i) 12 + 1 = fb_ct (fun i => if i = a then false else s.testBit i) 12 + 0 := u1
  have u2 : fb_ct (fun i => if i = a then false else s.testBit i) 12 + 1 = pcN s + 0 := u2
  omega
theorem pc_0 {s : Nat} (hs : s < 4096) (h : pcN s = 0) : s = 0 := by
  refine Nat.eq_of_testBit_eq fun i => ?_
  rw [Nat.zero_testBit]
  rcases Nat.lt_or_ge i 12 with hi | hi
  · exact fb_ct_zero.1 h i hi
  · exact tb_big hs hi
theorem pc_pos {s : Nat} (hs : s < 4096) (h : s ≠ 0) : ∃ i, i < 12 ∧ s.testBit i = true := fb_ct_pos.1 (Nat.pos_of_ne_zero fun z => h (pc_0 hs z))
theorem lw_ok {s : Nat} (hs : s < 4096) (h : s ≠ 0) : lwN s < 12 ∧ s.testBit (lwN s) = true ∧ ∀ j, j < lwN s → s.testBit j = false := by
  obtain ⟨i, h1, h2⟩ := pc_pos hs h
  have h3 : lwN s < 12 := by
    refine Nat.lt_of_not_le fun z => ?_
    have := fa_first_no (fun i => s.testBit i) 12 i (by show i < lwN s; omega)
    rw [h2] at this
    cases this
  exact ⟨h3, fa_first_yes (fun i => s.testBit i) 12 h3, fun j hj => fa_first_no (fun i => s.testBit i) 12 j hj⟩
/-- of an even set with something in it: one more behind the lowest -/
theorem ev_two {s : Nat} (hs : s < 4096) (h : s ≠ 0) (he : pcN s % 2 = 0) : ∃ b, b < 12 ∧ lwN s < b ∧ s.testBit b = true := by
  obtain ⟨h1, h2, h3⟩ := lw_ok hs h
  have u1 := fb_ct_upd (fun i => s.testBit i) false h1
  rw [h2] at u1
  have u1 : fb_ct (fun k => if k = lwN s then false else s.testBit k) 12 + 1 = pcN s + 0 := u1
  have hp : 0 < fb_ct (fun k => if k = lwN s then false else s.testBit k) 12 := by omega
  obtain ⟨b, b1, b2⟩ := fb_ct_pos.1 hp
  have b3 : b ≠ lwN s := fun z => by rw [if_pos z] at b2; cases b2
  rw [if_neg b3] at b2
  refine ⟨b, b1, Nat.lt_of_le_of_ne (Nat.le_of_not_lt fun z => ?_) (fun z => b3 z.symm), b2⟩
  rw [h3 b z] at b2
  cases b2
theorem mnF_s {D : Nat → Nat} {X s a : Nat} (b : Nat) : mnF c D X s a (b + 1) = if a < b ∧ s.testBit b = true then min (mnF c D X s a b) (c a b + D (rmB s a b)) else mnF c D X s a b := rfl
theorem mnF_cong {D E : Nat → Nat} {X s a : Nat} : ∀ n, (∀ b, b < n → a < b → s.testBit b = true → D (rmB s a b) = E (rmB s a b)) → mnF c D X s a n = mnF c E X s a n := by
  intro n
  induction n with
  | zero => intro _; rfl
  | succ n ih =>
    intro h
    unfold mnF
    rw [ih (fun b hb => h b (by omega))]
    by_cases z : a < n ∧ s.testBit n = true
    · rw [if_pos z, if_pos z, h n (by omega) z.1 z.2]
    · rw [if_neg z, if_neg z]
theorem mnF_le_X {D : Nat → Nat} {X s a : Nat} : ∀ n, mnF c D X s a n ≤ X := by
  intro n
  induction n with
  | zero => exact Nat.le_refl _
  | succ n ih =>
    unfold mnF
    split
    · exact Nat.le_trans (Nat.min_le_left _ _) ih
    · exact ih
theorem mnF_le {D : Nat → Nat} {X s a b : Nat} (h1 : a < b) (h2 : s.testBit b = true) : ∀ n, b < n → mnF c D X s a n ≤ c a b + D (rmB s a b) := by
  intro n
  induction n with
  | zero => intro h; omega
  | succ n ih =>
    intro h
    unfold mnF
    by_cases e : b = n
    · subst e
      rw [if_pos ⟨h1, h2⟩]
      exact Nat.min_le_right _ _
    · split
      · exact Nat.le_trans (Nat.min_le_left _ _) (ih (by omega))
      · exact ih (by omega)
theorem mnF_min {D : Nat → Nat} {X Y s a : Nat} : ∀ n, mnF c D (min X Y) s a n = min X (mnF c D Y s a n) := by
  intro n
  induction n with
  | zero => rfl
  | succ n ih =>
    unfold mnF
    rw [ih]
    split <;> omega
theorem mnF_att {D : Nat → Nat} {X s a : Nat} : ∀ n, mnF c D X s a n < X → ∃ b, b < n ∧ a < b ∧ s.testBit b = true ∧ mnF c D X s a n = c a b + D (rmB s a b) := by
  intro n
  induction n with
  | zero => intro h; exact absurd h (Nat.lt_irrefl _)
  | succ n ih =>
    intro h
    unfold mnF at h ⊢
    by_cases z : a < n ∧ s.testBit n = true
    · rw [if_pos z] at h ⊢
      rcases Nat.lt_or_ge (c a n + D (rmB s a n)) (mnF c D X s a n) with q | q
      · exact ⟨n, by omega, z.1, z.2, by omega⟩
      · obtain ⟨b, b1, b2, b3, b4⟩ := ih (by omega)
        exact ⟨b, by omega, b2, b3, by omega⟩
    · rw [if_neg z] at h ⊢
      obtain ⟨b, b1, b2⟩ := ih h
      exact ⟨b, by omega, b2⟩
theorem mnF_start {D : Nat → Nat} {X s a : Nat} : ∀ n, n ≤ a + 1 → mnF c D X s a n = X := by
  intro n
  induction n with
  | zero => intro _; rfl
  | succ n ih =>
    intro h
    unfold mnF
    rw [if_neg (fun z => by omega)]
    exact ih (by omega)
theorem mnF_ext {D : Nat → Nat} {X s a n : Nat} (h : ∀ i, n ≤ i → s.testBit i = false) : ∀ k, mnF c D X s a (n + k) = mnF c D X s a n := by
  intro k
  induction k with
  | zero => rfl
  | succ k ih =>
    show mnF c D X s a ((n + k) + 1) = _
    rw [mnF_s, if_neg (fun z => by rw [h (n + k) (by omega)] at z; cases z.2)]
    exact ih
theorem dpE_lt : ∀ n s, s < n → dpE c L n s = dpD c L s := by
  intro n
  induction n with
  | zero => intro s h; omega
  | succ n ih =>
    intro s h
    by_cases e : s = n
    · subst e; rfl
    · show (if s = n then _ else dpE c L n s) = _
      rw [if_neg e]
      exact ih s (by omega)
theorem dpD_0 : dpD c L 0 = 0 := rfl
theorem dpD_s {s : Nat} (hs : s < 4096) (h : s ≠ 0) : dpD c L s = mnF c (dpD c L) 100000 s (lwN s) L := by
  obtain ⟨h1, h2, -⟩ := lw_ok hs h
  show (if s = s then (if s = 0 then 0 else mnF c (dpE c L s) 100000 s (lwN s) L) else dpE c L s s) = _
  rw [if_pos rfl, if_neg h]
  exact mnF_cong L fun b _ _ _ => dpE_lt s _ (rm_lt hs h2)
theorem dpD_le {s : Nat} (hs : s < 4096) : dpD c L s ≤ 100000 := by
  by_cases h : s = 0
  · rw [h, dpD_0]; omega
  · rw [dpD_s hs h]; exact mnF_le_X L
theorem dpD_B (hc : ∀ a b, c a b ≤ 24) (hL : L ≤ 12) : ∀ s, s < 2 ^ L → pcN s % 2 = 0 → dpD c L s ≤ 12 * pcN s := by
  intro s
  induction s using Nat.strongRecOn with
  | ind s ih =>
    intro hs he
    have hs2 : s < 4096 := Nat.lt_of_lt_of_le hs (Nat.pow_le_pow_right (by decide) hL : 2 ^ L ≤ 2 ^ 12)
    by_cases h0 : s = 0
    · rw [h0, dpD_0]; omega
    · obtain ⟨h1, h2, -⟩ := lw_ok hs2 h0
      obtain ⟨b, b1, b2, b3⟩ := ev_two hs2 h0 he
      have bL : b < L := Nat.lt_of_not_le fun z => by
        have := Nat.testBit_lt_two_pow (Nat.lt_of_lt_of_le hs (Nat.pow_le_pow_right (by decide) z))
        rw [b3] at this
        cases this
      have hp := pc_rm hs2 h1 b1 (by omega) h2 b3
      have hr := rm_lt (b := b) hs2 h2
      have := ih _ hr (by omega) (by omega)
      have h5 := mnF_le (c := c) (D := dpD c L) (X := 100000) b2 b3 L bL
      rw [dpD_s hs2 h0]
      have := hc (lwN s) b
      omega
theorem pcN_12 (s : Nat) : pcN s ≤ 12 := fb_ct_le _ _
theorem mnF_big (hc : ∀ a b, c a b ≤ 24) (hL : L ≤ 12) {s : Nat} (hs : s < 2 ^ L) (h0 : s ≠ 0) (he : pcN s % 2 = 0) : mnF c (dpD c L) 1000000 s (lwN s) 12 = dpD c L s := by
  have hs2 : s < 4096 := Nat.lt_of_lt_of_le hs (Nat.pow_le_pow_right (by decide) hL : 2 ^ L ≤ 2 ^ 12)
  obtain ⟨h1, h2, -⟩ := lw_ok hs2 h0
  obtain ⟨b, b1, b2, b3⟩ := ev_two hs2 h0 he
  have hbig : ∀ i, L ≤ i → s.testBit i = false := fun i hi => Nat.testBit_lt_two_pow (Nat.lt_of_lt_of_le hs (Nat.pow_le_pow_right (by decide) hi))
  have bL : b < L := Nat.lt_of_not_le fun z => by rw [hbig b z] at b3; cases b3
  have hp := pc_rm hs2 h1 b1 (by omega) h2 b3
  have hr := rm_lt (b := b) hs2 h2
  have h6 := dpD_B hc hL _ (show rmB s (lwN s) b < 2 ^ L by omega) (by omega)
  have h5 := mnF_le (c := c) (D := dpD c L) (X := 1000000) b2 b3 L bL
  have h7 := pcN_12 s
  have h8 := hc (lwN s) b
  have h9 := mnF_min (c := c) (D := dpD c L) (X := 100000) (Y := 1000000) (s := s) (a := lwN s) L
  have hd : 12 = L + (12 - L) := by omega
  rw [hd, mnF_ext hbig, dpD_s hs2 h0, show (100000 : Nat) = min 100000 1000000 from by decide, h9]
  omega
/-! the first row with the least -/
def bsP (c : Nat → Nat → Nat) (L s b : Nat) : Bool := decide (lwN s < b) && s.testBit b && decide (c (lwN s) b + dpD c L (rmB s (lwN s) b) = dpD c L s)
def bsN (c : Nat → Nat → Nat) (L s : Nat) : Nat := fa_first (bsP c L s) 12
def chN (c : Nat → Nat → Nat) (L A : Nat) : Nat → Nat
  | 0 => A
  | n + 1 => if chN c L A n = 0 then 0 else rmB (chN c L A n) (lwN (chN c L A n)) (bsN c L (chN c L A n))
def csT (c : Nat → Nat → Nat) (L A : Nat) : Nat → Nat → Option Nat
  | 0 => fun _ => none
  | n + 1 => if chN c L A n = 0 then csT c L A n else updO (updO (csT c L A n) (lwN (chN c L A n)) (some (bsN c L (chN c L A n)))) (bsN c L (chN c L A n)) (some (lwN (chN c L A n)))
theorem bs_ok (hc : ∀ a b, c a b ≤ 24) (hL : L ≤ 12) {s : Nat} (hs : s < 2 ^ L) (h0 : s ≠ 0) (he : pcN s % 2 = 0) : bsN c L s < L ∧ bsP c L s (bsN c L s) = true ∧ ∀ j, j < bsN c L s → bsP c L s j = false := by
  have hs2 : s < 4096 := Nat.lt_of_lt_of_le hs (Nat.pow_le_pow_right (by decide) hL : 2 ^ L ≤ 2 ^ 12)
  have h1 := dpD_B hc hL s hs he
  have h2 := pcN_12 s
  obtain ⟨b, b1, b2, b3, b4⟩ := mnF_att (c := c) (D := dpD c L) (X := 100000) (s := s) (a := lwN s) L (by rw [← dpD_s hs2 h0]; omega)
  have hb : bsP c L s b = true := by
    unfold bsP
    rw [decide_eq_true b2, b3, decide_eq_true (by rw [← b4, ← dpD_s hs2 h0])]
    rfl
  have h3 : bsN c L s ≤ b := Nat.le_of_not_lt fun z => by
    have := fa_first_no (bsP c L s) 12 b z
    rw [hb] at this
    cases this
  exact ⟨by omega, fa_first_yes (bsP c L s) 12 (by show bsN c L s < 12; omega), fun j hj => fa_first_no (bsP c L s) 12 j hj⟩
theorem bsP_iff {s b : Nat} : bsP c L s b = true ↔ lwN s < b ∧ s.testBit b = true ∧ c (lwN s) b + dpD c L (rmB s (lwN s) b) = dpD c L s := by
  unfold bsP
  rw [Bool.and_eq_true, Bool.and_eq_true, decide_eq_true_eq, decide_eq_true_eq, and_assoc]
theorem chN_s (A n : Nat) : chN c L A (n + 1) = if chN c L A n = 0 then 0 else rmB (chN c L A n) (lwN (chN c L A n)) (bsN c L (chN c L A n)) := rfl
theorem csT_s (A n : Nat) : csT c L A (n + 1) = if chN c L A n = 0 then csT c L A n else updO (updO (csT c L A n) (lwN (chN c L A n)) (some (bsN c L (chN c L A n)))) (bsN c L (chN c L A n)) (some (lwN (chN c L A n))) := rfl
theorem ch_ok (hc : ∀ a b, c a b ≤ 24) (hL : L ≤ 12) {A : Nat} (hA : A < 2 ^ L) (he : pcN A % 2 = 0) : ∀ n, chN c L A n < 2 ^ L ∧ pcN (chN c L A n) % 2 = 0 ∧ (chN c L A n ≠ 0 → pcN (chN c L A n) + 2 * n = pcN A) ∧ ∀ i, (chN c L A n).testBit i = true → A.testBit i = true := by
  intro n
  induction n with
  | zero => exact ⟨hA, he, fun _ => rfl, fun _ h => h⟩
  | succ n ih =>
    obtain ⟨i1, i2, i3, i4⟩ := ih
    rw [chN_s]
    by_cases h0 : chN c L A n = 0
    · rw [if_pos h0]
      exact ⟨by have : 0 < 2 ^ L := Nat.pow_pos (by decide)
                omega, by decide, fun z => absurd rfl z, fun i h => by rw [Nat.zero_testBit] at h; cases h⟩
    · rw [if_neg h0]
      have hs2 : chN c L A n < 4096 := Nat.lt_of_lt_of_le i1 (Nat.pow_le_pow_right (by decide) hL : 2 ^ L ≤ 2 ^ 12)
      obtain ⟨a1, a2, -⟩ := lw_ok hs2 h0
      obtain ⟨b1, b2, -⟩ := bs_ok hc hL i1 h0 i2
      obtain ⟨b3, b4, -⟩ := bsP_iff.1 b2
      have hp := pc_rm hs2 a1 (by omega) (by omega) a2 b4
      have hr := rm_le (chN c L A n) (lwN (chN c L A n)) (bsN c L (chN c L A n))
      have := i3 h0
      refine ⟨by omega, by omega, fun _ => by omega, fun i h => ?_⟩
      rw [tb_rm hs2, Bool.and_eq_true] at h
      exact i4 i h.1
theorem ch_6 (hc : ∀ a b, c a b ≤ 24) (hL : L ≤ 12) {A : Nat} (hA : A < 2 ^ L) (he : pcN A % 2 = 0) : chN c L A 6 = 0 := by
  refine Classical.byContradiction fun z => ?_
  obtain ⟨i1, i2, i3, -⟩ := ch_ok hc hL hA he 6
  have := i3 z
  have := pcN_12 A
  have hs2 : chN c L A 6 < 4096 := Nat.lt_of_lt_of_le i1 (Nat.pow_le_pow_right (by decide) hL : 2 ^ L ≤ 2 ^ 12)
  exact z (pc_0 hs2 (by omega))
theorem cs_keep (hc : ∀ a b, c a b ≤ 24) (hL : L ≤ 12) {A : Nat} (hA : A < 2 ^ L) (he : pcN A % 2 = 0) {n l : Nat} (h : (chN c L A n).testBit l = false) : ∀ k, csT c L A (n + k) l = csT c L A n l ∧ (chN c L A (n + k)).testBit l = false := by
  intro k
  induction k with
  | zero => exact ⟨rfl, h⟩
  | succ k ih =>
    obtain ⟨i1, i2⟩ := ih
    obtain ⟨j1, j2, -⟩ := ch_ok hc hL hA he (n + k)
    show csT c L A ((n + k) + 1) l = _ ∧ (chN c L A ((n + k) + 1)).testBit l = false
    rw [csT_s, chN_s]
    by_cases h0 : chN c L A (n + k) = 0
    · rw [if_pos h0, if_pos h0]
      exact ⟨i1, Nat.zero_testBit l⟩
    · rw [if_neg h0, if_neg h0]
      have hs2 : chN c L A (n + k) < 4096 := Nat.lt_of_lt_of_le j1 (Nat.pow_le_pow_right (by decide) hL : 2 ^ L ≤ 2 ^ 12)
      obtain ⟨a1, a2, -⟩ := lw_ok hs2 h0
      obtain ⟨b1, b2, -⟩ := bs_ok hc hL j1 h0 j2
      obtain ⟨b3, b4, -⟩ := bsP_iff.1 b2
      have n1 : l ≠ lwN (chN c L A (n + k)) := fun z => by rw [z, a2] at i2; cases i2
      have n2 : l ≠ bsN c L (chN c L A (n + k)) := fun z => by rw [z, b4] at i2; cases i2
      rw [updO_n _ _ n2, updO_n _ _ n1, tb_rm hs2, i2]
      exact ⟨i1, rfl⟩
theorem cs_stop {A n : Nat} (h : chN c L A n = 0) : ∀ k, csT c L A (n + k) = csT c L A n ∧ chN c L A (n + k) = 0 := by
  intro k
  induction k with
  | zero => exact ⟨rfl, h⟩
  | succ k ih =>
    show csT c L A ((n + k) + 1) = _ ∧ chN c L A ((n + k) + 1) = 0
    rw [csT_s, chN_s]
    rw [if_pos ih.2, if_pos ih.2]
    exact ⟨ih.1, rfl⟩
end
/-- a set that its own involution keeps is even -/
theorem inv_even {T : TW} (h : WfT T) : ∀ n (p : Nat → Bool), (∀ k, k < T.L → p k = true → ∃ j, T.tw k = some j ∧ p j = true) → fb_ct p T.L = n → n % 2 = 0 := by
  intro n
  induction n using Nat.strongRecOn with
  | ind n ih =>
    intro p hp hn
    rcases Nat.eq_zero_or_pos n with h0 | h0
    · rw [h0]
    · obtain ⟨k, k1, k2⟩ := fb_ct_pos.1 (by rw [hn]; exact h0)
      obtain ⟨j, j1, j2⟩ := hp k k1 k2
      obtain ⟨i1, i2, i3⟩ := h.twI k1 j1
      have u1 := fb_ct_upd p false k1
      have u2 := fb_ct_upd (fun i => if i = k then false else p i) false i1
      rw [k2] at u1
      have : (if j = k then false else p j) = true := by rw [if_neg i2]; exact j2
      rw [this] at u2
      have u1 : fb_ct (fun i => if i = k then false else p i) T.L + 1 = fb_ct p T.L + 0 := u1
      have u2 : fb_ct (fun i => if i = j then false else if i = k then false else p i) T.L + 1 = fb_ct (fun i => if i = k then false else p i) T.L + 0 := u2
      have := ih (n - 2) (by omega) (fun i => if i = j then false else if i = k then false else p i) (fun i hi e => by
        have n1 : i ≠ j := fun z => by rw [if_pos z] at e; cases e
        rw [if_neg n1] at e
        have n2 : i ≠ k := fun z => by rw [if_pos z] at e; cases e
        rw [if_neg n2] at e
        obtain ⟨q, q1, q2⟩ := hp i hi e
        obtain ⟨-, -, q3⟩ := h.twI hi q1
        refine ⟨q, q1, ?_⟩
        rw [if_neg (fun z => by rw [z, i3] at q3; exact n2 (Option.some.inj q3).symm), if_neg (fun z => by rw [z, j1] at q3; exact n1 (Option.some.inj q3).symm)]
        exact q2) (by omega)
      omega
