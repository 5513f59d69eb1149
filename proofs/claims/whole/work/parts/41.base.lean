/-! pure mathematics: bits, counts, loops -/
theorem b_1 : ∀ i, i < 32 → bt 1 i = decide (i = 0) := by decide +kernel
theorem zB_t : zB true = 1 := rfl
theorem zB_f : zB false = 0 := rfl
theorem zB_0 (b : Bool) : (zB b = 0) = (b = false) := by cases b <;> simp [zB]
theorem zB_1 (b : Bool) : (zB b = 1) = (b = true) := by cases b <;> simp [zB]
theorem zB_e (b c : Bool) : (zB b = zB c) = (b = c) := by cases b <;> cases c <;> simp [zB]
theorem ifz {α : Type} (b : Bool) (x y : α) : (if zB b = 0 then x else y) = (if b = true then y else x) := by cases b <;> simp [zB]
theorem ifd (p : Prop) [Decidable p] : (if p then some true else some false : Option Bool) = some (decide p) := by
  by_cases h : p
  · rw [if_pos h, decide_eq_true h]
  · rw [if_neg h, decide_eq_false h]
theorem ifdn (p : Prop) [Decidable p] : (if p then some false else some true : Option Bool) = some (!decide p) := by
  by_cases h : p
  · rw [if_pos h, decide_eq_true h]; rfl
  · rw [if_neg h, decide_eq_false h]; rfl
theorem ifb (b : Bool) : (if b = true then some true else some false : Option Bool) = some b := by cases b <;> rfl
theorem ifs {α : Type} (p : Prop) [Decidable p] (x y : α) : (if p then some x else some y : Option α) = some (if p then x else y) := by
  by_cases h : p
  · rw [if_pos h, if_pos h]
  · rw [if_neg h, if_neg h]
theorem zB_nI (b : Bool) : zB b = nI (if b = true then 1 else 0) := by cases b <;> rfl
theorem bs (x : Int32) {k : Nat} (hk : k < 32) : (x >>> (nI k &&& 31)) &&& 1 = zB (bt x k) := by
  refine b_ext fun i hi => ?_
  rw [b_and, b_sshr k hk x hi, b_1 i hi]
  by_cases h0 : i = 0
  · subst h0
    rw [if_pos (by omega), Nat.add_zero, decide_eq_true rfl, Bool.and_true]
    cases bt x k with
    | false => exact (b_0 0).symm
    | true => rw [zB_t, b_1 0 (by omega), decide_eq_true rfl]
  · rw [decide_eq_false h0, Bool.and_false]
    cases bt x k with
    | false => exact (b_0 i).symm
    | true => rw [zB_t, b_1 i hi, decide_eq_false h0]
theorem b_sh1 {k i : Nat} (hk : k < 32) (hi : i < 32) : bt ((1 : Int32) <<< (nI k &&& 31)) i = decide (i = k) := by
  rw [b_shl k hk 1 hi, b_1 (i - k) (by omega)]
  by_cases h : i = k
  · subst h; simp
  · rw [decide_eq_false h]
    by_cases h2 : k ≤ i
    · rw [decide_eq_false (by omega : ¬ i - k = 0), Bool.and_false]
    · rw [decide_eq_false h2, Bool.false_and]
theorem b_not (x : Int32) {i : Nat} (hi : i < 32) : bt (x ^^^ (-1)) i = !bt x i := by
  rw [b_xor, b_m1 i hi, Bool.xor_true]
/-- x holds the bits p below n, and no other -/
def Bm (n : Nat) (p : Nat → Bool) (x : Int32) : Prop := ∀ i, i < 32 → bt x i = (decide (i < n) && p i)
theorem Bm.uniq {n : Nat} {p : Nat → Bool} {x y : Int32} (h : Bm n p x) (g : Bm n p y) : x = y := b_ext fun i hi => by rw [h i hi, g i hi]
theorem Bm.cong {n : Nat} {p q : Nat → Bool} {x : Int32} (h : Bm n p x) (e : ∀ i, i < n → p i = q i) : Bm n q x := fun i hi => by
  rw [h i hi]
  by_cases g : i < n
  · rw [e i g]
  · rw [decide_eq_false g, Bool.false_and, Bool.false_and]
theorem Bm.uniq2 {n : Nat} {p q : Nat → Bool} {x y : Int32} (h : Bm n p x) (g : Bm n q y) (e : ∀ i, i < n → p i = q i) : x = y := (h.cong e).uniq g
theorem Bm.zero (n : Nat) : Bm n (fun _ => false) 0 := fun i _ => by rw [b_0, Bool.and_false]
theorem Bm.zero0 (p : Nat → Bool) : Bm 0 p 0 := fun i _ => by rw [b_0, decide_eq_false (Nat.not_lt_zero i), Bool.false_and]
theorem Bm.at {n : Nat} {p : Nat → Bool} {x : Int32} (h : Bm n p x) {k : Nat} (hk : k < n) (hn : n ≤ 32) : bt x k = p k := by
  rw [h k (by omega), decide_eq_true hk, Bool.true_and]
theorem Bm.out {n : Nat} {p : Nat → Bool} {x : Int32} (h : Bm n p x) {k : Nat} (hk : n ≤ k) (hn : k < 32) : bt x k = false := by
  rw [h k hn, decide_eq_false (by omega), Bool.false_and]
theorem Bm.or {n : Nat} {p q : Nat → Bool} {x y : Int32} (h : Bm n p x) (g : Bm n q y) : Bm n (fun i => p i || q i) (x ||| y) := fun i hi => by
  rw [b_or, h i hi, g i hi]; cases decide (i < n) <;> simp
theorem Bm.and {n : Nat} {p q : Nat → Bool} {x y : Int32} (h : Bm n p x) (g : Bm n q y) : Bm n (fun i => p i && q i) (x &&& y) := fun i hi => by
  rw [b_and, h i hi, g i hi]; cases decide (i < n) <;> simp
theorem Bm.xor {n : Nat} {p q : Nat → Bool} {x y : Int32} (h : Bm n p x) (g : Bm n q y) : Bm n (fun i => p i ^^ q i) (x ^^^ y) := fun i hi => by
  rw [b_xor, h i hi, g i hi]; cases decide (i < n) <;> simp
theorem Bm.sub {n : Nat} {p q : Nat → Bool} {x y : Int32} (h : Bm n p x) (g : Bm n q y) : Bm n (fun i => p i && !q i) (x &&& (y ^^^ (-1))) := fun i hi => by
  rw [b_and, b_not y hi, h i hi, g i hi]; cases decide (i < n) <;> simp
theorem Bm.one {n k : Nat} (hk : k < n) (hn : n ≤ 32) : Bm n (fun i => decide (i = k)) ((1 : Int32) <<< (nI k &&& 31)) := fun i hi => by
  rw [b_sh1 (by omega) hi]
  show decide (i = k) = (decide (i < n) && decide (i = k))
  by_cases h : i = k
  · subst h; simp [hk]
  · rw [decide_eq_false h, Bool.and_false]
theorem Bm.no {i : Nat} {p : Nat → Bool} {x : Int32} (h : Bm i p x) (hp : p i = false) : Bm (i + 1) p x := fun k hk => by
  rw [h k hk]
  by_cases e : k = i
  · subst e; rw [hp, Bool.and_false, Bool.and_false]
  · have : (k < i) = (k < i + 1) := propext ⟨fun z => by omega, fun z => by omega⟩
    simp only [this]
theorem Bm.yes {i : Nat} {p : Nat → Bool} {x : Int32} (hi : i < 32) (h : Bm i p x) (hp : p i = true) : Bm (i + 1) p (x ||| ((1 : Int32) <<< (nI i &&& 31))) := fun k hk => by
  rw [b_or, h k hk, b_sh1 hi hk]
  by_cases e : k = i
  · subst e; rw [hp]; simp
  · have : (k < i) = (k < i + 1) := propext ⟨fun z => by omega, fun z => by omega⟩
    simp only [this, decide_eq_false e, Bool.or_false]
/-- the step of the loops that gather bits, as both write it -/
theorem Bm.next {i : Nat} {p : Nat → Bool} {x : Int32} (hi : i < 32) (h : Bm i p x) : Bm (i + 1) p (if p i = true then x ||| ((1 : Int32) <<< (nI i &&& 31)) else x) := by
  cases hp : p i with
  | false => rw [if_neg (by decide)]; exact h.no hp
  | true => rw [if_pos rfl]; exact h.yes hi hp
theorem or_0 (x : Int32) : x ||| 0 = x := b_ext fun i _ => by rw [b_or, b_0, Bool.or_false]
theorem Bm.next2 {i : Nat} {p : Nat → Bool} {x : Int32} (hi : i < 32) (h : Bm i p x) : Bm (i + 1) p (x ||| (if p i = true then ((1 : Int32) <<< (nI i &&& 31)) else 0)) := by
  cases hp : p i with
  | false => rw [if_neg (by decide), or_0]; exact h.no hp
  | true => rw [if_pos rfl]; exact h.yes hi hp
theorem Bm.eq0 {n : Nat} {p : Nat → Bool} {x : Int32} (h : Bm n p x) (hn : n ≤ 32) : x = 0 ↔ ∀ i, i < n → p i = false := by
  constructor
  · intro e i hi
    have := h.at hi hn
    rw [e, b_0] at this
    exact this.symm
  · intro e
    exact Bm.uniq (h.cong e) (Bm.zero n)
theorem bool_ext {a b : Bool} (h : a = true ↔ b = true) : a = b := by cases a <;> cases b <;> simp_all
theorem bm_all_d : ∀ n, n < 13 → ∀ i, i < 32 → bt (((1 : Int32) <<< (nI n &&& 31)) - 1) i = (decide (i < n) && true) := by decide +kernel
theorem Bm.all {n : Nat} (hn : n ≤ 12) : Bm n (fun _ => true) (((1 : Int32) <<< (nI n &&& 31)) - 1) := fun i hi => bm_all_d n (by omega) i hi
/-- as a number -/
theorem bt_nI (k i : Nat) (hk : k < 2 ^ 32) : bt (nI k) i = k.testBit i := by
  show (nI k).toBitVec.toNat.testBit i = _
  rw [pk_tn hk]
theorem Bm.num {n : Nat} {p : Nat → Bool} {x : Int32} (h : Bm n p x) (hn : n ≤ 31) : ∃ k, k < 2 ^ n ∧ x = nI k ∧ ∀ i, k.testBit i = (decide (i < n) && p i) := by
  have e : x = nI x.toBitVec.toNat := Int32.toBitVec_inj.mp (by show _ = BitVec.ofNat 32 _; simp)
  have hb : ∀ i, x.toBitVec.toNat.testBit i = (decide (i < n) && p i) := by
    intro i
    rcases Nat.lt_or_ge i 32 with hi | hi
    · exact h i hi
    · have := b_big (x := x) hi
      rw [decide_eq_false (by omega : ¬ i < n), Bool.false_and]
      exact this
  refine ⟨x.toBitVec.toNat, Nat.lt_pow_two_of_testBit _ (fun i hi => ?_), e, hb⟩
  rw [hb i, decide_eq_false (by omega), Bool.false_and]
theorem Bm.of_num {n k : Nat} (hk : k < 2 ^ n) (hn : n ≤ 31) : Bm n (fun i => k.testBit i) (nI k) := fun i hi => by
  have h32 : k < 2 ^ 32 := Nat.lt_of_lt_of_le hk (Nat.pow_le_pow_right (by decide) (by omega))
  rw [bt_nI k i h32]
  by_cases g : i < n
  · rw [decide_eq_true g, Bool.true_and]
  · rw [decide_eq_false g, Bool.false_and]
    exact Nat.testBit_lt_two_pow (Nat.lt_of_lt_of_le hk (Nat.pow_le_pow_right (by decide) (by omega)))
/-! the count of bits -/
def pc1 (k : Nat) : Nat := k - ((k / 2) &&& 1431655765)
def pc2 (z : Nat) : Nat := (z &&& 858993459) + ((z / 4) &&& 858993459)
def pc3 (z : Nat) : Nat := ((((z + z / 16) &&& 252645135) + ((z + z / 16) &&& 252645135) / 256) + (((z + z / 16) &&& 252645135) + ((z + z / 16) &&& 252645135) / 256) / 65536) &&& 63
theorem sh_and {k s a b c d : Nat} (hs : s ≤ k) (ha : a < 2 ^ k) (hc : c < 2 ^ (k - s)) : ((a + 2 ^ k * b) / 2 ^ s) &&& (c + 2 ^ k * d) = ((a / 2 ^ s) &&& c) + 2 ^ k * ((b / 2 ^ s) &&& d) := by
  have hck : c < 2 ^ k := Nat.lt_of_lt_of_le hc (Nat.pow_le_pow_right (by decide) (by omega))
  have h1 : (a / 2 ^ s) &&& c < 2 ^ k := Nat.lt_of_le_of_lt Nat.and_le_right hck
  refine Nat.eq_of_testBit_eq fun i => ?_
  rw [Nat.testBit_and, Nat.testBit_div_two_pow, Nat.add_comm a, Nat.testBit_two_pow_mul_add _ ha, Nat.add_comm c, Nat.testBit_two_pow_mul_add _ hck, Nat.add_comm ((a / 2 ^ s) &&& c), Nat.testBit_two_pow_mul_add _ h1, Nat.testBit_and, Nat.testBit_and, Nat.testBit_div_two_pow, Nat.testBit_div_two_pow]
  by_cases hi : i < k
  · rw [if_pos hi, if_pos hi]
    by_cases h2 : i + s < k
    · rw [if_pos h2]
    · have : c.testBit i = false := Nat.testBit_lt_two_pow (Nat.lt_of_lt_of_le hc (Nat.pow_le_pow_right (by decide) (by omega)))
      rw [this, Bool.and_false, Bool.and_false]
  · rw [if_neg hi, if_neg hi, if_neg (by omega)]
    have : i + s - k = i - k + s := by omega
    rw [this]
theorem pc_a0 : ∀ u, u < 64 → ∀ v, v < 64 → (((64 * u + v) / 2) &&& 1431655765) = (((64 * u + v) / 2) &&& 1365) ∧ (((64 * u + v) / 2) &&& 1431655765) = (((64 * u + v) / 2) &&& 349525) ∧ (((64 * u + v) / 2) &&& 1431655765) ≤ (64 * u + v) ∧ pc1 (64 * u + v) < 4096 ∧ ((64 * u + v) &&& 858993459) = ((64 * u + v) &&& 819) ∧ (((64 * u + v) / 4) &&& 858993459) = (((64 * u + v) / 4) &&& 819) ∧ ((64 * u + v) &&& 858993459) = ((64 * u + v) &&& 209715) ∧ (((64 * u + v) / 4) &&& 858993459) = (((64 * u + v) / 4) &&& 209715) ∧ pc2 (pc1 (64 * u + v)) < 4096 := by decide +kernel
theorem pc_a : ∀ a, a < 4096 → ((a / 2) &&& 1431655765) = ((a / 2) &&& 1365) ∧ ((a / 2) &&& 1431655765) = ((a / 2) &&& 349525) ∧ ((a / 2) &&& 1431655765) ≤ a ∧ pc1 a < 4096 ∧ (a &&& 858993459) = (a &&& 819) ∧ ((a / 4) &&& 858993459) = ((a / 4) &&& 819) ∧ (a &&& 858993459) = (a &&& 209715) ∧ ((a / 4) &&& 858993459) = ((a / 4) &&& 209715) ∧ pc2 (pc1 a) < 4096 := fun a ha => by
  have h := pc_a0 (a / 64) (by omega) (a % 64) (by omega)
  rw [show 64 * (a / 64) + a % 64 = a by omega] at h
  exact h
theorem pc_b0 : ∀ u, u < 64 → ∀ v, v < 64 → pc2 (pc1 (64 * u + v)) % 16 < 5 ∧ pc2 (pc1 (64 * u + v)) / 16 % 16 < 5 ∧ pc2 (pc1 (64 * u + v)) / 256 < 5 ∧ pc2 (pc1 (64 * u + v)) % 16 + pc2 (pc1 (64 * u + v)) / 16 % 16 + pc2 (pc1 (64 * u + v)) / 256 = fb_ct (fun i => (64 * u + v).testBit i) 12 := by decide +kernel
theorem pc_b : ∀ a, a < 4096 → pc2 (pc1 a) % 16 < 5 ∧ pc2 (pc1 a) / 16 % 16 < 5 ∧ pc2 (pc1 a) / 256 < 5 ∧ pc2 (pc1 a) % 16 + pc2 (pc1 a) / 16 % 16 + pc2 (pc1 a) / 256 = fb_ct (fun i => a.testBit i) 12 := fun a ha => by
  have h := pc_b0 (a / 64) (by omega) (a % 64) (by omega)
  rw [show 64 * (a / 64) + a % 64 = a by omega] at h
  exact h
theorem pc_c : ∀ a, a < 5 → ∀ b, b < 5 → ∀ c, c < 5 → ∀ d, d < 5 → ∀ e, e < 5 → ∀ f, f < 5 → pc3 (a + 16 * b + 256 * c + 4096 * (d + 16 * e + 256 * f)) = a + b + c + (d + e + f) := by decide +kernel
theorem pc_24 {k : Nat} (hk : k < 2 ^ 24) : pc3 (pc2 (pc1 k)) = fb_ct (fun i => k.testBit i) 24 := by
  obtain ⟨a, b, ha, hb, rfl⟩ : ∃ a b, a < 4096 ∧ b < 4096 ∧ k = a + 4096 * b := ⟨k % 4096, k / 4096, by omega, by omega, by omega⟩
  obtain ⟨a1, a2, a3, a4, a5, a6, a7, a8, a9⟩ := pc_a a ha
  obtain ⟨b1, b2, b3, b4, b5, b6, b7, b8, b9⟩ := pc_a b hb
  have e1 : pc1 (a + 4096 * b) = pc1 a + 4096 * pc1 b := by
    have := sh_and (k := 12) (s := 1) (a := a) (b := b) (c := 1365) (d := 349525) (by omega) ha (by decide)
    rw [← a1, ← b2] at this
    show a + 4096 * b - (((a + 4096 * b) / 2) &&& 1431655765) = (a - ((a / 2) &&& 1431655765)) + 4096 * (b - ((b / 2) &&& 1431655765))
    have h2 : (((a + 4096 * b) / 2) &&& 1431655765) = ((a / 2) &&& 1431655765) + 4096 * ((b / 2) &&& 1431655765) := this
    rw [h2]
    omega
  obtain ⟨-, -, -, -, c5, c6, -, -, -⟩ := pc_a (pc1 a) a4
  obtain ⟨-, -, -, -, -, -, d7, d8, -⟩ := pc_a (pc1 b) b4
  have e2 : pc2 (pc1 a + 4096 * pc1 b) = pc2 (pc1 a) + 4096 * pc2 (pc1 b) := by
    have h1 := sh_and (k := 12) (s := 0) (a := pc1 a) (b := pc1 b) (c := 819) (d := 209715) (by omega) a4 (by decide)
    have h2 := sh_and (k := 12) (s := 2) (a := pc1 a) (b := pc1 b) (c := 819) (d := 209715) (by omega) a4 (by decide)
    have g1 : ((pc1 a + 4096 * pc1 b) &&& 858993459) = (pc1 a &&& 858993459) + 4096 * (pc1 b &&& 858993459) := by
      rw [c5, d7]
      simpa using h1
    have g2 : (((pc1 a + 4096 * pc1 b) / 4) &&& 858993459) = ((pc1 a / 4) &&& 858993459) + 4096 * ((pc1 b / 4) &&& 858993459) := by
      rw [c6, d8]
      exact h2
    show ((pc1 a + 4096 * pc1 b) &&& 858993459) + (((pc1 a + 4096 * pc1 b) / 4) &&& 858993459) = ((pc1 a &&& 858993459) + ((pc1 a / 4) &&& 858993459)) + 4096 * ((pc1 b &&& 858993459) + ((pc1 b / 4) &&& 858993459))
    rw [g1, g2]
    omega
  rw [e1, e2]
  obtain ⟨f1, f2, f3, f4⟩ := pc_b a ha
  obtain ⟨g1, g2, g3, g4⟩ := pc_b b hb
  have s := fb_ct_split (fun i => (a + 4096 * b).testBit i) 12 12
  have t1 : fb_ct (fun i => (a + 4096 * b).testBit i) 12 = fb_ct (fun i => a.testBit i) 12 := fb_ct_cong fun i hi => by
    have := Nat.testBit_two_pow_mul_add b (i := 12) ha i
    rw [if_pos hi] at this
    rw [Nat.add_comm]; exact this
  have t2 : fb_ct (fun i => (a + 4096 * b).testBit (12 + i)) 12 = fb_ct (fun i => b.testBit i) 12 := fb_ct_cong fun i hi => by
    have := Nat.testBit_two_pow_mul_add b (i := 12) ha (12 + i)
    rw [if_neg (by omega), Nat.add_sub_cancel_left] at this
    rw [Nat.add_comm a]; exact this
  rw [s, t1, t2, ← f4, ← g4]
  have := pc_c _ f1 _ f2 _ f3 _ g1 _ g2 _ g3
  rw [← this]
  congr 1
  omega
theorem bitCount_24 {k : Nat} (hk : k < 2 ^ 24) : fJ6_bitCount (nI k) = some (nI (fb_ct (fun i => k.testBit i) 24)) := by
  have ha : ((k / 2) &&& 1431655765) ≤ k := Nat.le_trans Nat.and_le_left (Nat.div_le_self k 2)
  have h1 : pc1 k ≤ k := Nat.sub_le _ _
  have hp2 : pc2 (pc1 k) ≤ 2 * k := by
    have g1 : (pc1 k &&& 858993459) ≤ pc1 k := Nat.and_le_left
    have g2 : ((pc1 k / 4) &&& 858993459) ≤ pc1 k / 4 := Nat.and_le_left
    show (pc1 k &&& 858993459) + ((pc1 k / 4) &&& 858993459) ≤ 2 * k
    omega
  have hp3 : ((pc2 (pc1 k) + pc2 (pc1 k) / 16) &&& 252645135) ≤ 252645135 := Nat.and_le_right
  rw [← pc_24 hk]
  unfold fJ6_bitCount
  rw [pk_ushrN (n := k) (by omega) 1 1 (by decide +kernel)]
  rw [show (1431655765 : Int32) = nI 1431655765 from rfl, show (858993459 : Int32) = nI 858993459 from rfl, show (252645135 : Int32) = nI 252645135 from rfl, show (63 : Int32) = nI 63 from rfl]
  rw [fa_and, pk_sub ha]
  simp only [Option.bind_some]
  rw [show k - ((k / 2 ^ 1) &&& 1431655765) = pc1 k from rfl]
  rw [pk_ushrN (n := pc1 k) (by omega) 2 2 (by decide +kernel)]
  rw [fa_and, fa_and, nI_add]
  rw [show (pc1 k &&& 858993459) + ((pc1 k / 2 ^ 2) &&& 858993459) = pc2 (pc1 k) from rfl]
  generalize pc2 (pc1 k) = z at hp2 hp3 ⊢
  rw [pk_ushrN (n := z) (by omega) 4 4 (by decide +kernel), nI_add, fa_and]
  rw [show z / 2 ^ 4 = z / 16 from rfl]
  have hd : ((z + z / 16) &&& 252645135) / 256 ≤ ((z + z / 16) &&& 252645135) := Nat.div_le_self _ _
  show some (((nI ((z + z / 16) &&& 252645135) + _) + _) &&& nI 63) = some (nI (pc3 z))
  unfold pc3
  generalize ((z + z / 16) &&& 252645135) = y at hp3 hd ⊢
  rw [pk_ushrN (n := y) (by omega) 8 8 (by decide +kernel), nI_add]
  rw [show y / 2 ^ 8 = y / 256 from rfl]
  rw [pk_ushrN (n := y + y / 256) (by omega) 16 16 (by decide +kernel), nI_add, fa_and]
theorem fb_ct_Bm {n N : Nat} {p q : Nat → Bool} (hn : n ≤ N) (h : ∀ i, q i = (decide (i < n) && p i)) : fb_ct q N = fb_ct p n := by
  obtain ⟨d, rfl⟩ : ∃ d, N = n + d := ⟨N - n, by omega⟩
  rw [fb_ct_split]
  have h1 : fb_ct q n = fb_ct p n := fb_ct_cong fun k hk => by rw [h k, decide_eq_true hk, Bool.true_and]
  have h2 : fb_ct (fun k => q (n + k)) d = 0 := fb_ct_zero.2 fun k hk => by show q (n + k) = false; rw [h, decide_eq_false (by omega), Bool.false_and]
  rw [h1, h2, Nat.add_zero]
theorem bitCount_Bm {n : Nat} {p : Nat → Bool} {x : Int32} (h : Bm n p x) (hn : n ≤ 24) : fJ6_bitCount x = some (nI (fb_ct p n)) := by
  obtain ⟨k, h1, h2, h3⟩ := h.num (by omega)
  have h4 : k < 2 ^ 24 := Nat.lt_of_lt_of_le h1 (Nat.pow_le_pow_right (by decide) hn)
  rw [h2, bitCount_24 h4, fb_ct_Bm hn h3]
/-! loops -/
theorem lpw_R {S R : Type} {F : S → Option (S ⊕ R)} (I : Nat → S → Prop) (P : R → Prop) (n : Nat) (hs : ∀ i s, i < n → I i s → ∃ s', F s = some (.inl s') ∧ I (i + 1) s') (he : ∀ s, I n s → ∃ r, F s = some (.inr r) ∧ P r) {s : S} (h : I 0 s) : ∃ r, lpw F s = some r ∧ P r := by
  have key : ∀ d i s, i + d = n → I i s → ∃ r, lpw F s = some r ∧ P r := by
    intro d
    induction d with
    | zero =>
      intro i s hi hI
      obtain ⟨r, h1, h2⟩ := he s (by rw [← hi]; exact hI)
      exact ⟨r, lpw_inr h1, h2⟩
    | succ d ih =>
      intro i s hi hI
      obtain ⟨s', h1, h2⟩ := hs i s (by omega) hI
      obtain ⟨r, h3, h4⟩ := ih (i + 1) s' (by omega) h2
      exact ⟨r, by rw [lpw_inl h1]; exact h3, h4⟩
  exact key n 0 s (by omega) h
/-- a loop that may end early: at each turn it goes on, or ends well -/
theorem lpw_E {S R : Type} {F : S → Option (S ⊕ R)} (I : Nat → S → Prop) (P : R → Prop) (n : Nat) (hs : ∀ i s, i < n → I i s → (∃ s', F s = some (.inl s') ∧ I (i + 1) s') ∨ ∃ r, F s = some (.inr r) ∧ P r) (he : ∀ s, I n s → ∃ r, F s = some (.inr r) ∧ P r) {i0 : Nat} (hi0 : i0 ≤ n) {s : S} (h : I i0 s) : ∃ r, lpw F s = some r ∧ P r := by
  have key : ∀ d i s, i + d = n → I i s → ∃ r, lpw F s = some r ∧ P r := by
    intro d
    induction d with
    | zero =>
      intro i s hi hI
      obtain ⟨r, h1, h2⟩ := he s (by rw [← hi]; exact hI)
      exact ⟨r, lpw_inr h1, h2⟩
    | succ d ih =>
      intro i s hi hI
      rcases hs i s (by omega) hI with ⟨s', h1, h2⟩ | ⟨r, h1, h2⟩
      · obtain ⟨r, h3, h4⟩ := ih (i + 1) s' (by omega) h2
        exact ⟨r, by rw [lpw_inl h1]; exact h3, h4⟩
      · exact ⟨r, lpw_inr h1, h2⟩
  exact key (n - i0) i0 s (by omega) h
/-- a loop whose states are known one by one -/
theorem lpw_S {S R : Type} {F : S → Option (S ⊕ R)} (g : Nat → S) (n : Nat) {r : R} (hs : ∀ i, i < n → F (g i) = some (.inl (g (i + 1)))) (he : F (g n) = some (.inr r)) : lpw F (g 0) = some r := by
  have key : ∀ d i, i + d = n → lpw F (g i) = some r := by
    intro d
    induction d with
    | zero =>
      intro i hi
      obtain rfl : i = n := by omega
      exact lpw_inr he
    | succ d ih =>
      intro i hi
      rw [lpw_inl (hs i (by omega))]
      exact ih (i + 1) (by omega)
  exact key n 0 (by omega)
theorem lpw_bm {F : Int32 × Int32 → Option ((Int32 × Int32) ⊕ Int32)} {n : Nat} {p : Nat → Bool} (hs : ∀ i x, i < n → Bm i p x → ∃ x', F (x, nI i) = some (.inl (x', nI (i + 1))) ∧ Bm (i + 1) p x') (he : ∀ x, F (x, nI n) = some (.inr x)) : ∃ x, lpw F (0, 0) = some x ∧ Bm n p x := by
  refine lpw_R (fun i s => s.2 = nI i ∧ Bm i p s.1) (Bm n p) n ?_ ?_ ⟨rfl, Bm.zero0 p⟩
  · rintro i ⟨x, j⟩ hi ⟨rfl, hx⟩
    obtain ⟨x', h1, h2⟩ := hs i x hi hx
    exact ⟨(x', nI (i + 1)), h1, rfl, h2⟩
  · rintro ⟨x, j⟩ ⟨rfl, hx⟩
    exact ⟨x, he x, hx⟩
/-! reads and writes that don't fail -/
theorem inb_nI {i n : Nat} (h : i < n) (hn : n < 2147483648) : inb (nI i) n = true := by
  unfold inb
  exact decide_eq_true (nI_in h hn)
theorem cl_nI {i : Nat} (h : i < 2147483648) : (nI i).toNatClampNeg = i := nI_clamp h
theorem ldO_n {n i : Nat} (f : Nat → Int32) (h : i < n) (hn : n < 2147483648) : ldO n f (nI i) = some (f i) := by
  unfold ldO
  rw [if_pos (inb_nI h hn), cl_nI (by omega)]
theorem stO_n {n i : Nat} (f : Nat → Int32) (x : Int32) (h : i < n) (hn : n < 2147483648) : stO n f (nI i) x = some (upd f i x) := by
  unfold stO
  rw [if_pos (inb_nI h hn), cl_nI (by omega)]
theorem stS_n {n i : Nat} (σ : St) (k : Nat) (x : Int32) (h : i < n) (hn : n < 2147483648) : stS n σ k (nI i) x = some (sA σ k (upd (σ.2 k) i x)) := by
  unfold stS
  rw [if_pos (inb_nI h hn), cl_nI (by omega)]
theorem ckO_n {n i : Nat} (h : i < n) (hn : n < 2147483648) : ckO n (nI i) = some i := by
  unfold ckO
  rw [if_pos (inb_nI h hn), cl_nI (by omega)]
theorem bdO_n {n k : Nat} (h : k < n) : bdO n k = some k := by
  unfold bdO
  rw [if_pos h]
theorem sS_1e (σ : St) (k : Nat) (v : Int32) : (sS σ k v).1 k = v := if_pos rfl
theorem sS_1n (σ : St) {k j : Nat} (v : Int32) (h : j ≠ k) : (sS σ k v).1 j = σ.1 j := if_neg h
theorem sS_2 (σ : St) (k : Nat) (v : Int32) : (sS σ k v).2 = σ.2 := rfl
theorem sA_1 (σ : St) (k : Nat) (f : Nat → Int32) : (sA σ k f).1 = σ.1 := rfl
theorem sA_2e (σ : St) (k : Nat) (f : Nat → Int32) : (sA σ k f).2 k = f := if_pos rfl
theorem sA_2n (σ : St) {k j : Nat} (f : Nat → Int32) (h : j ≠ k) : (sA σ k f).2 j = σ.2 j := if_neg h
theorem upd_e (f : Nat → Int32) (k : Nat) (x : Int32) : upd f k x k = x := if_pos rfl
theorem upd_n (f : Nat → Int32) {k j : Nat} (x : Int32) (h : j ≠ k) : upd f k x j = f j := if_neg h
theorem cl_0 : (0 : Int32).toNatClampNeg = 0 := by decide +kernel
theorem cl_1 : (1 : Int32).toNatClampNeg = 1 := by decide +kernel
theorem cl_2 : (2 : Int32).toNatClampNeg = 2 := by decide +kernel
theorem cl_3 : (3 : Int32).toNatClampNeg = 3 := by decide +kernel
theorem cl_4 : (4 : Int32).toNatClampNeg = 4 := by decide +kernel
theorem cl_5 : (5 : Int32).toNatClampNeg = 5 := by decide +kernel
theorem cl_6 : (6 : Int32).toNatClampNeg = 6 := by decide +kernel
theorem cl_7 : (7 : Int32).toNatClampNeg = 7 := by decide +kernel
theorem mod_nI {a d : Nat} (ha : a < 2147483648) (h0 : 0 < d) (hd : d < 2147483648) : nI a - nI a / nI d * nI d = nI (a % d) := pk_rem ha h0 hd
theorem m24 {a : Nat} (ha : a < 2147483648) : nI a - nI a / 24 * 24 = nI (a % 24) := pk_rem (d := 24) ha (by decide) (by decide)
theorem sA_self (σ : St) (k : Nat) : sA σ k (σ.2 k) = σ := by
  show (σ.1, fun j => if j = k then σ.2 k else σ.2 j) = σ
  have : (fun j => if j = k then σ.2 k else σ.2 j) = σ.2 := funext fun j => by
    by_cases h : j = k
    · rw [if_pos h, h]
    · rw [if_neg h]
  rw [this]
theorem sS_self (σ : St) (k : Nat) : sS σ k (σ.1 k) = σ := by
  show (fun j => if j = k then σ.1 k else σ.1 j, σ.2) = σ
  have : (fun j => if j = k then σ.1 k else σ.1 j) = σ.1 := funext fun j => by
    by_cases h : j = k
    · rw [if_pos h, h]
    · rw [if_neg h]
  rw [this]
theorem sA_sA (σ : St) (k : Nat) (f g : Nat → Int32) : sA (sA σ k f) k g = sA σ k g := by
  show (σ.1, fun j => if j = k then g else (if j = k then f else σ.2 j)) = (σ.1, fun j => if j = k then g else σ.2 j)
  congr 1
  funext j
  by_cases h : j = k
  · rw [if_pos h, if_pos h]
  · rw [if_neg h, if_neg h, if_neg h]
theorem sS_sS (σ : St) (k : Nat) (f g : Int32) : sS (sS σ k f) k g = sS σ k g := by
  show (fun j => if j = k then g else (if j = k then f else σ.1 j), σ.2) = (fun j => if j = k then g else σ.1 j, σ.2)
  congr 1
  funext j
  by_cases h : j = k
  · rw [if_pos h, if_pos h]
  · rw [if_neg h, if_neg h, if_neg h]
