/-! the reference's town: what its methods answer -/
def Fr (S A : List Nat) (m m' : St) : Prop := (∀ k, k ∉ S → m'.1 k = m.1 k) ∧ ∀ k, k ∉ A → m'.2 k = m.2 k
theorem Fr.refl (S A : List Nat) (m : St) : Fr S A m m := ⟨fun _ _ => rfl, fun _ _ => rfl⟩
theorem Fr.trans {S A : List Nat} {m n o : St} (h : Fr S A m n) (g : Fr S A n o) : Fr S A m o := ⟨fun k hk => (g.1 k hk).trans (h.1 k hk), fun k hk => (g.2 k hk).trans (h.2 k hk)⟩
theorem Fr.mono {S A S' A' : List Nat} {m n : St} (h : Fr S A m n) (hs : ∀ k, k ∈ S → k ∈ S') (ha : ∀ k, k ∈ A → k ∈ A') : Fr S' A' m n := ⟨fun k hk => h.1 k (fun z => hk (hs k z)), fun k hk => h.2 k (fun z => hk (ha k z))⟩
theorem Fr.sS {S A : List Nat} (m : St) (k : Nat) (x : Int32) (hk : k ∈ S) : Fr S A m (sS m k x) := ⟨fun j hj => if_neg (fun e => hj (by rw [e]; exact hk)), fun _ _ => rfl⟩
theorem Fr.sA {S A : List Nat} (m : St) (k : Nat) (f : Nat → Int32) (hk : k ∈ A) : Fr S A m (sA m k f) := ⟨fun _ _ => rfl, fun j hj => if_neg (fun e => hj (by rw [e]; exact hk))⟩
theorem RmT.fr {T : TW} {m m' : St} {S A : List Nat} (h : RmT T m) (g : Fr S A m m') (h1 : 28 ∉ S := by decide) (h2 : 29 ∉ S := by decide) (h3 : 30 ∉ S := by decide) (a1 : 3 ∉ A := by decide) (a2 : 4 ∉ A := by decide) (a3 : 25 ∉ A := by decide) (a4 : 26 ∉ A := by decide) (a5 : 24 ∉ A := by decide) (a6 : 23 ∉ A := by decide) (a7 : 9 ∉ A := by decide) : RmT T m' := by
  unfold RmT
  rw [g.1 28 h1, g.1 29 h2, g.1 30 h3, g.2 3 a1, g.2 4 a2, g.2 25 a3, g.2 26 a4, g.2 24 a5, g.2 23 a6, g.2 9 a7]
  exact h
theorem kern_d0 : ∀ u, u < 64 → ∀ v, v < 64 → (64 * u + v) ≠ 0 → fb_ct (fun i => ((64 * u + v) &&& ((64 * u + v) - 1)).testBit i) 12 + 1 = fb_ct (fun i => (64 * u + v).testBit i) 12 := by decide +kernel
theorem kern_d : ∀ k, k < 4096 → k ≠ 0 → fb_ct (fun i => (k &&& (k - 1)).testBit i) 12 + 1 = fb_ct (fun i => k.testBit i) 12 := fun a ha => by
  have h := kern_d0 (a / 64) (by omega) (a % 64) (by omega)
  rw [show 64 * (a / 64) + a % 64 = a by omega] at h
  exact h
theorem bitsOf_12 {k : Nat} (hk : k < 4096) : f11_bitsOf (nI k) = some (nI (fb_ct (fun i => k.testBit i) 12)) := by
  obtain ⟨r, h1, h2⟩ := lpw_R (F := f11_bitsOf_L1) (fun i s => ∃ j, s = (nI i, nI j) ∧ j < 4096 ∧ i + fb_ct (fun b => j.testBit b) 12 = fb_ct (fun b => k.testBit b) 12) (fun r => r = nI (fb_ct (fun i => k.testBit i) 12)) (fb_ct (fun i => k.testBit i) 12) (s := (nI 0, nI k)) (by
    rintro i _ hi ⟨j, rfl, hj, e⟩
    have hj0 : j ≠ 0 := by
      intro z
      subst z
      have : fb_ct (fun b => (0 : Nat).testBit b) 12 = 0 := by decide +kernel
      omega
    have h2 := kern_d j hj hj0
    obtain ⟨d, rfl⟩ : ∃ d, j = d + 1 := ⟨j - 1, by omega⟩
    refine ⟨_, ?_, (d + 1) &&& (d + 1 - 1), rfl, Nat.lt_of_le_of_lt Nat.and_le_left hj, by omega⟩
    unfold f11_bitsOf_L1
    dsimp only
    rw [if_neg (nI_ne0 (by omega) (by omega)), nI_pred, fa_and, nI_1]
    rfl) (by
    rintro _ ⟨j, rfl, hj, e⟩
    have hj0 : j = 0 := by
      refine Classical.byContradiction fun z => ?_
      have := kern_d j hj z
      omega
    subst hj0
    refine ⟨_, ?_, rfl⟩
    unfold f11_bitsOf_L1
    dsimp only
    rw [if_pos nI_0]) ⟨k, rfl, hk, by omega⟩
  unfold f11_bitsOf
  rw [show (0 : Int32) = nI 0 from rfl, h1, h2]
  rfl
theorem bitsOf_Bm {n : Nat} {p : Nat → Bool} {x : Int32} (h : Bm n p x) (hn : n ≤ 12) : f11_bitsOf x = some (nI (fb_ct p n)) := by
  obtain ⟨k, h1, h2, h3⟩ := h.num (by omega)
  have h4 : k < 4096 := Nat.lt_of_lt_of_le h1 (Nat.pow_le_pow_right (by decide) hn : 2 ^ n ≤ 2 ^ 12)
  rw [h2, bitsOf_12 h4, fb_ct_Bm hn h3]
section
variable {T : TW} {m : St}
theorem M_isOf {n : Nat} {p : Nat → Bool} {x : Int32} (h : Bm n p x) (hn : n ≤ 32) {k : Nat} (hk : k < n) : f11_isOf x (nI k) = some (p k) := by
  unfold f11_isOf
  rw [bs _ (by omega), h.at hk hn, ifd]
  simp only [zB_1]
  cases p k <;> rfl
theorem M_isAwake (h : RmT T m) {k o : Nat} (hk : k < T.H) (ho : o < 2147483648) : f11_isAwake m (nI k) (nI o) = some (T.aw k o) := by
  have := h.W.H8
  have := h.W.wa24 hk
  have := h.W.sl24 hk
  unfold f11_isAwake
  rw [ldO_n _ (by omega) (by omega), ldO_n _ (by omega) (by omega), h.ewa hk, h.esl hk]
  simp only [Option.bind_some]
  rw [← show _ = some (T.aw k o) from awk_c (T.wa k) (T.sl k) o]
  simp (disch := omega) only [nI_eq, nI_leI, nI_ltI]
theorem lpw_bm2 {F : Int32 × Int32 → Option ((Int32 × Int32) ⊕ Int32)} {n : Nat} {p : Nat → Bool} (hn : n ≤ 32) (hs : ∀ i x, i < n → F (x, nI i) = some (.inl (x ||| (if p i = true then ((1 : Int32) <<< (nI i &&& 31)) else 0), nI (i + 1)))) (he : ∀ x, F (x, nI n) = some (.inr x)) : ∃ x, lpw F (0, 0) = some x ∧ Bm n p x :=
  lpw_bm (fun i x hi hx => ⟨_, hs i x hi, hx.next2 (by omega)⟩) he
theorem M_lampsOf (h : RmT T m) {g : Nat} (hg : g < 2147483648) : ∃ x, f11_lampsOf m (nI g) = some x ∧ Bm T.L (fun l => decide (T.ho l = g)) x := by
  have hL := h.W.L12
  have := h.W.H8
  obtain ⟨x, h1, h2⟩ := lpw_bm2 (F := f11_lampsOf_L1 m (nI g)) (n := T.L) (p := fun l => decide (T.ho l = g)) (by omega) (fun i x hi => by
    have := h.W.hoH hi
    unfold f11_lampsOf_L1
    dsimp only
    rw [cl_1, h.eL, if_neg (nI_ge hi (by omega)), ldO_n _ (by omega) (by omega), h.eho hi]
    simp (disch := omega) only [Option.bind_some, ifs, nI_eq, nI_1, decide_eq_true_eq]) (fun x => if_pos (by rw [cl_1, h.eL]; exact Int32.le_refl _))
  refine ⟨x, ?_, h2⟩
  unfold f11_lampsOf
  rw [h1]
  rfl
theorem M_alone (h : RmT T m) : ∃ x, f11_alone m = some x ∧ Bm T.L (fun l => decide (T.tw l = none)) x := by
  have hL := h.W.L12
  obtain ⟨x, h1, h2⟩ := lpw_bm2 (F := f11_alone_L1 m) (n := T.L) (p := fun l => decide (T.tw l = none)) (by omega) (fun i x hi => by
    unfold f11_alone_L1
    dsimp only
    rw [cl_1, h.eL, if_neg (nI_ge hi (by omega)), ldO_n _ (by omega) (by omega), h.etw hi]
    simp only [Option.bind_some, ifs, eT_m1 (tw_B h.W hi), nI_1, decide_eq_true_eq]) (fun x => if_pos (by rw [cl_1, h.eL]; exact Int32.le_refl _))
  refine ⟨x, ?_, h2⟩
  unfold f11_alone
  rw [h1]
  rfl
theorem M_awakeNow (h : RmT T m) : ∃ x, f11_awakeNow m = some x ∧ Bm T.H (fun k => T.aw k (T.o % 24)) x := by
  have hH := h.W.H8
  have ho := h.W.oB
  obtain ⟨x, h1, h2⟩ := lpw_bm2 (F := f11_awakeNow_L1 m) (n := T.H) (p := fun k => T.aw k (T.o % 24)) (by omega) (fun i x hi => by
    unfold f11_awakeNow_L1
    dsimp only
    rw [cl_0, h.eH, if_neg (nI_ge hi (by omega)), h.eo, m24 (by omega), M_isAwake h hi (by omega)]
    simp only [Option.bind_some, ifz, ifs, nI_1]) (fun x => if_pos (by rw [cl_0, h.eH]; exact Int32.le_refl _))
  refine ⟨x, ?_, h2⟩
  unfold f11_awakeNow
  rw [h1]
  rfl
theorem M_allOil (h : RmT T m) : f11_allOil m = some (nI (fb_sm T.oi T.L)) := by
  have := h.W.L12
  have e : lpw (f11_allOil_L1 m) (0, 0) = some (nI (fb_sm T.oi T.L)) := by
    refine lpw_S (fun i => (nI (fb_sm T.oi i), nI i)) T.L (fun i hi => ?_) (if_pos (by rw [cl_1, h.eL]; exact Int32.le_refl _))
    unfold f11_allOil_L1
    dsimp only
    rw [cl_1, h.eL, if_neg (nI_ge hi (by omega)), ldO_n _ (by omega) (by omega), h.eoi hi]
    rw [Option.bind_some, nI_add, nI_1, fb_sm_succ]
  unfold f11_allOil
  rw [e]
  rfl
theorem M_happy (h : RmT T m) : ∃ x, f11_happy m = some x ∧ Bm T.L T.hp x := by
  have hL := h.W.L12
  have := h.W.H8
  obtain ⟨x, h1, h2⟩ := lpw_bm2 (F := f11_happy_L1 m) (n := T.L) (p := T.hp) (by omega) (fun i x hi => by
    have hho := h.W.hoH hi
    unfold f11_happy_L1
    dsimp only
    rw [cl_1, h.eL, if_neg (nI_ge hi (by omega)), ldO_n _ (by omega) (by omega), h.etw hi, Option.bind_some]
    cases e : T.tw i with
    | none =>
      rw [eT_none, if_pos rfl, Option.bind_some, nI_1, if_neg (by unfold TW.hp; rw [e]; exact Bool.false_ne_true)]
    | some j =>
      have hj := (h.W.twI hi e).1
      have := h.W.hoH hj
      rw [if_neg (by rw [eT_m1 (fun q e => by cases e; omega)]; exact fun z => by cases z), Option.bind_some, eT_some, ldO_n _ (by omega) (by omega), ldO_n _ (by omega) (by omega), h.eho hi, h.eho hj]
      simp (disch := omega) only [Option.bind_some, ifs, nI_eq, nI_1]
      unfold TW.hp
      rw [e]
      simp only [decide_eq_true_eq]) (fun x => if_pos (by rw [cl_1, h.eL]; exact Int32.le_refl _))
  refine ⟨x, ?_, h2⟩
  unfold f11_happy
  rw [h1]
  rfl
theorem M_couple (h : RmT T m) {k : Nat} (hk : k < T.L) : ∃ x, f11_couple m (nI k) = some x ∧ Bm T.L (T.cp k) x := by
  have hL := h.W.L12
  refine ⟨_, ?_, cp_bits h.W hk⟩
  unfold f11_couple
  rw [ldO_n _ (by omega) (by omega), h.etw hk, Option.bind_some]
  cases e : T.tw k with
  | none => rw [eT_none, if_pos rfl]
  | some j =>
    have hj := (h.W.twI hk e).1
    rw [if_neg (by rw [eT_m1 (fun q e => by cases e; omega)]; exact fun z => by cases z), eT_some, Option.bind_some]
theorem M_be (h : RmT T m) {k : Nat} (hk : k < T.L) (b : Bool) : ∃ x, f11_be m (nI k) b = some (sS m 29 x) ∧ RmT (if b = true then T.lit k else T.put k) (sS m 29 x) := by
  obtain ⟨y, hy, hb'⟩ := M_couple h hk
  unfold f11_be
  rw [hy]
  simp only [Option.bind_some, ifz]
  cases b with
  | true => exact ⟨_, rfl, h.sLi (h.eli.or hb')⟩
  | false => exact ⟨_, rfl, h.sLi (h.eli.sub hb')⟩
/-- what can burn, as it is gathered -/
def TW.can1 (T : TW) (l k : Nat) : Bool := !T.cp l k || (decide (0 < T.oi k) && !T.br k)
def allB (p : Nat → Bool) : Nat → Bool
  | 0 => true
  | n + 1 => allB p n && p n
theorem allB_iff (p : Nat → Bool) : ∀ n, allB p n = true ↔ ∀ k, k < n → p k = true := by
  intro n
  induction n with
  | zero => exact ⟨fun _ k hk => absurd hk (Nat.not_lt_zero k), fun _ => rfl⟩
  | succ n ih =>
    unfold allB
    rw [Bool.and_eq_true, ih]
    exact ⟨fun h k hk => by
      rcases Nat.lt_or_ge k n with q | q
      · exact h.1 k q
      · have : k = n := by omega
        rw [this]; exact h.2, fun h => ⟨fun k hk => h k (by omega), h n (by omega)⟩⟩
theorem can_all (h : WfT T) {l : Nat} (hl : l < T.L) : allB (T.can1 l) T.L = T.can l := by
  refine bool_ext ?_
  rw [allB_iff]
  constructor
  · intro g
    have g1 := g l hl
    have g1 : 0 < T.oi l ∧ T.br l = false := by simpa [TW.can1, TW.cp] using g1
    unfold TW.can
    cases e : T.tw l with
    | none => simp [g1.1, g1.2]
    | some j =>
      have hj := (h.twI hl e).1
      have g2 := g j hj
      have g2 : 0 < T.oi j ∧ T.br j = false := by simpa [TW.can1, TW.cp, e] using g2
      simp [g1.1, g1.2, g2.1, g2.2]
  · intro g k hk
    unfold TW.can1
    cases q : T.cp l k with
    | false => rfl
    | true =>
      have q1 := can_oil g k q
      have q2 : T.br k = false := by
        unfold TW.can at g
        unfold TW.cp at q
        cases e : T.tw l with
        | none =>
          rw [e] at g q
          have q : k = l := by simpa using q
          have g : 0 < T.oi l ∧ T.br l = false := by simpa using g
          rw [q]; exact g.2
        | some j =>
          rw [e] at g q
          have q : k = l ∨ j = k := by simpa using q
          have g : (0 < T.oi l ∧ T.br l = false) ∧ 0 < T.oi j ∧ T.br j = false := by simpa using g
          rcases q with q | q
          · rw [q]; exact g.1.2
          · rw [← q]; exact g.2.2
      simp [q1, q2]
theorem M_canBurn (h : RmT T m) {l : Nat} (hl : l < T.L) : f11_canBurn m (nI l) = some (T.can l) := by
  have hL := h.W.L12
  obtain ⟨x, hx, hb⟩ := M_couple h hl
  have e : lpw (f11_canBurn_L1 m (nI l)) (true, nI 0) = some (allB (T.can1 l) T.L) := by
    refine lpw_S (fun i => (allB (T.can1 l) i, nI i)) T.L (fun i hi => ?_) (if_pos (by rw [cl_1, h.eL]; exact Int32.le_refl _))
    have ho := h.W.oi99 hi
    have e0 : (nI (T.oi i) ≤ 0) = (T.oi i = 0) := propext (by rw [show (0 : Int32) = nI 0 from rfl, nI_leI (by omega) (by omega)]; omega)
    unfold f11_canBurn_L1
    dsimp only
    rw [cl_1, h.eL, if_neg (nI_ge hi (by omega)), hx, Option.bind_some, M_isOf hb (by omega) hi, ldO_n _ (by omega) (by omega), h.eoi hi, M_isOf h.ebr (by omega) hi]
    simp only [Option.bind_some, ifz, e0, nI_1]
    show _ = some (Sum.inl (allB (T.can1 l) i && (!T.cp l i || (decide (0 < T.oi i) && !T.br i)), nI (i + 1)))
    generalize allB (T.can1 l) i = a
    cases T.cp l i with
    | false => simp
    | true =>
      cases a with
      | false => simp
      | true =>
        by_cases z : T.oi i = 0
        · simp [z]
        · have : 0 < T.oi i := by omega
          cases T.br i <;> simp [z, this]
  unfold f11_canBurn
  rw [show (0 : Int32) = nI 0 from rfl, e, can_all h.W hl]
  rfl
end
