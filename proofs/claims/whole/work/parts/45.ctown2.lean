/-! the class's town: can be lit, flicks, twins -/
def TW.put (T : TW) (l : Nat) : TW := T.sLi (fun k => T.li k && !T.cp l k)
def TW.lit (T : TW) (l : Nat) : TW := T.sLi (fun k => T.li k || T.cp l k)
def TW.flk (T : TW) (l : Nat) : TW := if T.li l = true then T.put l else if T.can l = true then T.lit l else T
def TW.sma (T : TW) (l : Nat) : TW := (T.put l).sBr (fun k => T.br k || decide (k = l))
section
variable {T : TW} {t : St}
theorem WfT.sLi {f : Nat → Bool} (h : WfT T) : WfT (T.sLi f) := ⟨h.1, h.2.1, h.2.2.1, h.2.2.2.1, h.2.2.2.2⟩
theorem WfT.sBr {f : Nat → Bool} (h : WfT T) : WfT (T.sBr f) := ⟨h.1, h.2.1, h.2.2.1, h.2.2.2.1, h.2.2.2.2⟩
theorem RcT.sLi {f : Nat → Bool} {x : Int32} (h : RcT T t) (hx : Bm T.L f x) : RcT (T.sLi f) (sS t 3 x) := ⟨h.W.sLi, h.eH, h.eL, h.eo, hx, h.ebr, h.2.2.2.2.2.2.1, h.2.2.2.2.2.2.2⟩
theorem RcT.sBr {f : Nat → Bool} {x : Int32} (h : RcT T t) (hx : Bm T.L f x) : RcT (T.sBr f) (sS t 4 x) := ⟨h.W.sBr, h.eH, h.eL, h.eo, h.eli, hx, h.2.2.2.2.2.2.1, h.2.2.2.2.2.2.2⟩
theorem RmT.sLi {f : Nat → Bool} {x : Int32} (h : RmT T t) (hx : Bm T.L f x) : RmT (T.sLi f) (sS t 29 x) := ⟨h.W.sLi, h.eH, h.eL, h.eo, hx, h.ebr, h.2.2.2.2.2.2.1, h.2.2.2.2.2.2.2⟩
theorem RmT.sBr {f : Nat → Bool} {x : Int32} (h : RmT T t) (hx : Bm T.L f x) : RmT (T.sBr f) (sS t 30 x) := ⟨h.W.sBr, h.eH, h.eL, h.eo, h.eli, hx, h.2.2.2.2.2.2.1, h.2.2.2.2.2.2.2⟩
theorem put_ok (h : LiO T) (l : Nat) : LiO (T.put l) := fun k hk e => h k hk (by have e : (T.li k && !T.cp l k) = true := e; cases hq : T.li k <;> simp_all)
theorem can_oil {l : Nat} (hc : T.can l = true) : ∀ k, T.cp l k = true → 0 < T.oi k := by
  intro k hk
  unfold TW.can at hc
  unfold TW.cp at hk
  cases e : T.tw l with
  | none =>
    rw [e] at hc hk
    have hk : k = l := by simpa using hk
    subst hk
    have hc : (0 < T.oi k ∧ T.br k = false) := by simpa using hc
    exact hc.1
  | some j =>
    rw [e] at hc hk
    have hk : k = l ∨ j = k := by simpa using hk
    have hc : (0 < T.oi l ∧ T.br l = false) ∧ 0 < T.oi j ∧ T.br j = false := by simpa using hc
    rcases hk with hk | hk
    · subst hk; exact hc.1.1
    · subst hk; exact hc.2.1
theorem lit_ok (h : LiO T) {l : Nat} (hc : T.can l = true) : LiO (T.lit l) := fun k hk e => by
  have e : (T.li k || T.cp l k) = true := e
  cases hq : T.li k with
  | true => exact h k hk hq
  | false =>
    rw [hq, Bool.false_or] at e
    exact can_oil hc k e
theorem C_canBeLit (h : RcT T t) {k : Nat} (hk : k < T.L) : f9_canBeLit t (nI k) = some (T.can k) := by
  have hL := h.W.L12
  have ho := h.W.oi99 hk
  obtain ⟨x, hx, hb⟩ := C_couple h hk
  have e0 : (nI (T.oi k) ≤ 0) = (T.oi k = 0) := propext (by rw [show (0 : Int32) = nI 0 from rfl, nI_leI (by omega) (by omega)]; omega)
  have hs : (t.1 4 &&& x = 0) = (T.snd k = true) := br_cp h.W hk h.ebr hb
  unfold f9_canBeLit
  rw [ldO_n _ (by omega) (by omega), h.etw hk, Option.bind_some, ldO_n _ (by omega) (by omega), h.eoi hk, hx, h.eL]
  simp only [Option.bind_some, e0, hs, ifb]
  cases e : T.tw k with
  | none =>
    rw [eT_none, if_pos (by decide)]
    by_cases q : T.oi k = 0
    · rw [if_pos q]; simp [TW.can, q]
    · rw [if_neg q]
      have : 0 < T.oi k := by omega
      simp [TW.can, TW.snd, e, this]
  | some j =>
    have hj := (h.W.twI hk e).1
    have hjo := h.W.oi99 hj
    have e1 : (nI (T.oi j) = 0) = (T.oi j = 0) := propext (by rw [show (0 : Int32) = nI 0 from rfl, nI_eq (by omega) (by omega)])
    rw [eT_some, if_neg (nI_pos (by omega)), if_neg (nI_ge hj (by omega)), ldO_n _ (by omega) (by omega), h.eoi hj, Option.bind_some]
    simp only [e1]
    by_cases q1 : T.oi j = 0
    · rw [if_pos q1]; simp [TW.can, e, q1]
    · rw [if_neg q1]
      have : 0 < T.oi j := by omega
      by_cases q : T.oi k = 0
      · rw [if_pos q]; simp [TW.can, q]
      · rw [if_neg q]
        have : 0 < T.oi k := by omega
        simp [TW.can, TW.snd, e, *]
theorem C_putOut (h : RcT T t) {k : Nat} (hk : k < T.L) : ∃ t', f9_putOut t (nI k) = some t' ∧ RcT (T.put k) t' := by
  obtain ⟨x, hx, hb⟩ := C_couple h hk
  refine ⟨_, ?_, h.sLi (h.eli.sub hb)⟩
  unfold f9_putOut
  rw [hx]
  rfl
theorem C_light (h : RcT T t) {k : Nat} (hk : k < T.L) : ∃ t', f9_light t (nI k) = some t' ∧ RcT (T.lit k) t' := by
  obtain ⟨x, hx, hb⟩ := C_couple h hk
  refine ⟨_, ?_, h.sLi (h.eli.or hb)⟩
  unfold f9_light
  rw [hx]
  rfl
theorem C_flickByHand (h : RcT T t) {k : Nat} (hk : k < T.L) : ∃ t', f9_flickByHand t (nI k) = some t' ∧ RcT (T.flk k) t' := by
  unfold f9_flickByHand
  rw [C_isLit h hk]
  simp only [Option.bind_some, ifz]
  cases hl : T.li k with
  | true =>
    obtain ⟨t', h1, h2⟩ := C_putOut h hk
    refine ⟨t', ?_, ?_⟩
    · rw [if_pos rfl, h1]; rfl
    · unfold TW.flk; rw [if_pos hl]; exact h2
  | false =>
    rw [if_neg (by decide), C_canBeLit h hk, Option.bind_some]
    cases hc : T.can k with
    | true =>
      obtain ⟨t', h1, h2⟩ := C_light h hk
      refine ⟨t', ?_, ?_⟩
      · rw [if_pos rfl, h1]; rfl
      · unfold TW.flk; rw [if_neg (by rw [hl]; decide), if_pos hc]; exact h2
    | false =>
      refine ⟨t, ?_, ?_⟩
      · rw [if_neg (by decide)]; rfl
      · unfold TW.flk; rw [if_neg (by rw [hl]; decide), if_neg (by rw [hc]; decide)]; exact h
theorem C_shatter (h : RcT T t) {k : Nat} (hk : k < T.L) : ∃ t', f9_shatter t (nI k) = some t' ∧ RcT (T.sma k) t' := by
  have hL := h.W.L12
  obtain ⟨t', h1, h2⟩ := C_putOut h hk
  refine ⟨sS t' 4 (t'.1 4 ||| ((1 : Int32) <<< (nI k &&& 31))), ?_, h2.sBr (h2.ebr.or (Bm.one (n := T.L) hk (by omega)))⟩
  unfold f9_shatter
  rw [h1]
  rfl
theorem C_soundTwins (h : RcT T t) : ∃ x, f9_soundTwins t = some x ∧ Bm T.L (fun l => (T.tw l).isSome && T.snd l) x := by
  have hL := h.W.L12
  obtain ⟨x, h1, h2⟩ := lpw_bm (F := f9_soundTwins_L1 t) (n := T.L) (p := fun l => (T.tw l).isSome && T.snd l) (fun i x hi hx => ⟨_, by
    obtain ⟨y, hy, hb⟩ := C_couple h hi
    unfold f9_soundTwins_L1
    dsimp only
    rw [h.eL, if_neg (nI_ge hi (by omega)), ldO_n _ (by omega) (by omega), h.etw hi, hy, Option.bind_some]
    simp only [Option.bind_some, eT_m1 (tw_B h.W hi), br_cp h.W hi h.ebr hb, ifs]
    show _ = some (Sum.inl (if ((T.tw i).isSome && T.snd i) = true then x ||| ((1 : Int32) <<< (nI i &&& 31)) else x, nI (i + 1)))
    rw [nI_1]
    cases e : T.tw i with
    | none => rfl
    | some j => simp, hx.next (p := fun l => (T.tw l).isSome && T.snd l) (by omega)⟩) (fun x => if_pos (by rw [h.eL]; exact Int32.le_refl _))
  refine ⟨x, ?_, h2⟩
  unfold f9_soundTwins
  rw [h1]
  rfl
theorem C_hasSoundLamp (h : RcT T t) {g : Nat} (hg : g < 2147483648) : f9_hasSoundLamp t (nI g) = some (T.hs g) := by
  have hL := h.W.L12
  have hH := h.W.H8
  obtain ⟨r, h1, h2⟩ := lpw_E (F := f9_hasSoundLamp_L1 t (nI g)) (fun i s => s = nI i ∧ fb_ct (T.hs1 g) i = 0) (fun r => r = if T.hs g = true then .inl () else .inr ()) T.L (fun i s hi hI => by
    obtain ⟨rfl, h0⟩ := hI
    have := h.W.hoH hi
    obtain ⟨y, hy, hb⟩ := C_couple h hi
    unfold f9_hasSoundLamp_L1
    rw [h.eL, if_neg (nI_ge hi (by omega)), ldO_n _ (by omega) (by omega), h.eho hi, hy, Option.bind_some, Option.bind_some]
    simp (disch := omega) only [nI_eq, br_cp h.W hi h.ebr hb]
    cases q : T.hs1 g i with
    | true =>
      have q' : T.ho i = g ∧ T.snd i = true := by simpa [TW.hs1] using q
      refine .inr ⟨_, by rw [if_pos q'.1, if_pos q'.2], ?_⟩
      have : T.hs g = true := decide_eq_true (fb_ct_pos.2 ⟨i, hi, q⟩)
      rw [if_pos this]
    | false =>
      refine .inl ⟨nI (i + 1), ?_, rfl, by rw [fb_ct_succ, h0, q]; rfl⟩
      by_cases q1 : T.ho i = g
      · rw [if_pos q1]
        have : ¬ T.snd i = true := fun z => by simp [TW.hs1, q1, z] at q
        rw [if_neg this, nI_1]
      · rw [if_neg q1, nI_1]) (fun s hI => by
    obtain ⟨rfl, h0⟩ := hI
    refine ⟨.inr (), ?_, ?_⟩
    · unfold f9_hasSoundLamp_L1
      rw [h.eL, if_pos (Int32.le_refl _)]
    · have : T.hs g = false := decide_eq_false (by omega)
      rw [this]; rfl) (Nat.zero_le _) ⟨rfl, rfl⟩
  unfold f9_hasSoundLamp
  rw [show (0 : Int32) = nI 0 from rfl, h1, h2, Option.bind_some]
  cases T.hs g <;> rfl
end
