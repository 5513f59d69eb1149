/-! the class's town: what its methods answer -/
section
variable {T : TW} {t : St}
theorem C_isLit (h : RcT T t) {k : Nat} (hk : k < T.L) : f9_isLit t (nI k) = some (T.li k) := by
  have := h.W.L12
  unfold f9_isLit
  rw [bs _ (by omega), h.eli.at hk (by omega), ifd]
  simp only [zB_1]
  cases T.li k <;> rfl
theorem C_isBroken (h : RcT T t) {k : Nat} (hk : k < T.L) : f9_isBroken t (nI k) = some (T.br k) := by
  have := h.W.L12
  unfold f9_isBroken
  rw [bs _ (by omega), h.ebr.at hk (by omega), ifd]
  simp only [zB_1]
  cases T.br k <;> rfl
theorem C_isAwake (h : RcT T t) {k o : Nat} (hk : k < T.H) (ho : o < 2147483648) : f9_isAwake t (nI k) (nI o) = some (T.aw k o) := by
  have := h.W.H8
  have := h.W.wa24 hk
  have := h.W.sl24 hk
  unfold f9_isAwake
  rw [ldO_n _ (by omega) (by omega), ldO_n _ (by omega) (by omega), h.ewa hk, h.esl hk]
  simp only [Option.bind_some]
  rw [← show _ = some (T.aw k o) from awk_c (T.wa k) (T.sl k) o]
  simp (disch := omega) only [nI_eq, nI_leI, nI_ltI]
theorem C_hoursAwake (h : RcT T t) {k : Nat} (hk : k < T.H) : ∃ x, f9_hoursAwake t (nI k) = some x ∧ Bm 24 (T.aw k) x := by
  obtain ⟨x, h1, h2⟩ := lpw_bm (F := f9_hoursAwake_L1 t (nI k)) (n := 24) (p := T.aw k) (fun i x hi hx => ⟨_, by
    unfold f9_hoursAwake_L1
    dsimp only
    rw [if_neg (show ¬ (24 : Int32) ≤ nI i from nI_ge hi (by decide)), C_isAwake h hk (by omega)]
    simp only [Option.bind_some, ifz, ifs]
    rw [nI_1], hx.next (by omega)⟩) (fun x => if_pos (Int32.le_refl _))
  refine ⟨x, ?_, h2⟩
  unfold f9_hoursAwake
  rw [h1]
  rfl
theorem C_awakeHouses (h : RcT T t) {o : Nat} (ho : o < 2147483648) : ∃ x, f9_awakeHouses t (nI o) = some x ∧ Bm T.H (fun k => T.aw k o) x := by
  have := h.W.H8
  obtain ⟨x, h1, h2⟩ := lpw_bm (F := f9_awakeHouses_L1 t (nI o)) (n := T.H) (p := fun k => T.aw k o) (fun i x hi hx => ⟨_, by
    unfold f9_awakeHouses_L1
    dsimp only
    rw [h.eH, if_neg (nI_ge hi (by omega)), C_isAwake h hi ho]
    simp only [Option.bind_some, ifz, ifs]
    rw [nI_1], hx.next (by omega)⟩) (fun x => if_pos (by rw [h.eH]; exact Int32.le_refl _))
  refine ⟨x, ?_, h2⟩
  unfold f9_awakeHouses
  rw [h1]
  rfl
theorem C_awakeLamps (h : RcT T t) : ∃ x, f9_awakeLamps t = some x ∧ Bm T.L (fun l => T.al l (T.o % 24)) x := by
  have := h.W.L12
  have ho := h.W.oB
  obtain ⟨x, h1, h2⟩ := lpw_bm (F := f9_awakeLamps_L1 t) (n := T.L) (p := fun l => T.al l (T.o % 24)) (fun i x hi hx => ⟨_, by
    unfold f9_awakeLamps_L1
    dsimp only
    rw [h.eL, if_neg (nI_ge hi (by omega)), ldO_n _ (by omega) (by omega), h.eho hi, h.eo, m24 (by omega)]
    rw [Option.bind_some, C_isAwake h (h.W.hoH hi) (by omega)]
    simp only [Option.bind_some, ifz, ifs]
    rw [nI_1]
    rfl, hx.next (by omega)⟩) (fun x => if_pos (by rw [h.eL]; exact Int32.le_refl _))
  refine ⟨x, ?_, h2⟩
  unfold f9_awakeLamps
  rw [h1]
  rfl
theorem C_allLamps (h : RcT T t) : ∃ x, f9_allLamps t = some x ∧ Bm T.L (fun _ => true) x := by
  refine ⟨_, rfl, ?_⟩
  rw [h.eL]
  exact Bm.all h.W.L12
theorem C_lampsOf (h : RcT T t) {g : Nat} (hg : g < 2147483648) : ∃ x, f9_lampsOf t (nI g) = some x ∧ Bm T.L (fun l => decide (T.ho l = g)) x := by
  have := h.W.L12
  have := h.W.H8
  obtain ⟨x, h1, h2⟩ := lpw_bm (F := f9_lampsOf_L1 t (nI g)) (n := T.L) (p := fun l => decide (T.ho l = g)) (fun i x hi hx => ⟨_, by
    have := h.W.hoH hi
    unfold f9_lampsOf_L1
    dsimp only
    rw [h.eL, if_neg (nI_ge hi (by omega)), ldO_n _ (by omega) (by omega), h.eho hi]
    simp (disch := omega) only [Option.bind_some, ifs, nI_eq]
    rw [nI_1], by simpa only [decide_eq_true_eq] using hx.next (by omega)⟩) (fun x => if_pos (by rw [h.eL]; exact Int32.le_refl _))
  refine ⟨x, ?_, h2⟩
  unfold f9_lampsOf
  rw [h1]
  rfl
theorem C_oilInAll (h : RcT T t) : f9_oilInAll t = some (nI (fb_sm T.oi T.L)) := by
  have := h.W.L12
  have e : lpw (f9_oilInAll_L1 t) (0, 0) = some (nI (fb_sm T.oi T.L)) := by
    refine lpw_S (fun i => (nI (fb_sm T.oi i), nI i)) T.L (fun i hi => ?_) (if_pos (by rw [h.eL]; exact Int32.le_refl _))
    unfold f9_oilInAll_L1
    dsimp only
    rw [h.eL, if_neg (nI_ge hi (by omega)), ldO_n _ (by omega) (by omega), h.eoi hi]
    rw [Option.bind_some, nI_add, nI_1, fb_sm_succ]
  unfold f9_oilInAll
  rw [e]
  rfl
theorem tw_B (h : WfT T) {i : Nat} (hi : i < T.L) : ∀ k, T.tw i = some k → k < 100000 := fun k e => by
  have := (h.twI hi e).1
  have := h.L12
  omega
theorem C_singletons (h : RcT T t) : ∃ x, f9_singletons t = some x ∧ Bm T.L (fun l => decide (T.tw l = none)) x := by
  have := h.W.L12
  obtain ⟨x, h1, h2⟩ := lpw_bm (F := f9_singletons_L1 t) (n := T.L) (p := fun l => decide (T.tw l = none)) (fun i x hi hx => ⟨_, by
    unfold f9_singletons_L1
    dsimp only
    rw [h.eL, if_neg (nI_ge hi (by omega)), ldO_n _ (by omega) (by omega), h.etw hi]
    simp only [Option.bind_some, ifs, eT_m1 (tw_B h.W hi)]
    rw [nI_1], by simpa only [decide_eq_true_eq] using hx.next (by omega)⟩) (fun x => if_pos (by rw [h.eL]; exact Int32.le_refl _))
  refine ⟨x, ?_, h2⟩
  unfold f9_singletons
  rw [h1]
  rfl
theorem eT_some {j : Nat} : eT (some j) = nI j := rfl
theorem eT_none : eT none = -1 := rfl
theorem C_happyLamps (h : RcT T t) : ∃ x, f9_happyLamps t = some x ∧ Bm T.L T.hp x := by
  have hL := h.W.L12
  have := h.W.H8
  obtain ⟨x, h1, h2⟩ := lpw_bm (F := f9_happyLamps_L1 t) (n := T.L) (p := T.hp) (fun i x hi hx => ⟨_, by
    have hho := h.W.hoH hi
    unfold f9_happyLamps_L1
    dsimp only
    rw [h.eL, if_neg (nI_ge hi (by omega)), ldO_n _ (by omega) (by omega), h.etw hi, Option.bind_some]
    show _ = some (Sum.inl (if T.hp i = true then x ||| ((1 : Int32) <<< (nI i &&& 31)) else x, nI (i + 1)))
    cases e : T.tw i with
    | none =>
      rw [eT_none, if_pos (by decide), Option.bind_some, nI_1, if_neg (by unfold TW.hp; rw [e]; exact Bool.false_ne_true)]
    | some j =>
      have hj := (h.W.twI hi e).1
      have := h.W.hoH hj
      rw [eT_some, if_neg (nI_pos (by omega)), if_neg (nI_ge hj (by omega)), ldO_n _ (by omega) (by omega), ldO_n _ (by omega) (by omega), h.eho hi, h.eho hj]
      simp (disch := omega) only [Option.bind_some, ifs, nI_eq, nI_1]
      unfold TW.hp
      rw [e]
      simp only [decide_eq_true_eq], hx.next (by omega)⟩) (fun x => if_pos (by rw [h.eL]; exact Int32.le_refl _))
  refine ⟨x, ?_, h2⟩
  unfold f9_happyLamps
  rw [h1]
  rfl
theorem cp_bits (h : WfT T) {k : Nat} (hk : k < T.L) : Bm T.L (T.cp k) (match T.tw k with | none => (1 : Int32) <<< (nI k &&& 31) | some j => ((1 : Int32) <<< (nI k &&& 31)) ||| ((1 : Int32) <<< (nI j &&& 31))) := by
  have hL := h.L12
  cases e : T.tw k with
  | none => exact (Bm.one hk (by omega)).cong fun i _ => by unfold TW.cp; rw [e]; simp
  | some j =>
    have hj := (h.twI hk e).1
    exact ((Bm.one hk (by omega)).or (Bm.one hj (by omega))).cong fun i _ => by
      unfold TW.cp
      rw [e]
      simp only [Option.some.injEq]
      congr 1
      exact bool_ext (by simp only [decide_eq_true_eq]; exact eq_comm)
theorem C_couple (h : RcT T t) {k : Nat} (hk : k < T.L) : ∃ x, f9_couple t (nI k) = some x ∧ Bm T.L (T.cp k) x := by
  have hL := h.W.L12
  refine ⟨_, ?_, cp_bits h.W hk⟩
  unfold f9_couple
  rw [ldO_n _ (by omega) (by omega), h.etw hk, Option.bind_some]
  cases e : T.tw k with
  | none => rw [eT_none, if_pos rfl]
  | some j =>
    have hj := (h.W.twI hk e).1
    rw [if_neg (by rw [eT_m1 (fun q e => by cases e; omega)]; exact fun z => by cases z), eT_some]
theorem br_cp (h : WfT T) {k : Nat} (hk : k < T.L) {b x : Int32} (hb : Bm T.L T.br b) (hx : Bm T.L (T.cp k) x) : (b &&& x = 0) = (T.snd k = true) := by
  have hL := h.L12
  refine propext ?_
  rw [(hb.and hx).eq0 (by omega)]
  unfold TW.snd
  constructor
  · intro g
    have g1 : T.br k = false := by
      have := g k hk
      simpa [TW.cp] using this
    cases e : T.tw k with
    | none => simp [g1]
    | some j =>
      have hj := (h.twI hk e).1
      have := g j hj
      have : T.br j = false := by simpa [TW.cp, e] using this
      simp [g1, this]
  · intro g i hi
    cases e : T.tw k with
    | none =>
      rw [e] at g
      by_cases q : i = k
      · subst q
        have : T.br i = false := by simpa using g
        rw [this, Bool.false_and]
      · have : T.cp k i = false := by simp [TW.cp, e, q]
        rw [this, Bool.and_false]
    | some j =>
      rw [e] at g
      have g : T.br k = false ∧ T.br j = false := by simpa using g
      by_cases q : i = k
      · subst q
        rw [g.1, Bool.false_and]
      · by_cases q2 : i = j
        · subst q2
          rw [g.2, Bool.false_and]
        · have : T.cp k i = false := by simp [TW.cp, e, q, Ne.symm q2]
          rw [this, Bool.and_false]
end
