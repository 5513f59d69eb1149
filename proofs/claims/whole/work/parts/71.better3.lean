/-! better: the question -/
section
variable {r : RU} {T : TW} {st sg m s4 : St}
theorem C_allHours (h : RcT T st) (hg : RcR r.1 r.2 sg) (hok : okR r.1 r.2) (s4 : St) : ∃ g' s', lpw (f10_better_L2 st) (0, sg, s4) = some (g', s') ∧ RcR r.1 r.2 g' ∧ ∀ l, l < T.L → HoE r T s' l := by
  have hL := h.W.L12
  obtain ⟨q, h1, h2, h3⟩ := lpw_R (F := f10_better_L2 st) (fun i s => s.1 = nI i ∧ RcR r.1 r.2 s.2.1 ∧ ∀ l, l < i → HoE r T s.2.2 l) (fun q => RcR r.1 r.2 q.1 ∧ ∀ l, l < T.L → HoE r T q.2 l) T.L (s := (0, sg, s4)) (by
    rintro i ⟨_, g, s⟩ hi ⟨rfl, hg, hE⟩
    dsimp only at hg hE
    obtain ⟨x, y, g', s', a1, a2, a3, a4, a5, a6⟩ := C_setHours h hg hok s hi
    unfold f10_better_L2
    dsimp only
    rw [h.eL, if_neg (nI_ge hi (by omega)), ldO_n _ (by omega) (by decide), h.eho hi, Option.bind_some, a1, Option.bind_some, a2, Option.bind_some]
    dsimp only
    rw [a4, Option.bind_some, nI_1]
    refine ⟨_, rfl, rfl, a3, fun l hl => ?_⟩
    by_cases e : l = i
    · rw [e]; exact a5
    · exact a6 l e (hE l (by omega))) (by
    rintro ⟨_, g, s⟩ ⟨rfl, hg, hE⟩
    refine ⟨(g, s), ?_, hg, hE⟩
    unfold f10_better_L2
    dsimp only
    rw [h.eL, if_pos (Int32.le_refl _)]) ⟨rfl, hg, fun l hl => absurd hl (Nat.not_lt_zero l)⟩
  exact ⟨q.1, q.2, h1, h2, h3⟩
theorem L31_e (st : St) : f10_better_L31 st = f10_better_L2 st := rfl
theorem betterCase (h : RcT T st) (h' : RmT T m) (sx : St) (y : Int32) : (y = -1 ∧ f11_isIn y.toInt64 (-1 : Int64) ((m.2 3 1) - 1).toInt64 = some true) ∨ (y ≠ -1 ∧ f10_needLamp sx st y = some (.inr 1) ∧ f11_isIn y.toInt64 (-1 : Int64) ((m.2 3 1) - 1).toInt64 = some false) ∨ ∃ j, j < T.L ∧ y = nI j ∧ y ≠ -1 ∧ f10_needLamp sx st y = some (.inl ()) ∧ f11_isIn y.toInt64 (-1 : Int64) ((m.2 3 1) - 1).toInt64 = some true := by
  have hL := h.W.L12
  have h0 := nI_toInt (n := T.L) (by omega)
  have h3 : (1 : Int32).toInt = 1 := by decide +kernel
  have h1 : (nI T.L - 1).toInt = (T.L : Int) - 1 := by rw [fb_subI (by rw [h0, h3]; omega) (by rw [h0, h3]; omega), h0, h3]
  have h2 : (-1 : Int32).toInt = -1 := by decide +kernel
  rw [h'.eL, show (-1 : Int64) = (-1 : Int32).toInt64 from by decide +kernel, isIn_w]
  by_cases e : y = -1
  · left
    refine ⟨e, ?_⟩
    rw [decide_eq_true]
    rw [fa_le, fa_le, h1, e, h2]
    omega
  · right
    have e' : ¬ y.toInt = -1 := fun z => e (Int32.toInt_inj.1 (z.trans h2.symm))
    unfold f10_needLamp
    rw [h.eL]
    rcases pk_ix y (n := T.L) (by omega) with q | q | ⟨j, q, rfl⟩
    · left
      refine ⟨e, if_pos q, ?_⟩
      rw [decide_eq_false]
      intro z
      have z1 := (fa_le _ _).1 z.1
      have z2 := (fa_lt _ _).1 q
      rw [h2] at z1
      rw [show (0 : Int32).toInt = 0 from by decide +kernel] at z2
      omega
    · left
      have hq : ¬ y < nI T.L := fun z => (fa_of_lt z).2.1 q
      refine ⟨e, ?_, ?_⟩
      · by_cases z : y < 0
        · rw [if_pos z]
        · rw [if_neg z, if_neg hq]
      · rw [decide_eq_false]
        intro z
        have z1 := (fa_le _ _).1 z.2
        have z2 : ¬ y.toInt < (nI T.L).toInt := fun w => hq ((fa_lt _ _).2 w)
        rw [h1] at z1
        rw [h0] at z2
        omega
    · right
      refine ⟨j, q, rfl, e, ?_, ?_⟩
      · rw [if_neg (nI_pos (by omega)), if_pos (nI_lt q (by omega))]; rfl
      · rw [decide_eq_true]
        have hj := nI_toInt (n := j) (by omega)
        rw [fa_le, fa_le, h1, h2, hj]
        omega
theorem Q_better (h : RcT T st) (h' : RmT T m) (hg : RcR r.1 r.2 sg) (hR : RmR r.1 r.2 m) (hok : okR r.1 r.2) (s4 sx : St) (y : Int32) : Agr (f10_better sx st sg s4 y) kfN (f11_better m y) (sg, s4) (fun s m' => QP r T m s.1 m') := by
  have hL := h.W.L12
  obtain ⟨A, a1, a2, a3, a4⟩ := ca_ex h.W
  have hA2 : A < 4096 := Nat.lt_of_lt_of_le a1 (Nat.pow_le_pow_right (by decide) hL : 2 ^ T.L ≤ 2 ^ 12)
  obtain ⟨x, b1, b2⟩ := C_soundTwins h
  obtain rfl := a4 x b2
  obtain ⟨m', c1, c2, c3⟩ := M_castAnew h'.s2 hR.s2 hok a1 a2 a3 a4
  have hf : Fr sS1 sA1 (sS m 2 0) m' := c2.mono (by decide) (by decide)
  have qp : ∀ {g : St}, RcR r.1 r.2 g → QP r T m g m' := fun hg => ⟨hg, h'.s2.fr c2, fr2' hf⟩
  obtain ⟨g', s', d1, d2, d3⟩ := C_allHours h hg hok s4
  have hE : ∀ l, A.testBit l = true → HoE r T s' l := fun l hl => by
    rw [a2 l, Bool.and_eq_true, decide_eq_true_eq] at hl
    exact d3 l hl.1
  obtain ⟨s'', e1, e2, e3⟩ := C_weigh hL a1 hE
  rcases betterCase h h'.s2 sx y with ⟨rfl, f1⟩ | ⟨hy, f0, f1⟩ | ⟨l, hl, rfl, hy, f0, f1⟩
  · refine ⟨nI (dpD (sfN r T) T.L A), m', ?_, .inl ⟨(g', s''), ?_, z2 hf, qp d2⟩⟩
    · unfold f11_better
      rw [Option.bind_some, cl_1, f1, Option.bind_some, if_neg (by decide), c1, Option.bind_some, if_pos rfl]
    · unfold f10_better
      rw [if_pos rfl, b1, Option.bind_some, if_pos rfl, d1, Option.bind_some]
      dsimp only
      rw [e1, Option.bind_some, if_pos rfl, C_leastCost hA2 a3 e3, Option.bind_some, wI_s]
  · refine AgrX (m := m) 1 (by unfold f10_better; rw [if_neg hy, f0, xB_o]) ?_ ⟨hg, h'.s2k _, fr2k m _⟩
    unfold f11_better
    rw [Option.bind_some, cl_1, f1, Option.bind_some, if_pos zB_f]
    rfl
  · have hm : f11_better m (nI l) = some (eT (csT (sfN r T) T.L A 6 l), m') := by
      unfold f11_better
      rw [Option.bind_some, cl_1, f1, Option.bind_some, if_neg (by decide), c1, Option.bind_some, if_neg hy]
      dsimp only
      rw [ldO_n _ (by omega) (by decide), c3 l hl, Option.bind_some]
    cases hb : A.testBit l with
    | false =>
      refine ⟨_, m', hm, .inl ⟨(sg, s4), ?_, z2 hf, qp hg⟩⟩
      have hc := (cs_keep (c := sfN r T) (fun a b => sfN_24 a b) hL a1 a3 (n := 0) (l := l) hb 6).1
      rw [Nat.zero_add] at hc
      rw [hc]
      unfold f10_better
      rw [if_neg hy, f0, xB_i, b1, Option.bind_some, if_neg hy, tst hA2 (by omega), hb, if_pos zB_f]
      rfl
    | true =>
      refine ⟨_, m', hm, .inl ⟨(g', s''), ?_, z2 hf, qp d2⟩⟩
      unfold f10_better
      rw [if_neg hy, f0, xB_i, b1, Option.bind_some, if_neg hy, tst hA2 (by omega), hb, if_neg (by decide), L31_e, d1, Option.bind_some]
      dsimp only
      rw [e1, Option.bind_some, if_neg hy, C_partner hL a1 a3 e2 e3 hb, Option.bind_some, wI_s]
end
