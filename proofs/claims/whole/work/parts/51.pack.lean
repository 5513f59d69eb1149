/-! rows that keep a town: pack and unpack -/
/-- a row that holds what may change of a town -/
def PK (T : TW) (f : Nat → Int32) (b : Nat) : Prop := f b = nI T.o ∧ Bm T.L T.li (f (b + 1)) ∧ Bm T.L T.br (f (b + 2)) ∧ (∀ k, k < T.L → f (b + 3 + k) = nI (T.oi k) ∧ f (b + 15 + k) = nI (T.ho k)) ∧ ∀ k, k < T.H → f (b + 27 + k) = nI (T.wa k) ∧ f (b + 35 + k) = nI (T.sl k)
theorem PK.cong {T : TW} {f g : Nat → Int32} {b c : Nat} (h : PK T f b) (hL : T.L ≤ 12) (hH : T.H ≤ 8) (e : ∀ k, k < 43 → g (c + k) = f (b + k)) : PK T g c := by
  obtain ⟨h1, h2, h3, h4, h5⟩ := h
  refine ⟨(e 0 (by omega)).trans h1, by rw [e 1 (by omega)]; exact h2, by rw [e 2 (by omega)]; exact h3, fun k hk => ⟨?_, ?_⟩, fun k hk => ⟨?_, ?_⟩⟩
  · rw [Nat.add_assoc, e (3 + k) (by omega), ← Nat.add_assoc]; exact (h4 k hk).1
  · rw [Nat.add_assoc, e (15 + k) (by omega), ← Nat.add_assoc]; exact (h4 k hk).2
  · rw [Nat.add_assoc, e (27 + k) (by omega), ← Nat.add_assoc]; exact (h5 k hk).1
  · rw [Nat.add_assoc, e (35 + k) (by omega), ← Nat.add_assoc]; exact (h5 k hk).2
/-- two towns of one street -/
def Same (T U : TW) : Prop := T.H = U.H ∧ T.L = U.L ∧ T.ki = U.ki ∧ T.tw = U.tw
section
variable {T U : TW} {m : St}
theorem M_pack_27 (h : RmT T m) {b : Nat} (hb : b + 43 ≤ 1720) : ∃ f, f11_pack_27 m (nI b) = some (sA m 27 f) ∧ PK T f b ∧ ∀ j, (j < b ∨ b + 43 ≤ j) → f j = m.2 27 j := by
  have hL := h.W.L12
  have hH := h.W.H8
  obtain ⟨q1, h1, h2⟩ := lpw_R (F := f11_pack_27_L4 (nI b)) (fun i s => s.1 = nI i ∧ ∃ f, s.2 = sA m 27 f ∧ f b = m.1 28 ∧ f (b + 1) = m.1 29 ∧ f (b + 2) = m.1 30 ∧ (∀ k, k < i → f (b + 3 + k) = m.2 23 k ∧ f (b + 15 + k) = m.2 24 k) ∧ ∀ j, (j < b ∨ b + 43 ≤ j) → f j = m.2 27 j) (fun q => ∃ f, q = sA m 27 f ∧ f b = m.1 28 ∧ f (b + 1) = m.1 29 ∧ f (b + 2) = m.1 30 ∧ (∀ k, k < 12 → f (b + 3 + k) = m.2 23 k ∧ f (b + 15 + k) = m.2 24 k) ∧ ∀ j, (j < b ∨ b + 43 ≤ j) → f j = m.2 27 j) 12 (s := (0, sA m 27 (upd (upd (upd (m.2 27) b (m.1 28)) (b + 1) (m.1 29)) (b + 2) (m.1 30)))) (by
    rintro i ⟨j, _⟩ hi ⟨rfl, f, rfl, a1, a2, a3, a4, a5⟩
    unfold f11_pack_27_L4
    dsimp only
    rw [if_neg (show ¬ (12 : Int32) ≤ nI i from nI_ge hi (by decide)), sA_2n (j := 23) (k := 27) _ _ (by decide), ldO_n _ hi (by decide), Option.bind_some, show (3 : Int32) = nI 3 from rfl, show (12 : Int32) = nI 12 from rfl, nI_add, nI_add, nI_add, nI_add, stS_n _ _ _ (by omega) (by decide), Option.bind_some, sA_2e, sA_sA, sA_2n (j := 24) (k := 27) _ _ (by decide), ldO_n _ hi (by decide), Option.bind_some, stS_n _ _ _ (by omega) (by decide), Option.bind_some, sA_2e, sA_sA, nI_1]
    refine ⟨_, rfl, rfl, _, rfl, ?_, ?_, ?_, fun k hk => ⟨?_, ?_⟩, fun j hj => ?_⟩
    · rw [upd_n _ _ (by omega), upd_n _ _ (by omega), a1]
    · rw [upd_n _ _ (by omega), upd_n _ _ (by omega), a2]
    · rw [upd_n _ _ (by omega), upd_n _ _ (by omega), a3]
    · by_cases e : k = i
      · subst e; rw [upd_n _ _ (by omega), upd_e]
      · rw [upd_n _ _ (by omega), upd_n _ _ (by omega)]; exact (a4 k (by omega)).1
    · by_cases e : k = i
      · subst e; rw [show b + 15 + k = b + 3 + 12 + k by omega, upd_e]
      · rw [upd_n _ _ (by omega), upd_n _ _ (by omega)]; exact (a4 k (by omega)).2
    · rw [upd_n _ _ (by omega), upd_n _ _ (by omega), a5 j hj]) (by
    rintro ⟨j, _⟩ ⟨rfl, f, rfl, a1, a2, a3, a4, a5⟩
    exact ⟨_, if_pos (Int32.le_refl _), f, rfl, a1, a2, a3, a4, a5⟩) ⟨rfl, _, rfl, by rw [upd_n _ _ (by omega), upd_n _ _ (by omega), upd_e], by rw [upd_n _ _ (by omega), upd_e], by rw [upd_e], fun k hk => absurd hk (Nat.not_lt_zero k), fun j hj => by rw [upd_n _ _ (by omega), upd_n _ _ (by omega), upd_n _ _ (by omega)]⟩
  obtain ⟨f1, rfl, b1, b2, b3, b4, b5⟩ := h2
  obtain ⟨q2, h3, h4⟩ := lpw_R (F := f11_pack_27_L10 (nI b)) (fun i s => s.1 = nI i ∧ ∃ f, s.2 = sA m 27 f ∧ (f b = m.1 28 ∧ f (b + 1) = m.1 29 ∧ f (b + 2) = m.1 30) ∧ (∀ k, k < 12 → f (b + 3 + k) = m.2 23 k ∧ f (b + 15 + k) = m.2 24 k) ∧ (∀ k, k < i → f (b + 27 + k) = m.2 25 k ∧ f (b + 35 + k) = m.2 26 k) ∧ ∀ j, (j < b ∨ b + 43 ≤ j) → f j = m.2 27 j) (fun q => ∃ f, q = sA m 27 f ∧ (f b = m.1 28 ∧ f (b + 1) = m.1 29 ∧ f (b + 2) = m.1 30) ∧ (∀ k, k < 12 → f (b + 3 + k) = m.2 23 k ∧ f (b + 15 + k) = m.2 24 k) ∧ (∀ k, k < 8 → f (b + 27 + k) = m.2 25 k ∧ f (b + 35 + k) = m.2 26 k) ∧ ∀ j, (j < b ∨ b + 43 ≤ j) → f j = m.2 27 j) 8 (s := (0, sA m 27 f1)) (by
    rintro i ⟨j, _⟩ hi ⟨rfl, f, rfl, ⟨a1, a2, a3⟩, a4, a6, a5⟩
    unfold f11_pack_27_L10
    dsimp only
    rw [if_neg (show ¬ (8 : Int32) ≤ nI i from nI_ge hi (by decide)), sA_2n (j := 25) (k := 27) _ _ (by decide), ldO_n _ hi (by decide), Option.bind_some, show (3 : Int32) = nI 3 from rfl, show (24 : Int32) = nI 24 from rfl, show (8 : Int32) = nI 8 from rfl, nI_add, nI_add, nI_add, nI_add, nI_add, stS_n _ _ _ (by omega) (by decide), Option.bind_some, sA_2e, sA_sA, sA_2n (j := 26) (k := 27) _ _ (by decide), ldO_n _ hi (by decide), Option.bind_some, stS_n _ _ _ (by omega) (by decide), Option.bind_some, sA_2e, sA_sA, nI_1]
    refine ⟨_, rfl, rfl, _, rfl, ⟨?_, ?_, ?_⟩, fun k hk => ⟨?_, ?_⟩, fun k hk => ⟨?_, ?_⟩, fun j hj => ?_⟩
    · rw [upd_n _ _ (by omega), upd_n _ _ (by omega), a1]
    · rw [upd_n _ _ (by omega), upd_n _ _ (by omega), a2]
    · rw [upd_n _ _ (by omega), upd_n _ _ (by omega), a3]
    · rw [upd_n _ _ (by omega), upd_n _ _ (by omega)]; exact (a4 k hk).1
    · rw [upd_n _ _ (by omega), upd_n _ _ (by omega)]; exact (a4 k hk).2
    · by_cases e : k = i
      · subst e; rw [upd_n _ _ (by omega), show b + 27 + k = b + 3 + 24 + k by omega, upd_e]
      · rw [upd_n _ _ (by omega), upd_n _ _ (by omega)]; exact (a6 k (by omega)).1
    · by_cases e : k = i
      · subst e; rw [show b + 35 + k = b + 3 + 24 + 8 + k by omega, upd_e]
      · rw [upd_n _ _ (by omega), upd_n _ _ (by omega)]; exact (a6 k (by omega)).2
    · rw [upd_n _ _ (by omega), upd_n _ _ (by omega), a5 j hj]) (by
    rintro ⟨j, _⟩ ⟨rfl, f, rfl, a1, a4, a6, a5⟩
    exact ⟨_, if_pos (Int32.le_refl _), f, rfl, a1, a4, a6, a5⟩) ⟨rfl, f1, rfl, ⟨b1, b2, b3⟩, b4, fun k hk => absurd hk (Nat.not_lt_zero k), b5⟩
  obtain ⟨f2, rfl, ⟨c1, c2, c3⟩, c4, c6, c5⟩ := h4
  refine ⟨f2, ?_, ⟨c1.trans h.eo, by rw [c2]; exact h.eli, by rw [c3]; exact h.ebr, fun k hk => ⟨(c4 k (by omega)).1.trans (h.eoi hk), (c4 k (by omega)).2.trans (h.eho hk)⟩, fun k hk => ⟨(c6 k (by omega)).1.trans (h.ewa hk), (c6 k (by omega)).2.trans (h.esl hk)⟩⟩, c5⟩
  unfold f11_pack_27
  rw [stS_n _ _ _ (by omega) (by decide), Option.bind_some, sA_1, nI_1, stS_n _ _ _ (by omega) (by decide), Option.bind_some, sA_2e, sA_sA, sA_1, show (2 : Int32) = nI 2 from rfl, nI_add, stS_n _ _ _ (by omega) (by decide), Option.bind_some, sA_2e, sA_sA]
  show (lpw (f11_pack_27_L4 (nI b)) (0, sA m 27 (upd (upd (upd (m.2 27) b (m.1 28)) (b + 1) (m.1 29)) (b + 2) (m.1 30)))).bind _ = _
  rw [h1, Option.bind_some, h3, Option.bind_some]
theorem M_unpack_27 (h : RmT T m) (hS : Same T U) (hU : WfT U) {b : Nat} (hb : b + 43 ≤ 1720) (hp : PK U (m.2 27) b) : ∃ m', f11_unpack_27 m (nI b) = some m' ∧ Fr [28, 29, 30] [23, 24, 25, 26] m m' ∧ RmT U m' := by
  have hL := h.W.L12
  have hH := h.W.H8
  obtain ⟨e1, e2, e3, e4⟩ := hS
  obtain ⟨p1, p2, p3, p4, p5⟩ := hp
  obtain ⟨q1, h1, f1, g1, g2, g3, g4⟩ := lpw_R (F := f11_unpack_27_L7 (nI b)) (fun i s => s.1 = nI i ∧ Fr [28, 29, 30] [23, 24] m s.2 ∧ s.2.1 28 = m.2 27 b ∧ s.2.1 29 = m.2 27 (b + 1) ∧ s.2.1 30 = m.2 27 (b + 2) ∧ ∀ k, k < i → s.2.2 23 k = m.2 27 (b + 3 + k) ∧ s.2.2 24 k = m.2 27 (b + 15 + k)) (fun q => Fr [28, 29, 30] [23, 24] m q ∧ q.1 28 = m.2 27 b ∧ q.1 29 = m.2 27 (b + 1) ∧ q.1 30 = m.2 27 (b + 2) ∧ ∀ k, k < 12 → q.2 23 k = m.2 27 (b + 3 + k) ∧ q.2 24 k = m.2 27 (b + 15 + k)) 12 (s := (0, sS (sS (sS m 28 (m.2 27 b)) 29 (m.2 27 (b + 1))) 30 (m.2 27 (b + 2)))) (by
    rintro i ⟨j, q⟩ hi ⟨rfl, hfr, a1, a2, a3, a4⟩
    dsimp only at hfr a1 a2 a3 a4
    unfold f11_unpack_27_L7
    dsimp only
    rw [if_neg (show ¬ (12 : Int32) ≤ nI i from nI_ge hi (by decide)), show (3 : Int32) = nI 3 from rfl, show (12 : Int32) = nI 12 from rfl, nI_add, nI_add, nI_add, nI_add, ldO_n _ (by omega) (by decide), Option.bind_some, stS_n _ _ _ hi (by decide), Option.bind_some, sA_2n (j := 27) (k := 23) _ _ (by decide), ldO_n _ (by omega) (by decide), Option.bind_some, stS_n _ _ _ hi (by decide), Option.bind_some, hfr.2 27 (by decide), sA_2n (j := 24) (k := 23) _ _ (by decide), nI_1]
    refine ⟨_, rfl, rfl, hfr.trans ((Fr.sA q 23 _ (by decide)).trans (Fr.sA _ 24 _ (by decide))), a1, a2, a3, fun k hk => ⟨?_, ?_⟩⟩
    · show upd (q.2 23) i _ k = _
      by_cases e : k = i
      · subst e; rw [upd_e]
      · rw [upd_n _ _ e]; exact (a4 k (by omega)).1
    · show upd (q.2 24) i _ k = _
      by_cases e : k = i
      · subst e; rw [upd_e, show b + 3 + 12 + k = b + 15 + k by omega]
      · rw [upd_n _ _ e]; exact (a4 k (by omega)).2) (by
    rintro ⟨j, q⟩ ⟨rfl, hfr, a1, a2, a3, a4⟩
    exact ⟨_, if_pos (Int32.le_refl _), hfr, a1, a2, a3, a4⟩) ⟨rfl, (Fr.sS m 28 _ (by decide)).trans ((Fr.sS _ 29 _ (by decide)).trans (Fr.sS _ 30 _ (by decide))), rfl, rfl, rfl, fun k hk => absurd hk (Nat.not_lt_zero k)⟩
  obtain ⟨q2, h2, f2, g5⟩ := lpw_R (F := f11_unpack_27_L13 (nI b)) (fun i s => s.1 = nI i ∧ Fr [] [25, 26] q1 s.2 ∧ ∀ k, k < i → s.2.2 25 k = m.2 27 (b + 27 + k) ∧ s.2.2 26 k = m.2 27 (b + 35 + k)) (fun q => Fr [] [25, 26] q1 q ∧ ∀ k, k < 8 → q.2 25 k = m.2 27 (b + 27 + k) ∧ q.2 26 k = m.2 27 (b + 35 + k)) 8 (s := (0, q1)) (by
    rintro i ⟨j, q⟩ hi ⟨rfl, hfr, a4⟩
    dsimp only at hfr a4
    unfold f11_unpack_27_L13
    dsimp only
    rw [if_neg (show ¬ (8 : Int32) ≤ nI i from nI_ge hi (by decide)), show (3 : Int32) = nI 3 from rfl, show (24 : Int32) = nI 24 from rfl, show (8 : Int32) = nI 8 from rfl, nI_add, nI_add, nI_add, nI_add, nI_add, ldO_n _ (by omega) (by decide), Option.bind_some, stS_n _ _ _ hi (by decide), Option.bind_some, sA_2n (j := 27) (k := 25) _ _ (by decide), ldO_n _ (by omega) (by decide), Option.bind_some, stS_n _ _ _ hi (by decide), Option.bind_some, hfr.2 27 (by decide), f1.2 27 (by decide), sA_2n (j := 26) (k := 25) _ _ (by decide), nI_1]
    refine ⟨_, rfl, rfl, hfr.trans ((Fr.sA q 25 _ (by decide)).trans (Fr.sA _ 26 _ (by decide))), fun k hk => ⟨?_, ?_⟩⟩
    · show upd (q.2 25) i _ k = _
      by_cases e : k = i
      · subst e; rw [upd_e, show b + 3 + 24 + k = b + 27 + k by omega]
      · rw [upd_n _ _ e]; exact (a4 k (by omega)).1
    · show upd (q.2 26) i _ k = _
      by_cases e : k = i
      · subst e; rw [upd_e, show b + 3 + 24 + 8 + k = b + 35 + k by omega]
      · rw [upd_n _ _ e]; exact (a4 k (by omega)).2) (by
    rintro ⟨j, q⟩ ⟨rfl, hfr, a4⟩
    exact ⟨_, if_pos (Int32.le_refl _), hfr, a4⟩) ⟨rfl, Fr.refl _ _ _, fun k hk => absurd hk (Nat.not_lt_zero k)⟩
  have fr : Fr [28, 29, 30] [23, 24, 25, 26] m q2 := (f1.mono (by decide) (by decide)).trans (f2.mono (by decide) (by decide))
  refine ⟨q2, ?_, fr, hU, ?_⟩
  · unfold f11_unpack_27
    rw [ldO_n _ (by omega) (by decide), Option.bind_some, Option.bind_some, sS_2, nI_1, ldO_n _ (by omega) (by decide), Option.bind_some, Option.bind_some, sS_2, sS_2, show (2 : Int32) = nI 2 from rfl, nI_add, ldO_n _ (by omega) (by decide), Option.bind_some, Option.bind_some, h1, Option.bind_some, h2, Option.bind_some]
  · unfold TR
    rw [fr.2 3 (by decide), fr.2 4 (by decide), fr.2 9 (by decide), f2.1 28 (by decide), f2.1 29 (by decide), f2.1 30 (by decide), g1, g2, g3, f2.2 23 (by decide), f2.2 24 (by decide), ← e1, ← e2, ← e3, ← e4]
    rw [← e2] at p2 p3 p4
    rw [← e1] at p5
    exact ⟨h.eH, h.eL, p1, p2, p3, fun k hk => ⟨h.eki hk, (g5 k (by omega)).1.trans (p5 k hk).1, (g5 k (by omega)).2.trans (p5 k hk).2⟩, fun k hk => ⟨(g4 k (by omega)).2.trans (p4 k hk).2, (g4 k (by omega)).1.trans (p4 k hk).1, h.etw hk⟩⟩
theorem M_pack_39 (h : RmT T m) {b : Nat} (hb : b + 43 ≤ 43) : ∃ f, f11_pack_39 m (nI b) = some (sA m 39 f) ∧ PK T f b ∧ ∀ j, (j < b ∨ b + 43 ≤ j) → f j = m.2 39 j := by
  have hL := h.W.L12
  have hH := h.W.H8
  obtain ⟨q1, h1, h2⟩ := lpw_R (F := f11_pack_39_L4 (nI b)) (fun i s => s.1 = nI i ∧ ∃ f, s.2 = sA m 39 f ∧ f b = m.1 28 ∧ f (b + 1) = m.1 29 ∧ f (b + 2) = m.1 30 ∧ (∀ k, k < i → f (b + 3 + k) = m.2 23 k ∧ f (b + 15 + k) = m.2 24 k) ∧ ∀ j, (j < b ∨ b + 43 ≤ j) → f j = m.2 39 j) (fun q => ∃ f, q = sA m 39 f ∧ f b = m.1 28 ∧ f (b + 1) = m.1 29 ∧ f (b + 2) = m.1 30 ∧ (∀ k, k < 12 → f (b + 3 + k) = m.2 23 k ∧ f (b + 15 + k) = m.2 24 k) ∧ ∀ j, (j < b ∨ b + 43 ≤ j) → f j = m.2 39 j) 12 (s := (0, sA m 39 (upd (upd (upd (m.2 39) b (m.1 28)) (b + 1) (m.1 29)) (b + 2) (m.1 30)))) (by
    rintro i ⟨j, _⟩ hi ⟨rfl, f, rfl, a1, a2, a3, a4, a5⟩
    unfold f11_pack_39_L4
    dsimp only
    rw [if_neg (show ¬ (12 : Int32) ≤ nI i from nI_ge hi (by decide)), sA_2n (j := 23) (k := 39) _ _ (by decide), ldO_n _ hi (by decide), Option.bind_some, show (3 : Int32) = nI 3 from rfl, show (12 : Int32) = nI 12 from rfl, nI_add, nI_add, nI_add, nI_add, stS_n _ _ _ (by omega) (by decide), Option.bind_some, sA_2e, sA_sA, sA_2n (j := 24) (k := 39) _ _ (by decide), ldO_n _ hi (by decide), Option.bind_some, stS_n _ _ _ (by omega) (by decide), Option.bind_some, sA_2e, sA_sA, nI_1]
    refine ⟨_, rfl, rfl, _, rfl, ?_, ?_, ?_, fun k hk => ⟨?_, ?_⟩, fun j hj => ?_⟩
    · rw [upd_n _ _ (by omega), upd_n _ _ (by omega), a1]
    · rw [upd_n _ _ (by omega), upd_n _ _ (by omega), a2]
    · rw [upd_n _ _ (by omega), upd_n _ _ (by omega), a3]
    · by_cases e : k = i
      · subst e; rw [upd_n _ _ (by omega), upd_e]
      · rw [upd_n _ _ (by omega), upd_n _ _ (by omega)]; exact (a4 k (by omega)).1
    · by_cases e : k = i
      · subst e; rw [show b + 15 + k = b + 3 + 12 + k by omega, upd_e]
      · rw [upd_n _ _ (by omega), upd_n _ _ (by omega)]; exact (a4 k (by omega)).2
    · rw [upd_n _ _ (by omega), upd_n _ _ (by omega), a5 j hj]) (by
    rintro ⟨j, _⟩ ⟨rfl, f, rfl, a1, a2, a3, a4, a5⟩
    exact ⟨_, if_pos (Int32.le_refl _), f, rfl, a1, a2, a3, a4, a5⟩) ⟨rfl, _, rfl, by rw [upd_n _ _ (by omega), upd_n _ _ (by omega), upd_e], by rw [upd_n _ _ (by omega), upd_e], by rw [upd_e], fun k hk => absurd hk (Nat.not_lt_zero k), fun j hj => by rw [upd_n _ _ (by omega), upd_n _ _ (by omega), upd_n _ _ (by omega)]⟩
  obtain ⟨f1, rfl, b1, b2, b3, b4, b5⟩ := h2
  obtain ⟨q2, h3, h4⟩ := lpw_R (F := f11_pack_39_L10 (nI b)) (fun i s => s.1 = nI i ∧ ∃ f, s.2 = sA m 39 f ∧ (f b = m.1 28 ∧ f (b + 1) = m.1 29 ∧ f (b + 2) = m.1 30) ∧ (∀ k, k < 12 → f (b + 3 + k) = m.2 23 k ∧ f (b + 15 + k) = m.2 24 k) ∧ (∀ k, k < i → f (b + 27 + k) = m.2 25 k ∧ f (b + 35 + k) = m.2 26 k) ∧ ∀ j, (j < b ∨ b + 43 ≤ j) → f j = m.2 39 j) (fun q => ∃ f, q = sA m 39 f ∧ (f b = m.1 28 ∧ f (b + 1) = m.1 29 ∧ f (b + 2) = m.1 30) ∧ (∀ k, k < 12 → f (b + 3 + k) = m.2 23 k ∧ f (b + 15 + k) = m.2 24 k) ∧ (∀ k, k < 8 → f (b + 27 + k) = m.2 25 k ∧ f (b + 35 + k) = m.2 26 k) ∧ ∀ j, (j < b ∨ b + 43 ≤ j) → f j = m.2 39 j) 8 (s := (0, sA m 39 f1)) (by
    rintro i ⟨j, _⟩ hi ⟨rfl, f, rfl, ⟨a1, a2, a3⟩, a4, a6, a5⟩
    unfold f11_pack_39_L10
    dsimp only
    rw [if_neg (show ¬ (8 : Int32) ≤ nI i from nI_ge hi (by decide)), sA_2n (j := 25) (k := 39) _ _ (by decide), ldO_n _ hi (by decide), Option.bind_some, show (3 : Int32) = nI 3 from rfl, show (24 : Int32) = nI 24 from rfl, show (8 : Int32) = nI 8 from rfl, nI_add, nI_add, nI_add, nI_add, nI_add, stS_n _ _ _ (by omega) (by decide), Option.bind_some, sA_2e, sA_sA, sA_2n (j := 26) (k := 39) _ _ (by decide), ldO_n _ hi (by decide), Option.bind_some, stS_n _ _ _ (by omega) (by decide), Option.bind_some, sA_2e, sA_sA, nI_1]
    refine ⟨_, rfl, rfl, _, rfl, ⟨?_, ?_, ?_⟩, fun k hk => ⟨?_, ?_⟩, fun k hk => ⟨?_, ?_⟩, fun j hj => ?_⟩
    · rw [upd_n _ _ (by omega), upd_n _ _ (by omega), a1]
    · rw [upd_n _ _ (by omega), upd_n _ _ (by omega), a2]
    · rw [upd_n _ _ (by omega), upd_n _ _ (by omega), a3]
    · rw [upd_n _ _ (by omega), upd_n _ _ (by omega)]; exact (a4 k hk).1
    · rw [upd_n _ _ (by omega), upd_n _ _ (by omega)]; exact (a4 k hk).2
    · by_cases e : k = i
      · subst e; rw [upd_n _ _ (by omega), show b + 27 + k = b + 3 + 24 + k by omega, upd_e]
      · rw [upd_n _ _ (by omega), upd_n _ _ (by omega)]; exact (a6 k (by omega)).1
    · by_cases e : k = i
      · subst e; rw [show b + 35 + k = b + 3 + 24 + 8 + k by omega, upd_e]
      · rw [upd_n _ _ (by omega), upd_n _ _ (by omega)]; exact (a6 k (by omega)).2
    · rw [upd_n _ _ (by omega), upd_n _ _ (by omega), a5 j hj]) (by
    rintro ⟨j, _⟩ ⟨rfl, f, rfl, a1, a4, a6, a5⟩
    exact ⟨_, if_pos (Int32.le_refl _), f, rfl, a1, a4, a6, a5⟩) ⟨rfl, f1, rfl, ⟨b1, b2, b3⟩, b4, fun k hk => absurd hk (Nat.not_lt_zero k), b5⟩
  obtain ⟨f2, rfl, ⟨c1, c2, c3⟩, c4, c6, c5⟩ := h4
  refine ⟨f2, ?_, ⟨c1.trans h.eo, by rw [c2]; exact h.eli, by rw [c3]; exact h.ebr, fun k hk => ⟨(c4 k (by omega)).1.trans (h.eoi hk), (c4 k (by omega)).2.trans (h.eho hk)⟩, fun k hk => ⟨(c6 k (by omega)).1.trans (h.ewa hk), (c6 k (by omega)).2.trans (h.esl hk)⟩⟩, c5⟩
  unfold f11_pack_39
  rw [stS_n _ _ _ (by omega) (by decide), Option.bind_some, sA_1, nI_1, stS_n _ _ _ (by omega) (by decide), Option.bind_some, sA_2e, sA_sA, sA_1, show (2 : Int32) = nI 2 from rfl, nI_add, stS_n _ _ _ (by omega) (by decide), Option.bind_some, sA_2e, sA_sA]
  show (lpw (f11_pack_39_L4 (nI b)) (0, sA m 39 (upd (upd (upd (m.2 39) b (m.1 28)) (b + 1) (m.1 29)) (b + 2) (m.1 30)))).bind _ = _
  rw [h1, Option.bind_some, h3, Option.bind_some]
theorem M_unpack_39 (h : RmT T m) (hS : Same T U) (hU : WfT U) {b : Nat} (hb : b + 43 ≤ 43) (hp : PK U (m.2 39) b) : ∃ m', f11_unpack_39 m (nI b) = some m' ∧ Fr [28, 29, 30] [23, 24, 25, 26] m m' ∧ RmT U m' := by
  have hL := h.W.L12
  have hH := h.W.H8
  obtain ⟨e1, e2, e3, e4⟩ := hS
  obtain ⟨p1, p2, p3, p4, p5⟩ := hp
  obtain ⟨q1, h1, f1, g1, g2, g3, g4⟩ := lpw_R (F := f11_unpack_39_L7 (nI b)) (fun i s => s.1 = nI i ∧ Fr [28, 29, 30] [23, 24] m s.2 ∧ s.2.1 28 = m.2 39 b ∧ s.2.1 29 = m.2 39 (b + 1) ∧ s.2.1 30 = m.2 39 (b + 2) ∧ ∀ k, k < i → s.2.2 23 k = m.2 39 (b + 3 + k) ∧ s.2.2 24 k = m.2 39 (b + 15 + k)) (fun q => Fr [28, 29, 30] [23, 24] m q ∧ q.1 28 = m.2 39 b ∧ q.1 29 = m.2 39 (b + 1) ∧ q.1 30 = m.2 39 (b + 2) ∧ ∀ k, k < 12 → q.2 23 k = m.2 39 (b + 3 + k) ∧ q.2 24 k = m.2 39 (b + 15 + k)) 12 (s := (0, sS (sS (sS m 28 (m.2 39 b)) 29 (m.2 39 (b + 1))) 30 (m.2 39 (b + 2)))) (by
    rintro i ⟨j, q⟩ hi ⟨rfl, hfr, a1, a2, a3, a4⟩
    dsimp only at hfr a1 a2 a3 a4
    unfold f11_unpack_39_L7
    dsimp only
    rw [if_neg (show ¬ (12 : Int32) ≤ nI i from nI_ge hi (by decide)), show (3 : Int32) = nI 3 from rfl, show (12 : Int32) = nI 12 from rfl, nI_add, nI_add, nI_add, nI_add, ldO_n _ (by omega) (by decide), Option.bind_some, stS_n _ _ _ hi (by decide), Option.bind_some, sA_2n (j := 39) (k := 23) _ _ (by decide), ldO_n _ (by omega) (by decide), Option.bind_some, stS_n _ _ _ hi (by decide), Option.bind_some, hfr.2 39 (by decide), sA_2n (j := 24) (k := 23) _ _ (by decide), nI_1]
    refine ⟨_, rfl, rfl, hfr.trans ((Fr.sA q 23 _ (by decide)).trans (Fr.sA _ 24 _ (by decide))), a1, a2, a3, fun k hk => ⟨?_, ?_⟩⟩
    · show upd (q.2 23) i _ k = _
      by_cases e : k = i
      · subst e; rw [upd_e]
      · rw [upd_n _ _ e]; exact (a4 k (by omega)).1
    · show upd (q.2 24) i _ k = _
      by_cases e : k = i
      · subst e; rw [upd_e, show b + 3 + 12 + k = b + 15 + k by omega]
      · rw [upd_n _ _ e]; exact (a4 k (by omega)).2) (by
    rintro ⟨j, q⟩ ⟨rfl, hfr, a1, a2, a3, a4⟩
    exact ⟨_, if_pos (Int32.le_refl _), hfr, a1, a2, a3, a4⟩) ⟨rfl, (Fr.sS m 28 _ (by decide)).trans ((Fr.sS _ 29 _ (by decide)).trans (Fr.sS _ 30 _ (by decide))), rfl, rfl, rfl, fun k hk => absurd hk (Nat.not_lt_zero k)⟩
  obtain ⟨q2, h2, f2, g5⟩ := lpw_R (F := f11_unpack_39_L13 (nI b)) (fun i s => s.1 = nI i ∧ Fr [] [25, 26] q1 s.2 ∧ ∀ k, k < i → s.2.2 25 k = m.2 39 (b + 27 + k) ∧ s.2.2 26 k = m.2 39 (b + 35 + k)) (fun q => Fr [] [25, 26] q1 q ∧ ∀ k, k < 8 → q.2 25 k = m.2 39 (b + 27 + k) ∧ q.2 26 k = m.2 39 (b + 35 + k)) 8 (s := (0, q1)) (by
    rintro i ⟨j, q⟩ hi ⟨rfl, hfr, a4⟩
    dsimp only at hfr a4
    unfold f11_unpack_39_L13
    dsimp only
    rw [if_neg (show ¬ (8 : Int32) ≤ nI i from nI_ge hi (by decide)), show (3 : Int32) = nI 3 from rfl, show (24 : Int32) = nI 24 from rfl, show (8 : Int32) = nI 8 from rfl, nI_add, nI_add, nI_add, nI_add, nI_add, ldO_n _ (by omega) (by decide), Option.bind_some, stS_n _ _ _ hi (by decide), Option.bind_some, sA_2n (j := 39) (k := 25) _ _ (by decide), ldO_n _ (by omega) (by decide), Option.bind_some, stS_n _ _ _ hi (by decide), Option.bind_some, hfr.2 39 (by decide), f1.2 39 (by decide), sA_2n (j := 26) (k := 25) _ _ (by decide), nI_1]
    refine ⟨_, rfl, rfl, hfr.trans ((Fr.sA q 25 _ (by decide)).trans (Fr.sA _ 26 _ (by decide))), fun k hk => ⟨?_, ?_⟩⟩
    · show upd (q.2 25) i _ k = _
      by_cases e : k = i
      · subst e; rw [upd_e, show b + 3 + 24 + k = b + 27 + k by omega]
      · rw [upd_n _ _ e]; exact (a4 k (by omega)).1
    · show upd (q.2 26) i _ k = _
      by_cases e : k = i
      · subst e; rw [upd_e, show b + 3 + 24 + 8 + k = b + 35 + k by omega]
      · rw [upd_n _ _ e]; exact (a4 k (by omega)).2) (by
    rintro ⟨j, q⟩ ⟨rfl, hfr, a4⟩
    exact ⟨_, if_pos (Int32.le_refl _), hfr, a4⟩) ⟨rfl, Fr.refl _ _ _, fun k hk => absurd hk (Nat.not_lt_zero k)⟩
  have fr : Fr [28, 29, 30] [23, 24, 25, 26] m q2 := (f1.mono (by decide) (by decide)).trans (f2.mono (by decide) (by decide))
  refine ⟨q2, ?_, fr, hU, ?_⟩
  · unfold f11_unpack_39
    rw [ldO_n _ (by omega) (by decide), Option.bind_some, Option.bind_some, sS_2, nI_1, ldO_n _ (by omega) (by decide), Option.bind_some, Option.bind_some, sS_2, sS_2, show (2 : Int32) = nI 2 from rfl, nI_add, ldO_n _ (by omega) (by decide), Option.bind_some, Option.bind_some, h1, Option.bind_some, h2, Option.bind_some]
  · unfold TR
    rw [fr.2 3 (by decide), fr.2 4 (by decide), fr.2 9 (by decide), f2.1 28 (by decide), f2.1 29 (by decide), f2.1 30 (by decide), g1, g2, g3, f2.2 23 (by decide), f2.2 24 (by decide), ← e1, ← e2, ← e3, ← e4]
    rw [← e2] at p2 p3 p4
    rw [← e1] at p5
    exact ⟨h.eH, h.eL, p1, p2, p3, fun k hk => ⟨h.eki hk, (g5 k (by omega)).1.trans (p5 k hk).1, (g5 k (by omega)).2.trans (p5 k hk).2⟩, fun k hk => ⟨(g4 k (by omega)).2.trans (p4 k hk).2, (g4 k (by omega)).1.trans (p4 k hk).1, h.etw hk⟩⟩
theorem M_pack_46 (h : RmT T m) {b : Nat} (hb : b + 43 ≤ 43) : ∃ f, f11_pack_46 m (nI b) = some (sA m 46 f) ∧ PK T f b ∧ ∀ j, (j < b ∨ b + 43 ≤ j) → f j = m.2 46 j := by
  have hL := h.W.L12
  have hH := h.W.H8
  obtain ⟨q1, h1, h2⟩ := lpw_R (F := f11_pack_46_L4 (nI b)) (fun i s => s.1 = nI i ∧ ∃ f, s.2 = sA m 46 f ∧ f b = m.1 28 ∧ f (b + 1) = m.1 29 ∧ f (b + 2) = m.1 30 ∧ (∀ k, k < i → f (b + 3 + k) = m.2 23 k ∧ f (b + 15 + k) = m.2 24 k) ∧ ∀ j, (j < b ∨ b + 43 ≤ j) → f j = m.2 46 j) (fun q => ∃ f, q = sA m 46 f ∧ f b = m.1 28 ∧ f (b + 1) = m.1 29 ∧ f (b + 2) = m.1 30 ∧ (∀ k, k < 12 → f (b + 3 + k) = m.2 23 k ∧ f (b + 15 + k) = m.2 24 k) ∧ ∀ j, (j < b ∨ b + 43 ≤ j) → f j = m.2 46 j) 12 (s := (0, sA m 46 (upd (upd (upd (m.2 46) b (m.1 28)) (b + 1) (m.1 29)) (b + 2) (m.1 30)))) (by
    rintro i ⟨j, _⟩ hi ⟨rfl, f, rfl, a1, a2, a3, a4, a5⟩
    unfold f11_pack_46_L4
    dsimp only
    rw [if_neg (show ¬ (12 : Int32) ≤ nI i from nI_ge hi (by decide)), sA_2n (j := 23) (k := 46) _ _ (by decide), ldO_n _ hi (by decide), Option.bind_some, show (3 : Int32) = nI 3 from rfl, show (12 : Int32) = nI 12 from rfl, nI_add, nI_add, nI_add, nI_add, stS_n _ _ _ (by omega) (by decide), Option.bind_some, sA_2e, sA_sA, sA_2n (j := 24) (k := 46) _ _ (by decide), ldO_n _ hi (by decide), Option.bind_some, stS_n _ _ _ (by omega) (by decide), Option.bind_some, sA_2e, sA_sA, nI_1]
    refine ⟨_, rfl, rfl, _, rfl, ?_, ?_, ?_, fun k hk => ⟨?_, ?_⟩, fun j hj => ?_⟩
    · rw [upd_n _ _ (by omega), upd_n _ _ (by omega), a1]
    · rw [upd_n _ _ (by omega), upd_n _ _ (by omega), a2]
    · rw [upd_n _ _ (by omega), upd_n _ _ (by omega), a3]
    · by_cases e : k = i
      · subst e; rw [upd_n _ _ (by omega), upd_e]
      · rw [upd_n _ _ (by omega), upd_n _ _ (by omega)]; exact (a4 k (by omega)).1
    · by_cases e : k = i
      · subst e; rw [show b + 15 + k = b + 3 + 12 + k by omega, upd_e]
      · rw [upd_n _ _ (by omega), upd_n _ _ (by omega)]; exact (a4 k (by omega)).2
    · rw [upd_n _ _ (by omega), upd_n _ _ (by omega), a5 j hj]) (by
    rintro ⟨j, _⟩ ⟨rfl, f, rfl, a1, a2, a3, a4, a5⟩
    exact ⟨_, if_pos (Int32.le_refl _), f, rfl, a1, a2, a3, a4, a5⟩) ⟨rfl, _, rfl, by rw [upd_n _ _ (by omega), upd_n _ _ (by omega), upd_e], by rw [upd_n _ _ (by omega), upd_e], by rw [upd_e], fun k hk => absurd hk (Nat.not_lt_zero k), fun j hj => by rw [upd_n _ _ (by omega), upd_n _ _ (by omega), upd_n _ _ (by omega)]⟩
  obtain ⟨f1, rfl, b1, b2, b3, b4, b5⟩ := h2
  obtain ⟨q2, h3, h4⟩ := lpw_R (F := f11_pack_46_L10 (nI b)) (fun i s => s.1 = nI i ∧ ∃ f, s.2 = sA m 46 f ∧ (f b = m.1 28 ∧ f (b + 1) = m.1 29 ∧ f (b + 2) = m.1 30) ∧ (∀ k, k < 12 → f (b + 3 + k) = m.2 23 k ∧ f (b + 15 + k) = m.2 24 k) ∧ (∀ k, k < i → f (b + 27 + k) = m.2 25 k ∧ f (b + 35 + k) = m.2 26 k) ∧ ∀ j, (j < b ∨ b + 43 ≤ j) → f j = m.2 46 j) (fun q => ∃ f, q = sA m 46 f ∧ (f b = m.1 28 ∧ f (b + 1) = m.1 29 ∧ f (b + 2) = m.1 30) ∧ (∀ k, k < 12 → f (b + 3 + k) = m.2 23 k ∧ f (b + 15 + k) = m.2 24 k) ∧ (∀ k, k < 8 → f (b + 27 + k) = m.2 25 k ∧ f (b + 35 + k) = m.2 26 k) ∧ ∀ j, (j < b ∨ b + 43 ≤ j) → f j = m.2 46 j) 8 (s := (0, sA m 46 f1)) (by
    rintro i ⟨j, _⟩ hi ⟨rfl, f, rfl, ⟨a1, a2, a3⟩, a4, a6, a5⟩
    unfold f11_pack_46_L10
    dsimp only
    rw [if_neg (show ¬ (8 : Int32) ≤ nI i from nI_ge hi (by decide)), sA_2n (j := 25) (k := 46) _ _ (by decide), ldO_n _ hi (by decide), Option.bind_some, show (3 : Int32) = nI 3 from rfl, show (24 : Int32) = nI 24 from rfl, show (8 : Int32) = nI 8 from rfl, nI_add, nI_add, nI_add, nI_add, nI_add, stS_n _ _ _ (by omega) (by decide), Option.bind_some, sA_2e, sA_sA, sA_2n (j := 26) (k := 46) _ _ (by decide), ldO_n _ hi (by decide), Option.bind_some, stS_n _ _ _ (by omega) (by decide), Option.bind_some, sA_2e, sA_sA, nI_1]
    refine ⟨_, rfl, rfl, _, rfl, ⟨?_, ?_, ?_⟩, fun k hk => ⟨?_, ?_⟩, fun k hk => ⟨?_, ?_⟩, fun j hj => ?_⟩
    · rw [upd_n _ _ (by omega), upd_n _ _ (by omega), a1]
    · rw [upd_n _ _ (by omega), upd_n _ _ (by omega), a2]
    · rw [upd_n _ _ (by omega), upd_n _ _ (by omega), a3]
    · rw [upd_n _ _ (by omega), upd_n _ _ (by omega)]; exact (a4 k hk).1
    · rw [upd_n _ _ (by omega), upd_n _ _ (by omega)]; exact (a4 k hk).2
    · by_cases e : k = i
      · subst e; rw [upd_n _ _ (by omega), show b + 27 + k = b + 3 + 24 + k by omega, upd_e]
      · rw [upd_n _ _ (by omega), upd_n _ _ (by omega)]; exact (a6 k (by omega)).1
    · by_cases e : k = i
      · subst e; rw [show b + 35 + k = b + 3 + 24 + 8 + k by omega, upd_e]
      · rw [upd_n _ _ (by omega), upd_n _ _ (by omega)]; exact (a6 k (by omega)).2
    · rw [upd_n _ _ (by omega), upd_n _ _ (by omega), a5 j hj]) (by
    rintro ⟨j, _⟩ ⟨rfl, f, rfl, a1, a4, a6, a5⟩
    exact ⟨_, if_pos (Int32.le_refl _), f, rfl, a1, a4, a6, a5⟩) ⟨rfl, f1, rfl, ⟨b1, b2, b3⟩, b4, fun k hk => absurd hk (Nat.not_lt_zero k), b5⟩
  obtain ⟨f2, rfl, ⟨c1, c2, c3⟩, c4, c6, c5⟩ := h4
  refine ⟨f2, ?_, ⟨c1.trans h.eo, by rw [c2]; exact h.eli, by rw [c3]; exact h.ebr, fun k hk => ⟨(c4 k (by omega)).1.trans (h.eoi hk), (c4 k (by omega)).2.trans (h.eho hk)⟩, fun k hk => ⟨(c6 k (by omega)).1.trans (h.ewa hk), (c6 k (by omega)).2.trans (h.esl hk)⟩⟩, c5⟩
  unfold f11_pack_46
  rw [stS_n _ _ _ (by omega) (by decide), Option.bind_some, sA_1, nI_1, stS_n _ _ _ (by omega) (by decide), Option.bind_some, sA_2e, sA_sA, sA_1, show (2 : Int32) = nI 2 from rfl, nI_add, stS_n _ _ _ (by omega) (by decide), Option.bind_some, sA_2e, sA_sA]
  show (lpw (f11_pack_46_L4 (nI b)) (0, sA m 46 (upd (upd (upd (m.2 46) b (m.1 28)) (b + 1) (m.1 29)) (b + 2) (m.1 30)))).bind _ = _
  rw [h1, Option.bind_some, h3, Option.bind_some]
theorem M_unpack_46 (h : RmT T m) (hS : Same T U) (hU : WfT U) {b : Nat} (hb : b + 43 ≤ 43) (hp : PK U (m.2 46) b) : ∃ m', f11_unpack_46 m (nI b) = some m' ∧ Fr [28, 29, 30] [23, 24, 25, 26] m m' ∧ RmT U m' := by
  have hL := h.W.L12
  have hH := h.W.H8
  obtain ⟨e1, e2, e3, e4⟩ := hS
  obtain ⟨p1, p2, p3, p4, p5⟩ := hp
  obtain ⟨q1, h1, f1, g1, g2, g3, g4⟩ := lpw_R (F := f11_unpack_46_L7 (nI b)) (fun i s => s.1 = nI i ∧ Fr [28, 29, 30] [23, 24] m s.2 ∧ s.2.1 28 = m.2 46 b ∧ s.2.1 29 = m.2 46 (b + 1) ∧ s.2.1 30 = m.2 46 (b + 2) ∧ ∀ k, k < i → s.2.2 23 k = m.2 46 (b + 3 + k) ∧ s.2.2 24 k = m.2 46 (b + 15 + k)) (fun q => Fr [28, 29, 30] [23, 24] m q ∧ q.1 28 = m.2 46 b ∧ q.1 29 = m.2 46 (b + 1) ∧ q.1 30 = m.2 46 (b + 2) ∧ ∀ k, k < 12 → q.2 23 k = m.2 46 (b + 3 + k) ∧ q.2 24 k = m.2 46 (b + 15 + k)) 12 (s := (0, sS (sS (sS m 28 (m.2 46 b)) 29 (m.2 46 (b + 1))) 30 (m.2 46 (b + 2)))) (by
    rintro i ⟨j, q⟩ hi ⟨rfl, hfr, a1, a2, a3, a4⟩
    dsimp only at hfr a1 a2 a3 a4
    unfold f11_unpack_46_L7
    dsimp only
    rw [if_neg (show ¬ (12 : Int32) ≤ nI i from nI_ge hi (by decide)), show (3 : Int32) = nI 3 from rfl, show (12 : Int32) = nI 12 from rfl, nI_add, nI_add, nI_add, nI_add, ldO_n _ (by omega) (by decide), Option.bind_some, stS_n _ _ _ hi (by decide), Option.bind_some, sA_2n (j := 46) (k := 23) _ _ (by decide), ldO_n _ (by omega) (by decide), Option.bind_some, stS_n _ _ _ hi (by decide), Option.bind_some, hfr.2 46 (by decide), sA_2n (j := 24) (k := 23) _ _ (by decide), nI_1]
    refine ⟨_, rfl, rfl, hfr.trans ((Fr.sA q 23 _ (by decide)).trans (Fr.sA _ 24 _ (by decide))), a1, a2, a3, fun k hk => ⟨?_, ?_⟩⟩
    · show upd (q.2 23) i _ k = _
      by_cases e : k = i
      · subst e; rw [upd_e]
      · rw [upd_n _ _ e]; exact (a4 k (by omega)).1
    · show upd (q.2 24) i _ k = _
      by_cases e : k = i
      · subst e; rw [upd_e, show b + 3 + 12 + k = b + 15 + k by omega]
      · rw [upd_n _ _ e]; exact (a4 k (by omega)).2) (by
    rintro ⟨j, q⟩ ⟨rfl, hfr, a1, a2, a3, a4⟩
    exact ⟨_, if_pos (Int32.le_refl _), hfr, a1, a2, a3, a4⟩) ⟨rfl, (Fr.sS m 28 _ (by decide)).trans ((Fr.sS _ 29 _ (by decide)).trans (Fr.sS _ 30 _ (by decide))), rfl, rfl, rfl, fun k hk => absurd hk (Nat.not_lt_zero k)⟩
  obtain ⟨q2, h2, f2, g5⟩ := lpw_R (F := f11_unpack_46_L13 (nI b)) (fun i s => s.1 = nI i ∧ Fr [] [25, 26] q1 s.2 ∧ ∀ k, k < i → s.2.2 25 k = m.2 46 (b + 27 + k) ∧ s.2.2 26 k = m.2 46 (b + 35 + k)) (fun q => Fr [] [25, 26] q1 q ∧ ∀ k, k < 8 → q.2 25 k = m.2 46 (b + 27 + k) ∧ q.2 26 k = m.2 46 (b + 35 + k)) 8 (s := (0, q1)) (by
    rintro i ⟨j, q⟩ hi ⟨rfl, hfr, a4⟩
    dsimp only at hfr a4
    unfold f11_unpack_46_L13
    dsimp only
    rw [if_neg (show ¬ (8 : Int32) ≤ nI i from nI_ge hi (by decide)), show (3 : Int32) = nI 3 from rfl, show (24 : Int32) = nI 24 from rfl, show (8 : Int32) = nI 8 from rfl, nI_add, nI_add, nI_add, nI_add, nI_add, ldO_n _ (by omega) (by decide), Option.bind_some, stS_n _ _ _ hi (by decide), Option.bind_some, sA_2n (j := 46) (k := 25) _ _ (by decide), ldO_n _ (by omega) (by decide), Option.bind_some, stS_n _ _ _ hi (by decide), Option.bind_some, hfr.2 46 (by decide), f1.2 46 (by decide), sA_2n (j := 26) (k := 25) _ _ (by decide), nI_1]
    refine ⟨_, rfl, rfl, hfr.trans ((Fr.sA q 25 _ (by decide)).trans (Fr.sA _ 26 _ (by decide))), fun k hk => ⟨?_, ?_⟩⟩
    · show upd (q.2 25) i _ k = _
      by_cases e : k = i
      · subst e; rw [upd_e, show b + 3 + 24 + k = b + 27 + k by omega]
      · rw [upd_n _ _ e]; exact (a4 k (by omega)).1
    · show upd (q.2 26) i _ k = _
      by_cases e : k = i
      · subst e; rw [upd_e, show b + 3 + 24 + 8 + k = b + 35 + k by omega]
      · rw [upd_n _ _ e]; exact (a4 k (by omega)).2) (by
    rintro ⟨j, q⟩ ⟨rfl, hfr, a4⟩
    exact ⟨_, if_pos (Int32.le_refl _), hfr, a4⟩) ⟨rfl, Fr.refl _ _ _, fun k hk => absurd hk (Nat.not_lt_zero k)⟩
  have fr : Fr [28, 29, 30] [23, 24, 25, 26] m q2 := (f1.mono (by decide) (by decide)).trans (f2.mono (by decide) (by decide))
  refine ⟨q2, ?_, fr, hU, ?_⟩
  · unfold f11_unpack_46
    rw [ldO_n _ (by omega) (by decide), Option.bind_some, Option.bind_some, sS_2, nI_1, ldO_n _ (by omega) (by decide), Option.bind_some, Option.bind_some, sS_2, sS_2, show (2 : Int32) = nI 2 from rfl, nI_add, ldO_n _ (by omega) (by decide), Option.bind_some, Option.bind_some, h1, Option.bind_some, h2, Option.bind_some]
  · unfold TR
    rw [fr.2 3 (by decide), fr.2 4 (by decide), fr.2 9 (by decide), f2.1 28 (by decide), f2.1 29 (by decide), f2.1 30 (by decide), g1, g2, g3, f2.2 23 (by decide), f2.2 24 (by decide), ← e1, ← e2, ← e3, ← e4]
    rw [← e2] at p2 p3 p4
    rw [← e1] at p5
    exact ⟨h.eH, h.eL, p1, p2, p3, fun k hk => ⟨h.eki hk, (g5 k (by omega)).1.trans (p5 k hk).1, (g5 k (by omega)).2.trans (p5 k hk).2⟩, fun k hk => ⟨(g4 k (by omega)).2.trans (p4 k hk).2, (g4 k (by omega)).1.trans (p4 k hk).1, h.etw hk⟩⟩
theorem M_pack_52 (h : RmT T m) {b : Nat} (hb : b + 43 ≤ 43) : ∃ f, f11_pack_52 m (nI b) = some (sA m 52 f) ∧ PK T f b ∧ ∀ j, (j < b ∨ b + 43 ≤ j) → f j = m.2 52 j := by
  have hL := h.W.L12
  have hH := h.W.H8
  obtain ⟨q1, h1, h2⟩ := lpw_R (F := f11_pack_52_L4 (nI b)) (fun i s => s.1 = nI i ∧ ∃ f, s.2 = sA m 52 f ∧ f b = m.1 28 ∧ f (b + 1) = m.1 29 ∧ f (b + 2) = m.1 30 ∧ (∀ k, k < i → f (b + 3 + k) = m.2 23 k ∧ f (b + 15 + k) = m.2 24 k) ∧ ∀ j, (j < b ∨ b + 43 ≤ j) → f j = m.2 52 j) (fun q => ∃ f, q = sA m 52 f ∧ f b = m.1 28 ∧ f (b + 1) = m.1 29 ∧ f (b + 2) = m.1 30 ∧ (∀ k, k < 12 → f (b + 3 + k) = m.2 23 k ∧ f (b + 15 + k) = m.2 24 k) ∧ ∀ j, (j < b ∨ b + 43 ≤ j) → f j = m.2 52 j) 12 (s := (0, sA m 52 (upd (upd (upd (m.2 52) b (m.1 28)) (b + 1) (m.1 29)) (b + 2) (m.1 30)))) (by
    rintro i ⟨j, _⟩ hi ⟨rfl, f, rfl, a1, a2, a3, a4, a5⟩
    unfold f11_pack_52_L4
    dsimp only
    rw [if_neg (show ¬ (12 : Int32) ≤ nI i from nI_ge hi (by decide)), sA_2n (j := 23) (k := 52) _ _ (by decide), ldO_n _ hi (by decide), Option.bind_some, show (3 : Int32) = nI 3 from rfl, show (12 : Int32) = nI 12 from rfl, nI_add, nI_add, nI_add, nI_add, stS_n _ _ _ (by omega) (by decide), Option.bind_some, sA_2e, sA_sA, sA_2n (j := 24) (k := 52) _ _ (by decide), ldO_n _ hi (by decide), Option.bind_some, stS_n _ _ _ (by omega) (by decide), Option.bind_some, sA_2e, sA_sA, nI_1]
    refine ⟨_, rfl, rfl, _, rfl, ?_, ?_, ?_, fun k hk => ⟨?_, ?_⟩, fun j hj => ?_⟩
    · rw [upd_n _ _ (by omega), upd_n _ _ (by omega), a1]
    · rw [upd_n _ _ (by omega), upd_n _ _ (by omega), a2]
    · rw [upd_n _ _ (by omega), upd_n _ _ (by omega), a3]
    · by_cases e : k = i
      · subst e; rw [upd_n _ _ (by omega), upd_e]
      · rw [upd_n _ _ (by omega), upd_n _ _ (by omega)]; exact (a4 k (by omega)).1
    · by_cases e : k = i
      · subst e; rw [show b + 15 + k = b + 3 + 12 + k by omega, upd_e]
      · rw [upd_n _ _ (by omega), upd_n _ _ (by omega)]; exact (a4 k (by omega)).2
    · rw [upd_n _ _ (by omega), upd_n _ _ (by omega), a5 j hj]) (by
    rintro ⟨j, _⟩ ⟨rfl, f, rfl, a1, a2, a3, a4, a5⟩
    exact ⟨_, if_pos (Int32.le_refl _), f, rfl, a1, a2, a3, a4, a5⟩) ⟨rfl, _, rfl, by rw [upd_n _ _ (by omega), upd_n _ _ (by omega), upd_e], by rw [upd_n _ _ (by omega), upd_e], by rw [upd_e], fun k hk => absurd hk (Nat.not_lt_zero k), fun j hj => by rw [upd_n _ _ (by omega), upd_n _ _ (by omega), upd_n _ _ (by omega)]⟩
  obtain ⟨f1, rfl, b1, b2, b3, b4, b5⟩ := h2
  obtain ⟨q2, h3, h4⟩ := lpw_R (F := f11_pack_52_L10 (nI b)) (fun i s => s.1 = nI i ∧ ∃ f, s.2 = sA m 52 f ∧ (f b = m.1 28 ∧ f (b + 1) = m.1 29 ∧ f (b + 2) = m.1 30) ∧ (∀ k, k < 12 → f (b + 3 + k) = m.2 23 k ∧ f (b + 15 + k) = m.2 24 k) ∧ (∀ k, k < i → f (b + 27 + k) = m.2 25 k ∧ f (b + 35 + k) = m.2 26 k) ∧ ∀ j, (j < b ∨ b + 43 ≤ j) → f j = m.2 52 j) (fun q => ∃ f, q = sA m 52 f ∧ (f b = m.1 28 ∧ f (b + 1) = m.1 29 ∧ f (b + 2) = m.1 30) ∧ (∀ k, k < 12 → f (b + 3 + k) = m.2 23 k ∧ f (b + 15 + k) = m.2 24 k) ∧ (∀ k, k < 8 → f (b + 27 + k) = m.2 25 k ∧ f (b + 35 + k) = m.2 26 k) ∧ ∀ j, (j < b ∨ b + 43 ≤ j) → f j = m.2 52 j) 8 (s := (0, sA m 52 f1)) (by
    rintro i ⟨j, _⟩ hi ⟨rfl, f, rfl, ⟨a1, a2, a3⟩, a4, a6, a5⟩
    unfold f11_pack_52_L10
    dsimp only
    rw [if_neg (show ¬ (8 : Int32) ≤ nI i from nI_ge hi (by decide)), sA_2n (j := 25) (k := 52) _ _ (by decide), ldO_n _ hi (by decide), Option.bind_some, show (3 : Int32) = nI 3 from rfl, show (24 : Int32) = nI 24 from rfl, show (8 : Int32) = nI 8 from rfl, nI_add, nI_add, nI_add, nI_add, nI_add, stS_n _ _ _ (by omega) (by decide), Option.bind_some, sA_2e, sA_sA, sA_2n (j := 26) (k := 52) _ _ (by decide), ldO_n _ hi (by decide), Option.bind_some, stS_n _ _ _ (by omega) (by decide), Option.bind_some, sA_2e, sA_sA, nI_1]
    refine ⟨_, rfl, rfl, _, rfl, ⟨?_, ?_, ?_⟩, fun k hk => ⟨?_, ?_⟩, fun k hk => ⟨?_, ?_⟩, fun j hj => ?_⟩
    · rw [upd_n _ _ (by omega), upd_n _ _ (by omega), a1]
    · rw [upd_n _ _ (by omega), upd_n _ _ (by omega), a2]
    · rw [upd_n _ _ (by omega), upd_n _ _ (by omega), a3]
    · rw [upd_n _ _ (by omega), upd_n _ _ (by omega)]; exact (a4 k hk).1
    · rw [upd_n _ _ (by omega), upd_n _ _ (by omega)]; exact (a4 k hk).2
    · by_cases e : k = i
      · subst e; rw [upd_n _ _ (by omega), show b + 27 + k = b + 3 + 24 + k by omega, upd_e]
      · rw [upd_n _ _ (by omega), upd_n _ _ (by omega)]; exact (a6 k (by omega)).1
    · by_cases e : k = i
      · subst e; rw [show b + 35 + k = b + 3 + 24 + 8 + k by omega, upd_e]
      · rw [upd_n _ _ (by omega), upd_n _ _ (by omega)]; exact (a6 k (by omega)).2
    · rw [upd_n _ _ (by omega), upd_n _ _ (by omega), a5 j hj]) (by
    rintro ⟨j, _⟩ ⟨rfl, f, rfl, a1, a4, a6, a5⟩
    exact ⟨_, if_pos (Int32.le_refl _), f, rfl, a1, a4, a6, a5⟩) ⟨rfl, f1, rfl, ⟨b1, b2, b3⟩, b4, fun k hk => absurd hk (Nat.not_lt_zero k), b5⟩
  obtain ⟨f2, rfl, ⟨c1, c2, c3⟩, c4, c6, c5⟩ := h4
  refine ⟨f2, ?_, ⟨c1.trans h.eo, by rw [c2]; exact h.eli, by rw [c3]; exact h.ebr, fun k hk => ⟨(c4 k (by omega)).1.trans (h.eoi hk), (c4 k (by omega)).2.trans (h.eho hk)⟩, fun k hk => ⟨(c6 k (by omega)).1.trans (h.ewa hk), (c6 k (by omega)).2.trans (h.esl hk)⟩⟩, c5⟩
  unfold f11_pack_52
  rw [stS_n _ _ _ (by omega) (by decide), Option.bind_some, sA_1, nI_1, stS_n _ _ _ (by omega) (by decide), Option.bind_some, sA_2e, sA_sA, sA_1, show (2 : Int32) = nI 2 from rfl, nI_add, stS_n _ _ _ (by omega) (by decide), Option.bind_some, sA_2e, sA_sA]
  show (lpw (f11_pack_52_L4 (nI b)) (0, sA m 52 (upd (upd (upd (m.2 52) b (m.1 28)) (b + 1) (m.1 29)) (b + 2) (m.1 30)))).bind _ = _
  rw [h1, Option.bind_some, h3, Option.bind_some]
theorem M_unpack_52 (h : RmT T m) (hS : Same T U) (hU : WfT U) {b : Nat} (hb : b + 43 ≤ 43) (hp : PK U (m.2 52) b) : ∃ m', f11_unpack_52 m (nI b) = some m' ∧ Fr [28, 29, 30] [23, 24, 25, 26] m m' ∧ RmT U m' := by
  have hL := h.W.L12
  have hH := h.W.H8
  obtain ⟨e1, e2, e3, e4⟩ := hS
  obtain ⟨p1, p2, p3, p4, p5⟩ := hp
  obtain ⟨q1, h1, f1, g1, g2, g3, g4⟩ := lpw_R (F := f11_unpack_52_L7 (nI b)) (fun i s => s.1 = nI i ∧ Fr [28, 29, 30] [23, 24] m s.2 ∧ s.2.1 28 = m.2 52 b ∧ s.2.1 29 = m.2 52 (b + 1) ∧ s.2.1 30 = m.2 52 (b + 2) ∧ ∀ k, k < i → s.2.2 23 k = m.2 52 (b + 3 + k) ∧ s.2.2 24 k = m.2 52 (b + 15 + k)) (fun q => Fr [28, 29, 30] [23, 24] m q ∧ q.1 28 = m.2 52 b ∧ q.1 29 = m.2 52 (b + 1) ∧ q.1 30 = m.2 52 (b + 2) ∧ ∀ k, k < 12 → q.2 23 k = m.2 52 (b + 3 + k) ∧ q.2 24 k = m.2 52 (b + 15 + k)) 12 (s := (0, sS (sS (sS m 28 (m.2 52 b)) 29 (m.2 52 (b + 1))) 30 (m.2 52 (b + 2)))) (by
    rintro i ⟨j, q⟩ hi ⟨rfl, hfr, a1, a2, a3, a4⟩
    dsimp only at hfr a1 a2 a3 a4
    unfold f11_unpack_52_L7
    dsimp only
    rw [if_neg (show ¬ (12 : Int32) ≤ nI i from nI_ge hi (by decide)), show (3 : Int32) = nI 3 from rfl, show (12 : Int32) = nI 12 from rfl, nI_add, nI_add, nI_add, nI_add, ldO_n _ (by omega) (by decide), Option.bind_some, stS_n _ _ _ hi (by decide), Option.bind_some, sA_2n (j := 52) (k := 23) _ _ (by decide), ldO_n _ (by omega) (by decide), Option.bind_some, stS_n _ _ _ hi (by decide), Option.bind_some, hfr.2 52 (by decide), sA_2n (j := 24) (k := 23) _ _ (by decide), nI_1]
    refine ⟨_, rfl, rfl, hfr.trans ((Fr.sA q 23 _ (by decide)).trans (Fr.sA _ 24 _ (by decide))), a1, a2, a3, fun k hk => ⟨?_, ?_⟩⟩
    · show upd (q.2 23) i _ k = _
      by_cases e : k = i
      · subst e; rw [upd_e]
      · rw [upd_n _ _ e]; exact (a4 k (by omega)).1
    · show upd (q.2 24) i _ k = _
      by_cases e : k = i
      · subst e; rw [upd_e, show b + 3 + 12 + k = b + 15 + k by omega]
      · rw [upd_n _ _ e]; exact (a4 k (by omega)).2) (by
    rintro ⟨j, q⟩ ⟨rfl, hfr, a1, a2, a3, a4⟩
    exact ⟨_, if_pos (Int32.le_refl _), hfr, a1, a2, a3, a4⟩) ⟨rfl, (Fr.sS m 28 _ (by decide)).trans ((Fr.sS _ 29 _ (by decide)).trans (Fr.sS _ 30 _ (by decide))), rfl, rfl, rfl, fun k hk => absurd hk (Nat.not_lt_zero k)⟩
  obtain ⟨q2, h2, f2, g5⟩ := lpw_R (F := f11_unpack_52_L13 (nI b)) (fun i s => s.1 = nI i ∧ Fr [] [25, 26] q1 s.2 ∧ ∀ k, k < i → s.2.2 25 k = m.2 52 (b + 27 + k) ∧ s.2.2 26 k = m.2 52 (b + 35 + k)) (fun q => Fr [] [25, 26] q1 q ∧ ∀ k, k < 8 → q.2 25 k = m.2 52 (b + 27 + k) ∧ q.2 26 k = m.2 52 (b + 35 + k)) 8 (s := (0, q1)) (by
    rintro i ⟨j, q⟩ hi ⟨rfl, hfr, a4⟩
    dsimp only at hfr a4
    unfold f11_unpack_52_L13
    dsimp only
    rw [if_neg (show ¬ (8 : Int32) ≤ nI i from nI_ge hi (by decide)), show (3 : Int32) = nI 3 from rfl, show (24 : Int32) = nI 24 from rfl, show (8 : Int32) = nI 8 from rfl, nI_add, nI_add, nI_add, nI_add, nI_add, ldO_n _ (by omega) (by decide), Option.bind_some, stS_n _ _ _ hi (by decide), Option.bind_some, sA_2n (j := 52) (k := 25) _ _ (by decide), ldO_n _ (by omega) (by decide), Option.bind_some, stS_n _ _ _ hi (by decide), Option.bind_some, hfr.2 52 (by decide), f1.2 52 (by decide), sA_2n (j := 26) (k := 25) _ _ (by decide), nI_1]
    refine ⟨_, rfl, rfl, hfr.trans ((Fr.sA q 25 _ (by decide)).trans (Fr.sA _ 26 _ (by decide))), fun k hk => ⟨?_, ?_⟩⟩
    · show upd (q.2 25) i _ k = _
      by_cases e : k = i
      · subst e; rw [upd_e, show b + 3 + 24 + k = b + 27 + k by omega]
      · rw [upd_n _ _ e]; exact (a4 k (by omega)).1
    · show upd (q.2 26) i _ k = _
      by_cases e : k = i
      · subst e; rw [upd_e, show b + 3 + 24 + 8 + k = b + 35 + k by omega]
      · rw [upd_n _ _ e]; exact (a4 k (by omega)).2) (by
    rintro ⟨j, q⟩ ⟨rfl, hfr, a4⟩
    exact ⟨_, if_pos (Int32.le_refl _), hfr, a4⟩) ⟨rfl, Fr.refl _ _ _, fun k hk => absurd hk (Nat.not_lt_zero k)⟩
  have fr : Fr [28, 29, 30] [23, 24, 25, 26] m q2 := (f1.mono (by decide) (by decide)).trans (f2.mono (by decide) (by decide))
  refine ⟨q2, ?_, fr, hU, ?_⟩
  · unfold f11_unpack_52
    rw [ldO_n _ (by omega) (by decide), Option.bind_some, Option.bind_some, sS_2, nI_1, ldO_n _ (by omega) (by decide), Option.bind_some, Option.bind_some, sS_2, sS_2, show (2 : Int32) = nI 2 from rfl, nI_add, ldO_n _ (by omega) (by decide), Option.bind_some, Option.bind_some, h1, Option.bind_some, h2, Option.bind_some]
  · unfold TR
    rw [fr.2 3 (by decide), fr.2 4 (by decide), fr.2 9 (by decide), f2.1 28 (by decide), f2.1 29 (by decide), f2.1 30 (by decide), g1, g2, g3, f2.2 23 (by decide), f2.2 24 (by decide), ← e1, ← e2, ← e3, ← e4]
    rw [← e2] at p2 p3 p4
    rw [← e1] at p5
    exact ⟨h.eH, h.eL, p1, p2, p3, fun k hk => ⟨h.eki hk, (g5 k (by omega)).1.trans (p5 k hk).1, (g5 k (by omega)).2.trans (p5 k hk).2⟩, fun k hk => ⟨(g4 k (by omega)).2.trans (p4 k hk).2, (g4 k (by omega)).1.trans (p4 k hk).1, h.etw hk⟩⟩
end
