/-! to the next token, the reference's -/
section
variable {n : Nat} {B : Nat → Nat} {sr st m q : St} {a : Nat} {L : LX}
theorem M_at {k : Nat} (hB : ByM n B m) (h15 : m.1 15 = nI n) (hk : k ≤ n) (hf : Fr [14, 16, 17, 18, 19] [] m q) (e : q.1 14 = nI k) : f11_byteAt q (q.1 14) = some (if k < n then nI (B k) else -1) := by
  rw [e]
  exact (hB.fr hf (by decide)).at ((hf.1 15 (by decide)).trans h15) hk
theorem M_blanks (hB : ByM n B m) (h15 : m.1 15 = nI n) (h14 : m.1 14 = nI a) {s : Nat} (h1 : a ≤ s) (h2 : s ≤ n) (h3 : ∀ k, a ≤ k → k < s → blkB (B k) = true) (h4 : s < n → blkB (B s) = false) : lpw f11_stepOn_L1 m = some (sS m 14 (nI s)) := by
  have hn := hB.1
  have := lpw_S (F := f11_stepOn_L1) (fun i => sS m 14 (nI (a + i))) (s - a) (r := sS m 14 (nI s)) (fun i hi => by
    have hq := M_at (k := a + i) hB h15 (by omega) (Fr.sS m 14 (nI (a + i)) (by decide)) rfl
    have hb := h3 (a + i) (by omega) (by omega)
    have hM := by_M _ (hB.2 (a + i) (by omega)).1
    unfold f11_stepOn_L1
    rw [hq, Option.bind_some, if_pos (show a + i < n by omega), sS_1e]
    unfold blkB at hb
    rw [Bool.or_eq_true, decide_eq_true_eq, decide_eq_true_eq] at hb
    by_cases z : B (a + i) = 32
    · rw [if_pos (hM.1.2 z), Option.bind_some, sS_sS, nI_1]
      rfl
    · rw [if_neg (fun y => z (hM.1.1 y)), Option.bind_some, if_pos (hM.2.1.2 (by omega)), Option.bind_some, sS_sS, nI_1]
      rfl) (by
    rw [show a + (s - a) = s by omega]
    have hq := M_at (k := s) hB h15 h2 (Fr.sS m 14 (nI s) (by decide)) rfl
    unfold f11_stepOn_L1
    rw [hq, Option.bind_some]
    by_cases z : s < n
    · have hb := h4 z
      have hM := by_M _ (hB.2 s z).1
      unfold blkB at hb
      rw [Bool.or_eq_false_iff, decide_eq_false_iff_not, decide_eq_false_iff_not] at hb
      rw [if_pos z, if_neg (fun y => hb.1 (hM.1.1 y)), Option.bind_some, if_neg (fun y => hb.2 (hM.2.1.1 y))]
    · rw [if_neg z, if_neg (by decide), Option.bind_some, if_neg (by decide)])
  rw [show m = sS m 14 (nI (a + 0)) from by rw [Nat.add_zero, ← h14, sS_self]]
  rw [this, sS_sS]
theorem M_letters (hB : ByM n B m) (h15 : m.1 15 = nI n) {s e : Nat} (h14 : m.1 14 = nI s) (h1 : s ≤ e) (h2 : e ≤ n) (h3 : ∀ k, s ≤ k → k < e → ltrB (B k) = true) (h4 : e < n → ltrB (B e) = false) : lpw f11_stepOn_L25 m = some (sS m 14 (nI e)) := by
  have hn := hB.1
  have := lpw_S (F := f11_stepOn_L25) (fun i => sS m 14 (nI (s + i))) (e - s) (r := sS m 14 (nI e)) (fun i hi => by
    have hq := M_at (k := s + i) hB h15 (by omega) (Fr.sS m 14 (nI (s + i)) (by decide)) rfl
    have hM := by_M _ (hB.2 (s + i) (by omega)).1
    unfold f11_stepOn_L25
    rw [hq, Option.bind_some, if_pos (show s + i < n by omega), hM.2.2.1, h3 (s + i) (by omega) (by omega), Option.bind_some, if_neg (by decide), Option.bind_some, sS_sS, sS_1e, nI_1]
    rfl) (by
    rw [show s + (e - s) = e by omega]
    have hq := M_at (k := e) hB h15 h2 (Fr.sS m 14 (nI e) (by decide)) rfl
    unfold f11_stepOn_L25
    rw [hq, Option.bind_some]
    by_cases z : e < n
    · have hM := by_M _ (hB.2 e z).1
      rw [if_pos z, hM.2.2.1, h4 z, Option.bind_some, if_pos zB_f]
    · rw [if_neg z, show f11_isLetter (-1) = some false from by decide +kernel, Option.bind_some, if_pos zB_f])
  rw [show m = sS m 14 (nI (s + 0)) from by rw [Nat.add_zero, ← h14, sS_self]]
  rw [this, sS_sS]
theorem M_digits (hB : ByM n B m) (h15 : m.1 15 = nI n) {s e : Nat} (h14 : m.1 14 = nI s) (h17 : m.1 17 = 0) (h1 : s ≤ e) (h2 : e ≤ n) (h3 : ∀ k, s ≤ k → k < e → dgtB (B k) = true) (h4 : e < n → dgtB (B e) = false) : ∃ m', lpw f11_stepOn_L17 m = some m' ∧ m'.1 14 = nI e ∧ (e - s ≤ 4 → m'.1 17 = nI (vlN B s (e - s))) ∧ Fr [14, 17] [] m m' := by
  have hn := hB.1
  obtain ⟨q, q1, q2, q3, q4⟩ := lpw_R (F := f11_stepOn_L17) (fun i v => v.1 14 = nI (s + i) ∧ (i ≤ 4 → v.1 17 = nI (vlN B s i)) ∧ Fr [14, 17] [] m v) (fun q => q.1 14 = nI e ∧ (e - s ≤ 4 → q.1 17 = nI (vlN B s (e - s))) ∧ Fr [14, 17] [] m q) (e - s) (s := m) (by
    rintro i v hi ⟨p14, p17, hf⟩
    have hq := M_at (k := s + i) hB h15 (by omega) (hf.mono (by decide) (by decide)) p14
    have hM := by_M _ (hB.2 (s + i) (by omega)).1
    have hdd := h3 (s + i) (by omega) (by omega)
    have hd3 := hdd
    unfold dgtB at hd3
    rw [Bool.and_eq_true, decide_eq_true_eq, decide_eq_true_eq] at hd3
    unfold f11_stepOn_L17
    rw [hq, Option.bind_some, if_pos (show s + i < n by omega), hM.2.2.2.1, hdd, Option.bind_some, if_neg (by decide), Option.bind_some, Option.bind_some, Option.bind_some, show ∀ x, (sS v 17 x).1 14 = nI (s + i) from fun _ => p14, nI_1]
    refine ⟨_, rfl, rfl, fun z => ?_, (hf.trans (Fr.sS v 17 _ (by decide))).trans (Fr.sS _ 14 _ (by decide))⟩
    have hv := vl_le (B := B) (s := s) i (fun k x y => h3 k x (by omega))
    have hp : 10 ^ i ≤ 10 ^ 3 := Nat.pow_le_pow_right (by decide) (by omega)
    show jmin 100000 (10 * v.1 17 + nI (B (s + i)) - 48) = nI (10 * vlN B s i + (B (s + i) - 48))
    rw [p17 (by omega), show (10 : Int32) = nI 10 from rfl, show (48 : Int32) = nI 48 from rfl, show (100000 : Int32) = nI 100000 from rfl, pk_mul, nI_add, pk_sub (by omega), jmin_n (by omega) (by omega), Nat.min_eq_right (by omega)]
    congr 1
    omega) (by
    rintro v ⟨p14, p17, hf⟩
    rw [show s + (e - s) = e by omega] at p14
    refine ⟨v, ?_, p14, p17, hf⟩
    have hq := M_at (k := e) hB h15 h2 (hf.mono (by decide) (by decide)) p14
    unfold f11_stepOn_L17
    rw [hq, Option.bind_some]
    by_cases z : e < n
    · have hM := by_M _ (hB.2 e z).1
      rw [if_pos z, hM.2.2.2.1, h4 z, Option.bind_some, if_pos zB_f]
    · rw [if_neg z, show f11_isDigit (-1) = some false from by decide +kernel, Option.bind_some, if_pos zB_f]) ⟨h14, fun _ => h17, Fr.refl _ _ _⟩
  exact ⟨q, q1, q2, q3, q4⟩
theorem M_stepOn (hB : ByM n B m) (h15 : m.1 15 = nI n) (h20 : m.1 20 = 0) (h14 : m.1 14 = nI a) (hT : TokP n B a L) : ∃ m', f11_stepOn m = some m' ∧ LxM n B L m' ∧ Fr [14, 16, 17, 18, 19] [] m m' := by
  have hn := hB.1
  obtain ⟨h1, h2, h3, h4, hK⟩ := hT
  obtain ⟨s, e, c, v⟩ := L
  dsimp only at h1 h2 h3 h4 hK
  have hb := M_blanks hB h15 h14 h1 h2 h3 h4
  have f7 : Fr [14, 16, 17, 18, 19] [] m (sS (sS m 14 (nI s)) 18 (nI s)) := (Fr.sS m 14 _ (by decide)).trans (Fr.sS _ 18 _ (by decide))
  have e15 : (sS (sS m 14 (nI s)) 18 (nI s)).1 15 = nI n := h15
  have e20 : (sS (sS m 14 (nI s)) 18 (nI s)).1 20 = 0 := h20
  have e18 : (sS (sS m 14 (nI s)) 18 (nI s)).1 18 = nI s := rfl
  have e14 : (sS (sS m 14 (nI s)) 18 (nI s)).1 14 = nI s := rfl
  have hB7 := hB.fr f7 (by decide)
  unfold f11_stepOn
  rw [hb, Option.bind_some, sS_1e, Option.bind_some]
  generalize sS (sS m 14 (nI s)) 18 (nI s) = s7 at *
  have hat := hB7.at e15 h2
  rw [e14, hat, Option.bind_some]
  rcases hK with ⟨a1, a2, a3⟩ | ⟨a1, a2, a3, a4, a5⟩ | ⟨a1, a2, a3, a4, a5, a6, a7⟩ | ⟨a1, a2, a3, a4, a5⟩
  · have f8 : Fr [14, 16, 17, 18, 19] [] s7 (sS (sS s7 16 0) 19 (nI s)) := (Fr.sS s7 16 0 (by decide)).trans (Fr.sS _ 19 _ (by decide))
    rw [if_neg (show ¬ s < n by omega), if_pos rfl, Option.bind_some, Option.bind_some, Option.bind_some, show (sS s7 16 0).1 14 = nI s from e14]
    refine ⟨_, rfl, ⟨hB7.fr f8 (by decide), e15, e20, ?_, e18, ?_, ?_, fun z => ?_⟩, f7.trans f8⟩
    · show (0 : Int32) = nI (md c)
      rw [a3]; rfl
    · show s7.1 14 = nI e
      rw [e14, a2]
    · show nI s = nI e
      rw [a2]
    · rw [a3] at z; cases z
  · have hb0 := hB.2 s (by omega)
    have hM := by_M _ hb0.1
    rw [if_pos (show s < n by omega), if_neg hM.2.2.2.2.2, hM.2.2.1, a3 s (by omega) a1, Option.bind_some, if_neg (by decide), M_letters hB7 e15 e14 (by omega) a2 a3 a4, Option.bind_some, Option.bind_some, Option.bind_some, Option.bind_some]
    have f8 : Fr [14, 16, 17, 18, 19] [] s7 (sS (sS (sS s7 14 (nI e)) 16 1) 19 (nI e)) := ((Fr.sS s7 14 _ (by decide)).trans (Fr.sS _ 16 1 (by decide))).trans (Fr.sS _ 19 _ (by decide))
    have a5 : c = wdN B s e 16 := a5
    have := wd_bd (B := B) (s := s) (e := e)
    rw [show (sS (sS s7 14 (nI e)) 16 1).1 14 = nI e from rfl]
    refine ⟨_, rfl, ⟨hB7.fr f8 (by decide), e15, e20, ?_, e18, rfl, rfl, fun z => ?_⟩, f7.trans f8⟩
    · show (1 : Int32) = nI (md c)
      unfold md
      rw [if_neg (by omega), if_neg (by omega), if_neg (by omega), if_neg (by omega)]
      rfl
    · have z : c = 2 := z
      omega
  · have hb0 := hB.2 s (by omega)
    have hM := by_M _ hb0.1
    have f8 : Fr [14, 16, 17, 18, 19] [] s7 (sS s7 17 0) := Fr.sS s7 17 0 (by decide)
    rw [if_pos (show s < n by omega), if_neg hM.2.2.2.2.2, hM.2.2.1, a3, Option.bind_some, if_pos zB_f, hM.2.2.2.1, a4 s (by omega) a1, Option.bind_some, if_neg (by decide), Option.bind_some]
    obtain ⟨st', w1, w2, w3, w4⟩ := M_digits (m := sS s7 17 0) (hB7.fr f8 (by decide)) e15 e14 rfl (by omega) a2 a4 a5
    have f9 : Fr [14, 16, 17, 18, 19] [] (sS s7 17 0) (sS (sS st' 16 2) 19 (nI e)) := ((w4.mono (by decide) (by decide)).trans (Fr.sS st' 16 2 (by decide))).trans (Fr.sS _ 19 _ (by decide))
    have f10 := f8.trans f9
    rw [w1, Option.bind_some, Option.bind_some, Option.bind_some, Option.bind_some, show (sS st' 16 2).1 14 = nI e from w2]
    refine ⟨_, rfl, ⟨hB7.fr f10 (by decide), (f10.1 15 (by decide)).trans e15, (f10.1 20 (by decide)).trans e20, ?_, ?_, w2, rfl, fun z y => ?_⟩, f7.trans f10⟩
    · show (2 : Int32) = nI (md c)
      rw [show c = 2 from a6]
      rfl
    · show st'.1 18 = nI s
      exact (w4.1 18 (by decide)).trans e18
    · show st'.1 17 = nI v
      rw [w3 y]; exact congrArg nI a7.symm
  · have hb0 := hB.2 s a1
    have hM := by_M _ hb0.1
    rw [if_pos a1, if_neg hM.2.2.2.2.2, hM.2.2.1, a3, Option.bind_some, if_pos zB_f, hM.2.2.2.1, a4, Option.bind_some, if_pos zB_f, Option.bind_some, hM.2.2.2.2.1, Option.bind_some]
    have a5 : c = if sgnB (B s) = true then B s else 1 := a5
    have ek : (if zB (sgnB (B s)) = 0 then some 4 else some 3 : Option Int32) = some (nI (md c)) := by
      rw [a5]
      cases hs : sgnB (B s) with
      | false => rw [if_pos zB_f, if_neg (by decide)]; rfl
      | true =>
        have := sgn_lt _ hb0.1 hs
        rw [if_neg (by decide), if_pos rfl]
        unfold md
        rw [if_neg (by omega), if_neg (by omega), if_neg (by omega), if_pos (by omega)]
        rfl
    rw [ek, Option.bind_some, Option.bind_some, Option.bind_some, Option.bind_some, nI_1]
    have f8 : Fr [14, 16, 17, 18, 19] [] s7 (sS (sS (sS s7 14 (nI (s + 1))) 16 (nI (md c))) 19 (nI (s + 1))) := ((Fr.sS s7 14 _ (by decide)).trans (Fr.sS _ 16 _ (by decide))).trans (Fr.sS _ 19 _ (by decide))
    have a2 : e = s + 1 := a2
    subst a2
    rw [show (sS (sS s7 14 (nI (s + 1))) 16 (nI (md c))).1 14 = nI (s + 1) from rfl]
    refine ⟨_, rfl, ⟨hB7.fr f8 (by decide), e15, e20, rfl, e18, rfl, rfl, fun z => ?_⟩, f7.trans f8⟩
    have z : c = 2 := z
    rw [z] at a5
    cases hs : sgnB (B s) with
    | false => rw [hs, if_neg (by decide)] at a5; omega
    | true => rw [hs, if_pos rfl] at a5; rw [← a5] at hs; cases hs
end
