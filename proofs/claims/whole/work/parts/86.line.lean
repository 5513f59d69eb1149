/-! a line -/
def dn (l : Nat) : Nat := if l = 0 then 0 else 1
section
variable {n : Nat} {B : Nat → Nat} {L : LX} {l : Nat} {c : Nat → Nat} {sr t g m m' : St} {kk p tp s : Nat} {U : TW}
theorem C_isTold (h : RcR l c g) (hl : l ≤ 600) : f7_isTold g = some (decide (l ≠ 0)) := by
  unfold f7_isTold
  rw [h.1]
  by_cases z : l = 0
  · rw [z, if_pos (show nI 0 ≤ 0 from Int32.le_refl _), decide_eq_false (fun u => u rfl)]
  · rw [if_neg (show ¬ nI l ≤ 0 from nI_ge (a := 0) (by omega) (by omega)), decide_eq_true z]
theorem Al.which0 (h : Al n B L l c sr g m) : f11_which_0 m = some (if 300 ≤ L.2.2.1 ∧ L.2.2.1 < 304 then nI (L.2.2.1 - 300) else -1) := by
  have st : ∀ k, k < 4 → f11_which_0_L1 m (nI k) = if L.2.2.1 = 300 + k then some (.inr (.inl (nI k))) else some (.inl (nI (k + 1))) := fun k hk => by
    unfold f11_which_0_L1
    rw [if_neg (show ¬ (4 : Int32) ≤ nI k from nI_ge (b := 4) hk (by decide)), ckO_n hk (by decide), Option.bind_some, h.is (show 0 + k < 16 by omega), Option.bind_some, nI_1]
    by_cases z : L.2.2.1 = 300 + k
    · rw [if_pos z, decide_eq_true (by omega), if_neg (by decide)]
    · rw [if_neg z, decide_eq_false (by omega), if_pos zB_f]
  have e : ∃ q, lpw (f11_which_0_L1 m) 0 = some q ∧ q = if 300 ≤ L.2.2.1 ∧ L.2.2.1 < 304 then .inl (nI (L.2.2.1 - 300)) else .inr () := by
    refine lpw_E (fun k v => v = nI k ∧ ∀ j, j < k → L.2.2.1 ≠ 300 + j) _ 4 (fun k v hk hI => ?_) (fun v hI => ?_) (Nat.zero_le _) ⟨rfl, fun j hj => absurd hj (Nat.not_lt_zero j)⟩
    · obtain ⟨rfl, ha⟩ := hI
      rw [st k hk]
      by_cases z : L.2.2.1 = 300 + k
      · right
        rw [if_pos z, if_pos ⟨by omega, by omega⟩]
        exact ⟨_, rfl, by rw [show L.2.2.1 - 300 = k by omega]⟩
      · left
        rw [if_neg z]
        refine ⟨_, rfl, rfl, fun j hj => ?_⟩
        by_cases w : j = k
        · rw [w]; exact z
        · exact ha j (by omega)
    · obtain ⟨rfl, ha⟩ := hI
      refine ⟨_, if_pos (Int32.le_refl _), ?_⟩
      rw [if_neg]
      rintro ⟨w1, w2⟩
      exact ha (L.2.2.1 - 300) (by omega) (by omega)
  obtain ⟨q, e1, e2⟩ := e
  unfold f11_which_0
  rw [e1, Option.bind_some, e2]
  by_cases z : 300 ≤ L.2.2.1 ∧ L.2.2.1 < 304
  · rw [if_pos z, if_pos z]
  · rw [if_neg z, if_neg z]
/-- what stands after a line, or a part of one -/
def Aft (n : Nat) (B : Nat → Nat) (s d : Nat) (sr t g m : St) : Prop := (∃ kk p, De kk p sr g m) ∨ ∃ L l c U tp, St8 n B L l c U tp sr t g m ∧ s < L.1 ∧ d = dn l
theorem line_end {d : Nat} (h : Aft n B s d sr t g m) : ∃ sr' m', f6_expect sr 59 = some sr' ∧ f11_mark m 59 = some m' ∧ Fr sR [] sr sr' ∧ FrL m m' ∧ Aft n B s d sr' t g m' := by
  rcases h with ⟨kk, p, hd⟩ | ⟨L, l, c, U, tp, ⟨hA, hT, hD, hC, hP, hg⟩, hs, e⟩
  · exact ⟨sr, m, expect_dead hd.c6 _, mark_dead hd.m20 _, Fr.refl _ _ _, FrL.refl _, .inl ⟨kk, p, hd⟩⟩
  · obtain ⟨sr', m', a1, a2, a3, a4, a5⟩ := both_expect hA (x := 59) (by decide) (by decide)
    refine ⟨sr', m', a1, a2, a3, FrL.of a4, ?_⟩
    rcases a5 with hd | ⟨-, L', hA', hlt⟩
    · exact .inl ⟨_, _, hd⟩
    · exact .inr ⟨L', l, c, U, tp, ⟨hA', hT, hD.fr a4, hC, hP, hg⟩, by omega, e⟩
theorem both_wants (h : St8 n B L l c U tp sr t g m) (h0 : L.2.2.1 ≠ 0) : ∃ q1 sr' g' p1 p2 m', (if (zB (decide (l ≠ 0))) = 0 then some sr else (f6_fail sr (5 : Int32)).bind fun q5 => some q5 : Option St) = some q1 ∧ (∃ q2, f6_accept q1 = some q2 ∧ f6_expression 8 q2 g (0 : Int32) = some (sr', g')) ∧ (if nI (dn l) = 1 then ((f11_wrong m (5 : Int32)).bind fun q12 => some q12) else some m : Option St) = some p1 ∧ (if (p1.1 20) = 0 then ((f11_stepOn p1).bind fun q14 => some q14) else some p1 : Option St) = some p2 ∧ f11_readExpression 8 p2 (0 : Int32) = some m' ∧ Fr sR [] sr sr' ∧ FrL m m' ∧ Aft n B L.1 1 sr' t g' m' := by
  obtain ⟨hA, hT, hD, hC, hP, hg⟩ := h
  unfold dn
  by_cases z : l = 0
  · subst z
    obtain ⟨sr1, m1, L1, a1, a2, a3, a4, a5, a6⟩ := both_step hA h0
    obtain ⟨sr2, g2, m2, b1, b2, b3, b4, b5⟩ := expr_8.1 n B L1 0 c sr1 g m1 a5 (Nat.le_refl 0)
    refine ⟨sr, sr2, g2, m, m1, m2, ?_, ⟨sr1, a1, b1⟩, ?_, ?_, b2, a3.trans b3, FrL.of (a4.trans b4), ?_⟩
    · rw [decide_eq_false (fun u => u rfl), if_pos zB_f]
    · rw [if_pos rfl, if_neg (by decide)]
    · rw [hA.m20, if_pos rfl, a2, Option.bind_some]
    · rcases b5 with ⟨kk, p, hd, -⟩ | ⟨-, L', l', c', hA', hlt, -, hh⟩
      · exact .inl ⟨kk, p, hd⟩
      · refine .inr ⟨L', l', c', U, tp, ⟨hA', hT, hD.fr (a4.trans b4), hC, hP, .inr hh⟩, by omega, ?_⟩
        unfold dn
        rw [if_neg]
        intro e
        rw [e] at hh
        cases hh
  · obtain ⟨sr', m', a1, a2, a3, a4, hd⟩ := both_fail hA (k := 5) (by decide) (by decide)
    obtain ⟨⟨g', c1, c2⟩, c3⟩ := expr_8.2 _ _ _ _ _ hd
    refine ⟨sr', sr', g', m', m', m', ?_, ⟨sr', accept_dead hd.c6, c1⟩, ?_, ?_, c3, a3, FrL.of a4, .inl ⟨5, L.1, hd.1, hd.2.1, hd.2.2.1, hd.2.2.2.1, hd.2.2.2.2.1, c2, hd.2.2.2.2.2.2⟩⟩
    · rw [decide_eq_true z, if_neg (by decide), show f6_fail sr 5 = some sr' from a1, Option.bind_some]
    · rw [if_neg z, if_pos (show nI 1 = 1 from rfl), show f11_wrong m 5 = some m' from a2, Option.bind_some]
    · rw [if_neg hd.m20]
theorem both_line (h : St8 n B L l c U tp sr t g m) (h0 : L.2.2.1 ≠ 0) : ∃ sr' t' g' m' d', f6_line sr t g = some (sr', t', g') ∧ f11_readLine m (nI (dn l)) = some (nI d', m') ∧ Fr sR [] sr sr' ∧ FrL m m' ∧ Aft n B L.1 d' sr' t' g' m' := by
  have hA := h.1
  have hn := hA.n6
  have hl := hA.lS
  have hs := hA.sn
  have h317 := hA.ok.c317
  have i6 := hA.is (i := 6) (by decide)
  have i4 := hA.is (i := 4) (by decide)
  have i5 := hA.is (i := 5) (by decide)
  have ne : ∀ k, k < 400 → L.2.2.1 ≠ k → ¬ nI L.2.2.1 = nI k := fun k hk w u => w ((nI_eq (by omega) (by omega)).1 u)
  unfold f6_line f11_readLine
  rw [hA.c7, hA.which0, Option.bind_some, i6, Option.bind_some]
  by_cases c6 : L.2.2.1 = 306
  · obtain ⟨q1, sr1, g1, p1, p2, m1, a1, ⟨q2, a2, a3⟩, a4, a5, a6, a7, a8, a9⟩ := both_wants h h0
    obtain ⟨sr2, m2, b1, b2, b3, b4, b5⟩ := line_end a9
    refine ⟨sr2, t, g1, m2, 1, ?_, ?_, a7.trans b3, a8.trans b4, b5⟩
    · rw [c6, if_neg (by decide), if_pos (by decide), if_neg (by decide), if_neg (by decide), if_pos (by decide), C_isTold hA.2.2.2.1 (by omega), Option.bind_some, a1, Option.bind_some, a2, Option.bind_some, a3, Option.bind_some, Option.bind_some]
      dsimp only
      rw [b1, Option.bind_some]
    · rw [decide_eq_true (show L.2.2.1 = 300 + 6 by omega), if_neg (by decide), a4, Option.bind_some, a5, Option.bind_some, a6, Option.bind_some, b2, Option.bind_some]
      rfl
  rw [decide_eq_false (show ¬ L.2.2.1 = 300 + 6 by omega), if_pos zB_f, i4, i5]
  by_cases ch : 300 ≤ L.2.2.1 ∧ L.2.2.1 < 304
  · obtain ⟨sr1, t1, m1, a1, a2, a3, a4, a5⟩ := both_house h h0 (i := L.2.2.1 - 300) (by omega)
    obtain ⟨sr2, m2, b1, b2, b3, b4, b5⟩ := line_end (n := n) (B := B) (s := L.1) (d := dn l) (t := t1) (g := g) (sr := sr1) (m := m1) (by
      rcases a5 with hd | ⟨L', U', a6, a7⟩
      · exact .inl hd
      · exact .inr ⟨L', l, c, U', tp, a6, a7, rfl⟩)
    refine ⟨sr2, t1, g, m2, dn l, ?_, ?_, a3.trans b3, a4.trans b4, b5⟩
    · rw [if_neg (show ¬ nI L.2.2.1 < 300 from nI_nlt (b := 300) (by omega) (by omega)), if_neg (show ¬ (303 : Int32) < nI L.2.2.1 from nI_nlt (a := 303) (by omega) (by omega)), show nI L.2.2.1 - 300 = nI (L.2.2.1 - 300) from pk_sub (b := 300) (by omega), a1, Option.bind_some, Option.bind_some]
      dsimp only
      rw [b1, Option.bind_some]
    · rw [if_pos ch, if_neg (show ¬ nI (L.2.2.1 - 300) = -1 from fun u => by
          have := nI_toInt (n := L.2.2.1 - 300) (by omega)
          rw [u, show (-1 : Int32).toInt = -1 from by decide +kernel] at this
          omega), a2, Option.bind_some, Option.bind_some, b2, Option.bind_some]
  rw [if_neg ch, if_pos rfl]
  by_cases c4 : L.2.2.1 = 304
  · obtain ⟨sr1, t1, m1, a1, a2, a3, a4, a5⟩ := both_lamp h h0
    obtain ⟨sr2, m2, b1, b2, b3, b4, b5⟩ := line_end (n := n) (B := B) (s := L.1) (d := dn l) (t := t1) (g := g) (sr := sr1) (m := m1) (by
      rcases a5 with hd | ⟨L', U', a6, a7⟩
      · exact .inl hd
      · exact .inr ⟨L', l, c, U', tp, a6, a7, rfl⟩)
    refine ⟨sr2, t1, g, m2, dn l, ?_, ?_, a3.trans b3, a4.trans b4, b5⟩
    · rw [c4, if_neg (by decide), if_pos (by decide), if_pos (by decide), a1, Option.bind_some, Option.bind_some]
      dsimp only
      rw [b1, Option.bind_some]
    · rw [decide_eq_true (show L.2.2.1 = 300 + 4 by omega), Option.bind_some, if_neg (by decide), a2, Option.bind_some, Option.bind_some, b2, Option.bind_some]
  rw [decide_eq_false (show ¬ L.2.2.1 = 300 + 4 by omega), Option.bind_some, if_pos zB_f]
  by_cases c5 : L.2.2.1 = 305
  · obtain ⟨sr1, t1, m1, a1, a2, a3, a4, a5⟩ := both_twins h h0
    obtain ⟨sr2, m2, b1, b2, b3, b4, b5⟩ := line_end (n := n) (B := B) (s := L.1) (d := dn l) (t := t1) (g := g) (sr := sr1) (m := m1) (by
      rcases a5 with hd | ⟨L', U', tp', a6, a7⟩
      · exact .inl hd
      · exact .inr ⟨L', l, c, U', tp', a6, a7, rfl⟩)
    refine ⟨sr2, t1, g, m2, dn l, ?_, ?_, a3.trans b3, a4.trans b4, b5⟩
    · rw [c5, if_neg (by decide), if_pos (by decide), if_neg (by decide), if_pos (by decide), a1, Option.bind_some, Option.bind_some]
      dsimp only
      rw [b1, Option.bind_some]
    · rw [decide_eq_true (show L.2.2.1 = 300 + 5 by omega), Option.bind_some, if_neg (by decide), a2, Option.bind_some, Option.bind_some, b2, Option.bind_some]
  rw [decide_eq_false (show ¬ L.2.2.1 = 300 + 5 by omega), Option.bind_some, if_pos zB_f]
  obtain ⟨sr1, m1, a1, a2, a3, a4, hd⟩ := both_fail hA (k := 1) (by decide) (by decide)
  refine ⟨sr1, t, g, m1, dn l, ?_, ?_, a3, FrL.of a4, .inl ⟨_, _, hd⟩⟩
  · have a1 : f6_fail sr 1 = some sr1 := a1
    have n4 : ¬ nI L.2.2.1 = 304 := ne 304 (by decide) c4
    have n5 : ¬ nI L.2.2.1 = 305 := ne 305 (by decide) c5
    have n6 : ¬ nI L.2.2.1 = 306 := ne 306 (by decide) c6
    by_cases w : L.2.2.1 < 300
    · rw [if_pos (show nI L.2.2.1 < 300 from nI_lt (b := 300) w (by decide)), if_neg n4, if_neg n5, if_neg n6, a1, Option.bind_some, Option.bind_some]
      dsimp only
      rw [expect_dead hd.c6, Option.bind_some]
    · rw [if_neg (show ¬ nI L.2.2.1 < 300 from nI_nlt (b := 300) (by omega) (by omega)), if_pos (show (303 : Int32) < nI L.2.2.1 from nI_lt (a := 303) (by omega) (by omega)), if_neg n4, if_neg n5, if_neg n6, a1, Option.bind_some, Option.bind_some]
      dsimp only
      rw [expect_dead hd.c6, Option.bind_some]
  · rw [show f11_wrong m 1 = some m1 from a2, Option.bind_some, Option.bind_some, mark_dead hd.m20, Option.bind_some]
end
