/-! comparisons, and what stands behind not -/
noncomputable def fmCmp (rec : St → Int32 → Option St) (x1 : Int32) (s : St) : Option St :=
  (f11_readSum rec s x1).bind fun q7 =>
  (f11_isMarked q7 (60 : Int32)).bind fun q8 =>
  (if (zB q8) = 0 then ((f11_isMarked q7 (61 : Int32)).bind fun q15 =>
  if (zB q15) = 0 then some q7 else (f11_isMarked q7 (60 : Int32)).bind fun q16 =>
  ((if (zB q16) = 0 then some (-25) else some (-24) : Option (Int32))).bind fun q17 =>
  (f11_stepOn q7).bind fun q18 =>
  (f11_readSum rec q18 x1).bind fun q19 =>
  (f11_lay q19 q17).bind fun q20 =>
  some q20)
  else (f11_isMarked q7 (60 : Int32)).bind fun q10 =>
  ((if (zB q10) = 0 then some (-25) else some (-24) : Option (Int32))).bind fun q11 =>
  (f11_stepOn q7).bind fun q12 =>
  (f11_readSum rec q12 x1).bind fun q13 =>
  (f11_lay q13 q11).bind fun q14 =>
  some q14 : Option (St))
theorem readNot_e (rec : St → Int32 → Option St) (x1 : Int32) (s : St) : f11_readNot rec s x1 = (lpw (f11_readNot_L1) (0, s)).bind fun q1 => (fmCmp rec x1 q1.2).bind fun q9 => (lpw (f11_readNot_L21 q1) (0, q9)).bind fun q21 => some q21 := by
  unfold f11_readNot fmCmp
  simp only [Option.bind_assoc]
section
variable {n : Nat} {B : Nat → Nat} {L : LX} {l : Nat} {c : Nat → Nat} {sr g m : St} {kk p : Nat}
theorem cmp_lev {x : Nat} {rec : St → St → Int32 → Option (St × St)} {rec' : St → Int32 → Option St} (hR : Lev (fun sr g => f6_sum rec sr g (nI x)) (fun m => f11_readSum rec' m (nI x)) (5 * x + 3)) : Lev (fun sr g => f6_comparison rec sr g (nI x)) (fmCmp rec' (nI x)) (5 * x + 2) := by
  constructor
  · intro n B L l c sr g m h hh
    obtain ⟨sr1, g1, m1, a1, a2, a3, a4, a5⟩ := hR.1 n B L l c sr g m h (by omega)
    have a1 : f6_sum rec sr g (nI x) = some (sr1, g1) := a1
    have a2 : f11_readSum rec' m (nI x) = some m1 := a2
    dsimp only
    unfold f6_comparison fmCmp
    rw [a1, Option.bind_some, a2, Option.bind_some]
    dsimp only
    rcases a5 with ⟨kk, p, hd, hx⟩ | ⟨hx, L1, l1, c1, hA, d1, d2, d3⟩
    · rw [if_neg hd.c6, Option.bind_some, isMarked_dead hd.m20, Option.bind_some, if_pos zB_f, isMarked_dead hd.m20, Option.bind_some, if_pos zB_f]
      exact ⟨sr1, g1, m1, rfl, rfl, a3, a4, .inl ⟨kk, p, hd, hx⟩⟩
    · have h317 := hA.ok.c317
      have hm1 : f11_isMarked m1 60 = some (decide (L1.2.2.1 = 60)) := hA.mark (x := 60) (by decide) (by decide)
      have hm2 : f11_isMarked m1 61 = some (decide (L1.2.2.1 = 61)) := hA.mark (x := 61) (by decide) (by decide)
      have fin : ∀ (sr' g' m' : St), Fr sR [] sr1 sr' → FrE m1 m' → Nxt n B L1.1 l1 (hgN c l) sr' g' m' → Fr sR [] sr sr' ∧ FrE m m' ∧ Res n B L l (hgN c l) sr' g' m' := fun sr' g' m' e1 e2 e3 => by
        refine ⟨a3.trans e1, a4.trans e2, ?_⟩
        rcases e3 with ⟨kk, p, hd⟩ | ⟨L2, l2, c2, hA2, f1, f2, f3⟩
        · exact .inl ⟨kk, p, hd, fun u => absurd u hx⟩
        · exact .inr ⟨hx, L2, l2, c2, hA2, by omega, by omega, f3⟩
      rw [hA.c6, if_pos rfl, hA.c7]
      by_cases z1 : L1.2.2.1 = 60
      · obtain ⟨q4, sr', g5, g6, p1, p2, p3, b1, b2, b3, b4, b5, b6, b7, b8, b9⟩ := op_step hR hA (by omega) d3 (by omega) (s := 10014) (by omega)
        have b2 : f6_sum rec q4 g1 (nI x) = some (sr', g5) := b2
        have b5 : f11_readSum rec' p1 (nI x) = some p2 := b5
        rw [z1, if_pos (show nI 60 = 60 from rfl), b1, Option.bind_some, b2, Option.bind_some, show -(nI 60) = cC 10014 from by decide +kernel, b3, Option.bind_some, Option.bind_some, hm1, z1, Option.bind_some, decide_eq_true rfl, if_neg (by decide), Option.bind_some, if_neg (by decide), Option.bind_some, b4, Option.bind_some, b5, Option.bind_some, show (-24 : Int32) = mC 10014 from by decide +kernel, b6, Option.bind_some]
        exact ⟨sr', g6, p3, rfl, rfl, fin _ _ _ b7 b8 b9⟩
      · by_cases z2 : L1.2.2.1 = 61
        · obtain ⟨q4, sr', g5, g6, p1, p2, p3, b1, b2, b3, b4, b5, b6, b7, b8, b9⟩ := op_step hR hA (by omega) d3 (by omega) (s := 10015) (by omega)
          have b2 : f6_sum rec q4 g1 (nI x) = some (sr', g5) := b2
          have b5 : f11_readSum rec' p1 (nI x) = some p2 := b5
          rw [z2, if_neg (show ¬ nI 61 = 60 from by decide), if_pos (show nI 61 = 61 from rfl), b1, Option.bind_some, b2, Option.bind_some, show -(nI 61) = cC 10015 from by decide +kernel, b3, Option.bind_some, Option.bind_some, hm1, z2, Option.bind_some, decide_eq_false (by decide), if_pos zB_f, hm2, Option.bind_some, z2, decide_eq_true rfl, if_neg (by decide), Option.bind_some, if_pos zB_f, Option.bind_some, b4, Option.bind_some, b5, Option.bind_some, show (-25 : Int32) = mC 10015 from by decide +kernel, b6, Option.bind_some]
          exact ⟨sr', g6, p3, rfl, rfl, fin _ _ _ b7 b8 b9⟩
        · rw [if_neg (show ¬ nI L1.2.2.1 = 60 from fun u => z1 ((nI_eq (b := 60) (by omega) (by decide)).1 u)), if_neg (show ¬ nI L1.2.2.1 = 61 from fun u => z2 ((nI_eq (b := 61) (by omega) (by decide)).1 u)), Option.bind_some, hm1, Option.bind_some, decide_eq_false z1, if_pos zB_f, hm2, Option.bind_some, decide_eq_false z2, if_pos zB_f]
          exact ⟨sr1, g1, m1, rfl, rfl, a3, a4, .inr ⟨hx, L1, l1, c1, hA, d1, d2, d3⟩⟩
  · intro kk p sr g m hd
    obtain ⟨⟨g1, a1, a2⟩, a3⟩ := hR.2 kk p sr g m hd
    have a1 : f6_sum rec sr g (nI x) = some (sr, g1) := a1
    have a3 : f11_readSum rec' m (nI x) = some m := a3
    dsimp only
    unfold f6_comparison fmCmp
    rw [a1, Option.bind_some, a3, Option.bind_some, if_neg hd.c6, Option.bind_some, isMarked_dead hd.m20, Option.bind_some, if_pos zB_f, isMarked_dead hd.m20, Option.bind_some, if_pos zB_f]
    exact ⟨⟨g1, rfl, a2⟩, rfl⟩
/-! the nots before -/
theorem L9_e (q : Int32 × St) : f6_negation_L9 q = f6_negation_L5 q := rfl
theorem nots_any {j : Nat} (hj : j < 100) (z : St) : ∀ d i g, i + d = j → GOk g → ∃ g', lpw (f6_negation_L5 (nI j, z)) (nI i, g) = some g' ∧ GOk g' := by
  intro d
  induction d with
  | zero =>
    intro i g hi hg
    obtain rfl : i = j := by omega
    exact ⟨g, lpw_inr (by unfold f6_negation_L5; dsimp only; rw [if_pos (Int32.le_refl _)]), hg⟩
  | succ d ih =>
    intro i g hi hg
    obtain ⟨g1, a1, a2⟩ := C_add_any hg ((-309) : Int32)
    obtain ⟨g2, b1, b2⟩ := ih (i + 1) g1 (by omega) a2
    refine ⟨g2, ?_, b2⟩
    rw [lpw_inl (s' := (nI (i + 1), g1)) (by unfold f6_negation_L5; dsimp only; rw [if_neg (nI_ge (by omega) (by omega)), a1, Option.bind_some, nI_1])]
    exact b1
theorem nots_dead {j : Nat} (hj : j < 100) (z : St) (hm : ¬ m.1 20 = 0) : ∀ d i, i + d = j → lpw (f11_readNot_L21 (nI j, z)) (nI i, m) = some m := by
  intro d
  induction d with
  | zero =>
    intro i hi
    obtain rfl : i = j := by omega
    exact lpw_inr (by unfold f11_readNot_L21; dsimp only; rw [if_pos (Int32.le_refl _)])
  | succ d ih =>
    intro i hi
    rw [lpw_inl (s' := (nI (i + 1), m)) (by unfold f11_readNot_L21; dsimp only; rw [if_neg (nI_ge (by omega) (by omega)), lay_dead hm, Option.bind_some, nI_1])]
    exact ih (i + 1) (by omega)
theorem nots_lay {j : Nat} (hj : j < 100) (z z' : St) {h1 : Nat} : ∀ d i l c g m, Al n B L l c sr g m → hgN c l = h1 + 1 → i + d = j → l + d ≤ L.1 → ∃ g' m' c', lpw (f6_negation_L5 (nI j, z)) (nI i, g) = some g' ∧ lpw (f11_readNot_L21 (nI j, z')) (nI i, m) = some m' ∧ FrE m m' ∧ Al n B L (l + d) c' sr g' m' ∧ hgN c' (l + d) = h1 + 1 := by
  intro d
  induction d with
  | zero =>
    intro i l c g m h e hi hl
    obtain rfl : i = j := by omega
    exact ⟨g, m, c, lpw_inr (by unfold f6_negation_L5; dsimp only; rw [if_pos (Int32.le_refl _)]), lpw_inr (by unfold f11_readNot_L21; dsimp only; rw [if_pos (Int32.le_refl _)]), FrE.refl _, h, e⟩
  | succ d ih =>
    intro i l c g m h e hi hl
    obtain ⟨g1, m1, a1, a2, a3, a4⟩ := h.push (s := 10018) (by omega) (.inr (.inl ⟨rfl, by omega⟩))
    obtain ⟨g2, m2, c2, b1, b2, b3, b4, b5⟩ := ih (i + 1) (l + 1) _ g1 m1 a4 (by rw [upC_hg1]; unfold hgS; rw [if_neg (by decide), if_pos rfl]; exact e) (by omega) (by omega)
    have a1 : f7_add g (-309) = some g1 := a1
    have a2 : f11_lay m (-28) = some m1 := a2
    refine ⟨g2, m2, c2, ?_, ?_, a3.trans b3, ?_, ?_⟩
    · rw [lpw_inl (s' := (nI (i + 1), g1)) (by unfold f6_negation_L5; dsimp only; rw [if_neg (nI_ge (by omega) (by omega)), a1, Option.bind_some, nI_1])]
      exact b1
    · rw [lpw_inl (s' := (nI (i + 1), m1)) (by unfold f11_readNot_L21; dsimp only; rw [if_neg (nI_ge (by omega) (by omega)), a2, Option.bind_some, nI_1])]
      exact b2
    · rw [show l + (d + 1) = l + 1 + d by omega]; exact b4
    · rw [show l + (d + 1) = l + 1 + d by omega]; exact b5
/-- the nots that are read first -/
theorem nots_read : ∀ d j L sr m, j + d = 6 → Al n B L l c sr g m → ∃ j' sr' m' L', j ≤ j' ∧ j' ≤ 6 ∧ lpw f6_negation_L1 (nI j, nI j, sr) = some (nI j', sr') ∧ Fr sR [] sr sr' ∧ Al n B L' l c sr' g m' ∧ L.1 + (j' - j) ≤ L'.1 ∧ FrE m m' ∧ (L.2.2.1 ≠ 309 → L' = L) ∧ ((L'.2.2.1 ≠ 309 ∧ lpw f11_readNot_L1 (nI j, m) = some (nI j', m')) ∨ (L'.2.2.1 = 309 ∧ j' = 6 ∧ ∀ m'', f11_wrong m' 2 = some m'' → ¬ m''.1 20 = 0 → lpw f11_readNot_L1 (nI j, m) = some (nI 7, m''))) := by
  intro d
  induction d with
  | zero =>
    intro j L sr m hj h
    obtain rfl : j = 6 := by omega
    have hi := h.is (i := 9) (by decide)
    refine ⟨6, sr, m, L, Nat.le_refl _, Nat.le_refl _, lpw_inr (by unfold f6_negation_L1; dsimp only; rw [if_pos (show (6 : Int32) ≤ nI 6 from Int32.le_refl _)]), Fr.refl _ _ _, h, by omega, FrE.refl _, fun _ => rfl, ?_⟩
    by_cases z : L.2.2.1 = 309
    · right
      refine ⟨z, rfl, fun m'' hw hm => ?_⟩
      rw [lpw_inl (s' := (nI 7, m'')) (by
        unfold f11_readNot_L1
        dsimp only
        rw [hi, Option.bind_some, decide_eq_true (by omega), if_neg (by decide), if_pos (show nI 6 = 6 from rfl), hw, Option.bind_some, Option.bind_some, if_neg hm]
        rfl), lpw_inr (by
        unfold f11_readNot_L1
        dsimp only
        rw [is_dead hm, Option.bind_some, if_pos zB_f])]
    · left
      refine ⟨z, lpw_inr ?_⟩
      unfold f11_readNot_L1
      dsimp only
      rw [hi, Option.bind_some, decide_eq_false (by omega), if_pos zB_f]
  | succ d ih =>
    intro j L sr m hj h
    have h317 := h.ok.c317
    have hi := h.is (i := 9) (by decide)
    by_cases z : L.2.2.1 = 309
    · obtain ⟨sr1, m1, L1, a1, a2, a3, a4, a5, a6⟩ := both_step h (by omega)
      obtain ⟨j', sr', m', L', b1, b2, b3, b4, b5, b6, b7, b8, b9⟩ := ih (j + 1) L1 sr1 m1 (by omega) a5
      have eM : ∀ r, lpw f11_readNot_L1 (nI (j + 1), m1) = some r → lpw f11_readNot_L1 (nI j, m) = some r := fun r hr => by
        rw [lpw_inl (s' := (nI (j + 1), m1)) (by
          unfold f11_readNot_L1
          dsimp only
          rw [hi, Option.bind_some, decide_eq_true (by omega), if_neg (by decide), if_neg (show ¬ nI j = 6 from fun u => by have := (nI_eq (b := 6) (by omega) (by decide)).1 u; omega), Option.bind_some, h.m20, if_pos rfl, a2, Option.bind_some, nI_1])]
        exact hr
      refine ⟨j', sr', m', L', by omega, b2, ?_, a3.trans b4, b5, by omega, a4.trans b7, fun u => absurd z u, ?_⟩
      · rw [lpw_inl (s' := (nI (j + 1), nI (j + 1), sr1)) (by
          unfold f6_negation_L1
          dsimp only
          rw [if_neg (show ¬ (6 : Int32) ≤ nI j from nI_ge (b := 6) (by omega) (by decide)), h.c7, z, if_pos (show nI 309 = 309 from rfl), a1, Option.bind_some, nI_1])]
        exact b3
      · rcases b9 with ⟨e1, e2⟩ | ⟨e1, e2, e3⟩
        · exact .inl ⟨e1, eM _ e2⟩
        · exact .inr ⟨e1, e2, fun m'' hw hm => eM _ (e3 m'' hw hm)⟩
    · refine ⟨j, sr, m, L, Nat.le_refl _, by omega, lpw_inr ?_, Fr.refl _ _ _, h, by omega, FrE.refl _, fun _ => rfl, .inl ⟨z, lpw_inr ?_⟩⟩
      · unfold f6_negation_L1
        dsimp only
        rw [if_neg (show ¬ (6 : Int32) ≤ nI j from nI_ge (b := 6) (by omega) (by decide)), h.c7, if_neg (show ¬ nI L.2.2.1 = 309 from fun u => z ((nI_eq (b := 309) (by omega) (by decide)).1 u))]
      · unfold f11_readNot_L1
        dsimp only
        rw [hi, Option.bind_some, decide_eq_false (by omega), if_pos zB_f]
theorem nots_deadC (h : ¬ sr.1 6 = 0) : ∃ j, j ≤ 6 ∧ lpw f6_negation_L1 (0, 0, sr) = some (nI j, sr) := by
  by_cases z : sr.1 7 = 309
  · refine ⟨6, Nat.le_refl _, ?_⟩
    exact lpw_S (F := f6_negation_L1) (fun i => (nI i, nI i, sr)) 6 (fun i hi => by
      unfold f6_negation_L1
      dsimp only
      rw [if_neg (show ¬ (6 : Int32) ≤ nI i from nI_ge (b := 6) hi (by decide)), if_pos z, accept_dead h, Option.bind_some, nI_1]) (by
      unfold f6_negation_L1
      dsimp only
      rw [if_pos (show (6 : Int32) ≤ nI 6 from Int32.le_refl _)])
  · refine ⟨0, by omega, lpw_inr ?_⟩
    unfold f6_negation_L1
    dsimp only
    rw [if_neg (by decide), if_neg z]
    rfl
theorem not_lev {x : Nat} {rec : St → St → Int32 → Option (St × St)} {rec' : St → Int32 → Option St} (hR : Lev (fun sr g => f6_comparison rec sr g (nI x)) (fmCmp rec' (nI x)) (5 * x + 2)) : Lev (fun sr g => f6_negation rec sr g (nI x)) (fun m => f11_readNot rec' m (nI x)) (5 * x + 2) := by
  constructor
  · intro n B L l c sr g m h hh
    dsimp only
    have hlS := h.lS
    obtain ⟨j, sr1, m1, L1, a1, a2, a3, a4, a5, a6, a7, a8, a9⟩ := nots_read 6 0 L sr m rfl h
    have h317 := a5.ok.c317
    have a3 : lpw f6_negation_L1 (0, 0, sr) = some (nI j, sr1) := a3
    rw [readNot_e]
    unfold f6_negation
    rw [a3, Option.bind_some, a5.c7]
    rcases a9 with ⟨e1, e2⟩ | ⟨e1, e2, e3⟩
    · have e2 : lpw f11_readNot_L1 (0, m) = some (nI j, m1) := e2
      obtain ⟨sr2, g2, m2, b1, b2, b3, b4, b5⟩ := hR.1 n B L1 l c sr1 g m1 a5 hh
      have b1 : f6_comparison rec sr1 g (nI x) = some (sr2, g2) := b1
      rw [if_neg (show ¬ nI L1.2.2.1 = 309 from fun u => e1 ((nI_eq (b := 309) (by omega) (by decide)).1 u)), b1, Option.bind_some, e2, Option.bind_some, b2, Option.bind_some]
      dsimp only
      rcases b5 with ⟨kk, p, hd, hx⟩ | ⟨hx, L2, l2, c2, hA, d1, d2, d3⟩
      · obtain ⟨g3, f1, f2⟩ := nots_any (j := j) (by omega) sr1 j 0 g2 (by omega) hd.2.2.2.2.2.1
        have f1 : lpw (f6_negation_L5 (nI j, sr1)) (0, g2) = some g3 := f1
        have f3 : lpw (f11_readNot_L21 (nI j, m1)) (0, m2) = some m2 := nots_dead (by omega) m1 hd.m20 j 0 (by omega)
        rw [f1, Option.bind_some, f3, Option.bind_some]
        refine ⟨sr2, g3, m2, rfl, rfl, a4.trans b3, a7.trans b4, .inl ⟨kk, p, ⟨hd.1, hd.2.1, hd.2.2.1, hd.2.2.2.1, hd.2.2.2.2.1, f2, hd.2.2.2.2.2.2⟩, fun u => ?_⟩⟩
        have := a8 (by have := u.2.1; omega)
        subst this
        exact hx u
      · obtain ⟨g3, m3, c3, f1, f2, f3, f4, f5⟩ := nots_lay (j := j) (by omega) sr1 m1 j 0 l2 c2 g2 m2 hA d3 (by omega) (by omega)
        have f1 : lpw (f6_negation_L5 (nI j, sr1)) (0, g2) = some g3 := f1
        have f2 : lpw (f11_readNot_L21 (nI j, m1)) (0, m2) = some m3 := f2
        rw [f1, Option.bind_some, f2, Option.bind_some]
        refine ⟨sr2, g3, m3, rfl, rfl, a4.trans b3, (a7.trans b4).trans f3, .inr ⟨fun u => ?_, L2, l2 + j, c3, f4, by omega, by omega, f5⟩⟩
        have := a8 (by have := u.2.1; omega)
        subst this
        exact hx u
    · obtain ⟨sr2, m2, b1, b2, b3, b4, b5⟩ := both_fail a5 (k := 2) (by decide) (by decide)
      have e4 : lpw f11_readNot_L1 (0, m) = some (nI 7, m2) := e3 m2 b2 b5.m20
      have e5 := (hR.2 _ _ _ _ _ b5).2
      have f3 : lpw (f11_readNot_L21 (nI 7, m2)) (0, m2) = some m2 := nots_dead (by omega) m2 b5.m20 7 0 (by omega)
      rw [e1, if_pos (show nI 309 = 309 from rfl), e2, if_pos (show nI 6 = 6 from rfl), show f6_fail sr1 2 = some sr2 from b1, Option.bind_some, e4, Option.bind_some, e5, Option.bind_some, f3, Option.bind_some]
      refine ⟨sr2, g, m2, rfl, rfl, a4.trans b3, a7.trans b4, .inl ⟨2, L1.1, b5, fun u => ?_⟩⟩
      have := a8 (by have := u.2.1; omega)
      subst this
      have := u.2.1
      omega
  · intro kk p sr g m hd
    dsimp only
    obtain ⟨⟨g1, a1, a2⟩, a3⟩ := hR.2 kk p sr g m hd
    have a1 : f6_comparison rec sr g (nI x) = some (sr, g1) := a1
    obtain ⟨j, j1, j2⟩ := nots_deadC hd.c6
    constructor
    · obtain ⟨g3, f1, f2⟩ := nots_any (j := j) (by omega) sr j 0 g1 (by omega) a2
      have f1 : lpw (f6_negation_L5 (nI j, sr)) (0, g1) = some g3 := f1
      unfold f6_negation
      rw [j2, Option.bind_some]
      dsimp only
      rw [a1, Option.bind_some]
      dsimp only
      rw [L9_e, f1, Option.bind_some, fail_dead hd.c6, Option.bind_some]
      by_cases y1 : sr.1 7 = 309
      · rw [if_pos y1]
        by_cases y2 : nI j = 6
        · rw [if_pos y2]; exact ⟨g, rfl, hd.2.2.2.2.2.1⟩
        · rw [if_neg y2]; exact ⟨g3, rfl, f2⟩
      · rw [if_neg y1, Option.bind_some]
        dsimp only
        rw [f1, Option.bind_some]
        exact ⟨g3, rfl, f2⟩
    · have f3 : lpw (f11_readNot_L21 (nI 0, m)) (0, m) = some m := nots_dead (by omega) m hd.m20 0 0 (by omega)
      rw [readNot_e, lpw_inr (r := (nI 0, m)) (by
        unfold f11_readNot_L1
        dsimp only
        rw [is_dead hd.m20, Option.bind_some, if_pos zB_f]
        rfl), Option.bind_some, a3, Option.bind_some, f3, Option.bind_some]
end
