/-! operators, level by level -/
section
variable {n : Nat} {B : Nat → Nat} {L : LX} {l : Nat} {c : Nat → Nat} {sr g m : St} {kk p : Nat}
def Nxt (n : Nat) (B : Nat → Nat) (s l h : Nat) (sr g m : St) : Prop := (∃ kk p, De kk p sr g m) ∨ ∃ L' l' c', Al n B L' l' c' sr g m ∧ s < L'.1 ∧ l' + s ≤ l + L'.1 ∧ hgN c' l' = h + 1
theorem op_step {FR : St → St → Option (St × St)} {GR : St → Option St} {hb : Nat} (hR : Lev FR GR hb) (h : Al n B L l c sr g m) (h0 : L.2.2.1 ≠ 0) {h1 : Nat} (hh : hgN c l = h1 + 1) (hb' : h1 + 1 ≤ hb) {s : Nat} (hs : 10010 ≤ s ∧ s < 10018) : ∃ q4 sr' g5 g6 p1 p2 p3, f6_accept sr = some q4 ∧ FR q4 g = some (sr', g5) ∧ f7_add g5 (cC s) = some g6 ∧ f11_stepOn m = some p1 ∧ GR p1 = some p2 ∧ f11_lay p2 (mC s) = some p3 ∧ Fr sR [] sr sr' ∧ FrE m p3 ∧ Nxt n B L.1 l h1 sr' g6 p3 := by
  have hlS := h.lS
  obtain ⟨q4, p1, L1, a1, a2, a3, a4, a5, a6⟩ := both_step h h0
  obtain ⟨sr', g5, p2, b1, b2, b3, b4, b5⟩ := hR.1 n B L1 l c q4 g p1 a5 (by omega)
  rcases b5 with ⟨kk, p, hd, -⟩ | ⟨-, L2, l2, c2, hA, d1, d2, d3⟩
  · obtain ⟨g6, e1, e2⟩ := C_add_any hd.2.2.2.2.2.1 (cC s)
    exact ⟨q4, sr', g5, g6, p1, p2, p2, a1, b1, e1, a2, b2, lay_dead hd.m20 _, a3.trans b3, a4.trans b4, .inl ⟨kk, p, hd.1, hd.2.1, hd.2.2.1, hd.2.2.2.1, hd.2.2.2.2.1, e2, hd.2.2.2.2.2.2⟩⟩
  · obtain ⟨g6, p3, e1, e2, e3, e4⟩ := hA.push (s := s) (by omega) (.inr (.inr ⟨hs, by omega⟩))
    refine ⟨q4, sr', g5, g6, p1, p2, p3, a1, b1, e1, a2, b2, e2, a3.trans b3, (a4.trans b4).trans e3, .inr ⟨L2, l2 + 1, _, e4, by omega, by omega, ?_⟩⟩
    rw [upC_hg1]
    unfold hgS
    rw [if_neg (by omega), if_neg (by omega)]
    omega
def StepH (FC : Int32 × St × St → Option ((Int32 × St × St) ⊕ (St × St))) (FM : St → Option (St ⊕ St)) (hb : Nat) : Prop :=
  (∀ i kk p sr g m, De kk p sr g m → FC (nI i, sr, g) = some (.inr (sr, g)) ∧ FM m = some (.inr m)) ∧
  ∀ n B i L l c sr g m h1, Al n B L l c sr g m → hgN c l = h1 + 1 → h1 ≤ hb → i ≤ L.1 → (FC (nI i, sr, g) = some (.inr (sr, g)) ∧ FM m = some (.inr m)) ∨ ∃ sr' g' m', FC (nI i, sr, g) = some (.inl (nI (i + 1), sr', g')) ∧ FM m = some (.inl m') ∧ Fr sR [] sr sr' ∧ FrE m m' ∧ Nxt n B L.1 l h1 sr' g' m'
theorem op_loop {FC : Int32 × St × St → Option ((Int32 × St × St) ⊕ (St × St))} {FM : St → Option (St ⊕ St)} {hb : Nat} (H : StepH FC FM hb) {h1 : Nat} (hh : h1 ≤ hb) : ∀ N n B i L l c sr g m, Al n B L l c sr g m → hgN c l = h1 + 1 → i ≤ L.1 → n - L.1 ≤ N → ∃ sr' g' m', lpw FC (nI i, sr, g) = some (sr', g') ∧ lpw FM m = some m' ∧ Fr sR [] sr sr' ∧ FrE m m' ∧ ((∃ kk p, De kk p sr' g' m') ∨ ∃ L' l' c', Al n B L' l' c' sr' g' m' ∧ L.1 ≤ L'.1 ∧ l' + L.1 ≤ l + L'.1 ∧ hgN c' l' = h1 + 1) := by
  intro N
  induction N with
  | zero =>
    intro n B i L l c sr g m h e hi hN
    rcases H.2 n B i L l c sr g m h1 h e hh hi with ⟨a1, a2⟩ | ⟨sr', g', m', a1, a2, a3, a4, a5⟩
    · exact ⟨sr, g, m, lpw_inr a1, lpw_inr a2, Fr.refl _ _ _, FrE.refl _, .inr ⟨L, l, c, h, Nat.le_refl _, Nat.le_refl _, e⟩⟩
    · rcases a5 with ⟨kk, p, hd⟩ | ⟨L', l', c', hA, d1, d2, d3⟩
      · obtain ⟨b1, b2⟩ := H.1 (i + 1) kk p sr' g' m' hd
        exact ⟨sr', g', m', by rw [lpw_inl a1, lpw_inr b1], by rw [lpw_inl a2, lpw_inr b2], a3, a4, .inl ⟨kk, p, hd⟩⟩
      · have := hA.sn
        omega
  | succ N ih =>
    intro n B i L l c sr g m h e hi hN
    rcases H.2 n B i L l c sr g m h1 h e hh hi with ⟨a1, a2⟩ | ⟨sr', g', m', a1, a2, a3, a4, a5⟩
    · exact ⟨sr, g, m, lpw_inr a1, lpw_inr a2, Fr.refl _ _ _, FrE.refl _, .inr ⟨L, l, c, h, Nat.le_refl _, Nat.le_refl _, e⟩⟩
    · rcases a5 with ⟨kk, p, hd⟩ | ⟨L', l', c', hA, d1, d2, d3⟩
      · obtain ⟨b1, b2⟩ := H.1 (i + 1) kk p sr' g' m' hd
        exact ⟨sr', g', m', by rw [lpw_inl a1, lpw_inr b1], by rw [lpw_inl a2, lpw_inr b2], a3, a4, .inl ⟨kk, p, hd⟩⟩
      · have := hA.sn
        obtain ⟨sr2, g2, m2, b1, b2, b3, b4, b5⟩ := ih n B (i + 1) L' l' c' sr' g' m' hA d3 (by omega) (by omega)
        refine ⟨sr2, g2, m2, by rw [lpw_inl a1, b1], by rw [lpw_inl a2, b2], a3.trans b3, a4.trans b4, ?_⟩
        rcases b5 with hd | ⟨L2, l2, c2, hA2, e1, e2, e3⟩
        · exact .inl hd
        · exact .inr ⟨L2, l2, c2, hA2, by omega, by omega, e3⟩
theorem lev_loop {F1 : St → St → Option (St × St)} {G1 : St → Option St} {hb : Nat} {FC : Int32 × St × St → Option ((Int32 × St × St) ⊕ (St × St))} {FM : St → Option (St ⊕ St)} (h1 : Lev F1 G1 hb) (H : StepH FC FM hb) : Lev (fun sr g => (F1 sr g).bind fun q1 => (lpw FC (0, q1.1, q1.2)).bind fun q2 => some (q2.1, q2.2)) (fun m => (G1 m).bind fun q1 => (lpw FM q1).bind fun q2 => some q2) hb := by
  constructor
  · intro n B L l c sr g m h hh
    obtain ⟨sr1, g1, m1, a1, a2, a3, a4, a5⟩ := h1.1 n B L l c sr g m h hh
    dsimp only
    rw [a1, Option.bind_some, a2, Option.bind_some]
    dsimp only
    rcases a5 with ⟨kk, p, hd, hx⟩ | ⟨hx, L1, l1, c1, hA, d1, d2, d3⟩
    · obtain ⟨b1, b2⟩ := H.1 0 kk p sr1 g1 m1 hd
      rw [show ((0 : Int32), sr1, g1) = (nI 0, sr1, g1) from rfl, lpw_inr b1, lpw_inr b2, Option.bind_some, Option.bind_some]
      exact ⟨sr1, g1, m1, rfl, rfl, a3, a4, .inl ⟨kk, p, hd, hx⟩⟩
    · obtain ⟨sr2, g2, m2, b1, b2, b3, b4, b5⟩ := op_loop H hh (n - L1.1) n B 0 L1 l1 c1 sr1 g1 m1 hA d3 (Nat.zero_le _) (Nat.le_refl _)
      rw [show ((0 : Int32), sr1, g1) = (nI 0, sr1, g1) from rfl, b1, b2, Option.bind_some, Option.bind_some]
      refine ⟨sr2, g2, m2, rfl, rfl, a3.trans b3, a4.trans b4, ?_⟩
      rcases b5 with ⟨kk, p, hd⟩ | ⟨L2, l2, c2, hA2, e1, e2, e3⟩
      · exact .inl ⟨kk, p, hd, fun u => absurd u hx⟩
      · exact .inr ⟨hx, L2, l2, c2, hA2, by omega, by omega, e3⟩
  · intro kk p sr g m hd
    obtain ⟨⟨g1, a1, a2⟩, a3⟩ := h1.2 kk p sr g m hd
    have hd1 : De kk p sr g1 m := ⟨hd.1, hd.2.1, hd.2.2.1, hd.2.2.2.1, hd.2.2.2.2.1, a2, hd.2.2.2.2.2.2⟩
    obtain ⟨b1, b2⟩ := H.1 0 kk p sr g1 m hd1
    dsimp only
    rw [a1, Option.bind_some, a3, Option.bind_some, show ((0 : Int32), (sr, g1).1, (sr, g1).2) = (nI 0, sr, g1) from rfl, lpw_inr b1, lpw_inr b2, Option.bind_some, Option.bind_some]
    exact ⟨⟨g1, rfl, a2⟩, rfl⟩
theorem product_step {x : Nat} {rec : St → St → Int32 → Option (St × St)} {rec' : St → Int32 → Option St} (hR : Lev (fun sr g => f6_part rec sr g (nI x)) (fun m => f11_readPart rec' m (nI x)) (5 * x + 5)) : StepH (f6_product_L2 rec (nI x)) (f11_readProduct_L2 rec' (nI x)) (5 * x + 4) := by
  constructor
  · intro i kk p sr g m h
    unfold f6_product_L2 f11_readProduct_L2
    dsimp only
    constructor
    · by_cases z : (600 : Int32) ≤ nI i
      · rw [if_pos z]
      · rw [if_neg z, if_neg h.c6]
    · rw [isMarked_dead h.m20, Option.bind_some, if_pos zB_f, isMarked_dead h.m20, Option.bind_some, if_pos zB_f]
  · intro n B i L l c sr g m h1 h hh hb hi
    have h317 := h.ok.c317
    have hn := h.n6
    have hm1 : f11_isMarked m 42 = some (decide (L.2.2.1 = 42)) := h.mark (x := 42) (by decide) (by decide)
    have hm2 : f11_isMarked m 47 = some (decide (L.2.2.1 = 47)) := h.mark (x := 47) (by decide) (by decide)
    unfold f6_product_L2 f11_readProduct_L2
    dsimp only
    by_cases z1 : L.2.2.1 = 42
    · rw [z1] at hm1
      right
      obtain ⟨q4, sr', g5, g6, p1, p2, p3, a1, a2, a3, a4, a5, a6, a7, a8, a9⟩ := op_step hR h (by omega) hh (by omega) (s := 10012) (by omega)
      have a2 : f6_part rec q4 g (nI x) = some (sr', g5) := a2
      have a5 : f11_readPart rec' p1 (nI x) = some p2 := a5
      have hlt := h.ok.2.2.1 (by omega)
      have hen := h.ok.2.1
      rw [if_neg (show ¬ (600 : Int32) ≤ nI i from nI_ge (b := 600) (by omega) (by decide)), h.c6, if_pos rfl, h.c7, z1, if_pos (show nI 42 = 42 from rfl), a1, Option.bind_some, a2, Option.bind_some, show -(nI 42) = cC 10012 from by decide +kernel, a3, Option.bind_some, hm1, Option.bind_some, decide_eq_true rfl, if_neg (by decide), Option.bind_some, if_neg (by decide), Option.bind_some, a4, Option.bind_some, a5, Option.bind_some, show (-22 : Int32) = mC 10012 from by decide +kernel, a6, Option.bind_some, nI_1]
      exact ⟨sr', g6, p3, rfl, rfl, a7, a8, a9⟩
    by_cases z1 : L.2.2.1 = 47
    · skip
      right
      obtain ⟨q4, sr', g5, g6, p1, p2, p3, a1, a2, a3, a4, a5, a6, a7, a8, a9⟩ := op_step hR h (by omega) hh (by omega) (s := 10013) (by omega)
      have a2 : f6_part rec q4 g (nI x) = some (sr', g5) := a2
      have a5 : f11_readPart rec' p1 (nI x) = some p2 := a5
      have hlt := h.ok.2.2.1 (by omega)
      have hen := h.ok.2.1
      rw [if_neg (show ¬ (600 : Int32) ≤ nI i from nI_ge (b := 600) (by omega) (by decide)), h.c6, if_pos rfl, h.c7, z1, if_neg (show ¬ nI 47 = 42 from by decide), if_pos (show nI 47 = 47 from rfl), a1, Option.bind_some, a2, Option.bind_some, show -(nI 47) = cC 10013 from by decide +kernel, a3, Option.bind_some, hm1, Option.bind_some, z1, decide_eq_false (by decide), if_pos zB_f, hm2, Option.bind_some, z1, decide_eq_true rfl, if_neg (by decide), Option.bind_some, if_pos zB_f, Option.bind_some, a4, Option.bind_some, a5, Option.bind_some, show (-23 : Int32) = mC 10013 from by decide +kernel, a6, Option.bind_some, nI_1]
      exact ⟨sr', g6, p3, rfl, rfl, a7, a8, a9⟩
    left
    rename_i z0
    rw [hm1, Option.bind_some, decide_eq_false z0, if_pos zB_f, hm2, Option.bind_some, decide_eq_false z1, if_pos zB_f]
    refine ⟨?_, rfl⟩
    by_cases z : (600 : Int32) ≤ nI i
    · rw [if_pos z]
    · rw [if_neg z, h.c6, if_pos rfl, h.c7, if_neg (show ¬ nI L.2.2.1 = 42 from fun u => z0 ((nI_eq (b := 42) (by omega) (by decide)).1 u)), if_neg (show ¬ nI L.2.2.1 = 47 from fun u => z1 ((nI_eq (b := 47) (by omega) (by decide)).1 u))]
theorem product_lev {x : Nat} {rec : St → St → Int32 → Option (St × St)} {rec' : St → Int32 → Option St} (hR : Lev (fun sr g => f6_part rec sr g (nI x)) (fun m => f11_readPart rec' m (nI x)) (5 * x + 5)) : Lev (fun sr g => f6_product rec sr g (nI x)) (fun m => f11_readProduct rec' m (nI x)) (5 * x + 4) :=
  lev_loop ⟨fun n B L l c sr g m h hh => hR.1 n B L l c sr g m h (by omega), hR.2⟩ (product_step hR)
theorem sum_step {x : Nat} {rec : St → St → Int32 → Option (St × St)} {rec' : St → Int32 → Option St} (hR : Lev (fun sr g => f6_product rec sr g (nI x)) (fun m => f11_readProduct rec' m (nI x)) (5 * x + 4)) : StepH (f6_sum_L2 rec (nI x)) (f11_readSum_L2 rec' (nI x)) (5 * x + 3) := by
  constructor
  · intro i kk p sr g m h
    unfold f6_sum_L2 f11_readSum_L2
    dsimp only
    constructor
    · by_cases z : (600 : Int32) ≤ nI i
      · rw [if_pos z]
      · rw [if_neg z, if_neg h.c6]
    · rw [isMarked_dead h.m20, Option.bind_some, if_pos zB_f, isMarked_dead h.m20, Option.bind_some, if_pos zB_f]
  · intro n B i L l c sr g m h1 h hh hb hi
    have h317 := h.ok.c317
    have hn := h.n6
    have hm1 : f11_isMarked m 43 = some (decide (L.2.2.1 = 43)) := h.mark (x := 43) (by decide) (by decide)
    have hm2 : f11_isMarked m 45 = some (decide (L.2.2.1 = 45)) := h.mark (x := 45) (by decide) (by decide)
    unfold f6_sum_L2 f11_readSum_L2
    dsimp only
    by_cases z1 : L.2.2.1 = 43
    · rw [z1] at hm1
      right
      obtain ⟨q4, sr', g5, g6, p1, p2, p3, a1, a2, a3, a4, a5, a6, a7, a8, a9⟩ := op_step hR h (by omega) hh (by omega) (s := 10010) (by omega)
      have a2 : f6_product rec q4 g (nI x) = some (sr', g5) := a2
      have a5 : f11_readProduct rec' p1 (nI x) = some p2 := a5
      have hlt := h.ok.2.2.1 (by omega)
      have hen := h.ok.2.1
      rw [if_neg (show ¬ (600 : Int32) ≤ nI i from nI_ge (b := 600) (by omega) (by decide)), h.c6, if_pos rfl, h.c7, z1, if_pos (show nI 43 = 43 from rfl), a1, Option.bind_some, a2, Option.bind_some, show -(nI 43) = cC 10010 from by decide +kernel, a3, Option.bind_some, hm1, Option.bind_some, decide_eq_true rfl, if_neg (by decide), Option.bind_some, if_neg (by decide), Option.bind_some, a4, Option.bind_some, a5, Option.bind_some, show (-20 : Int32) = mC 10010 from by decide +kernel, a6, Option.bind_some, nI_1]
      exact ⟨sr', g6, p3, rfl, rfl, a7, a8, a9⟩
    by_cases z1 : L.2.2.1 = 45
    · skip
      right
      obtain ⟨q4, sr', g5, g6, p1, p2, p3, a1, a2, a3, a4, a5, a6, a7, a8, a9⟩ := op_step hR h (by omega) hh (by omega) (s := 10011) (by omega)
      have a2 : f6_product rec q4 g (nI x) = some (sr', g5) := a2
      have a5 : f11_readProduct rec' p1 (nI x) = some p2 := a5
      have hlt := h.ok.2.2.1 (by omega)
      have hen := h.ok.2.1
      rw [if_neg (show ¬ (600 : Int32) ≤ nI i from nI_ge (b := 600) (by omega) (by decide)), h.c6, if_pos rfl, h.c7, z1, if_neg (show ¬ nI 45 = 43 from by decide), if_pos (show nI 45 = 45 from rfl), a1, Option.bind_some, a2, Option.bind_some, show -(nI 45) = cC 10011 from by decide +kernel, a3, Option.bind_some, hm1, Option.bind_some, z1, decide_eq_false (by decide), if_pos zB_f, hm2, Option.bind_some, z1, decide_eq_true rfl, if_neg (by decide), Option.bind_some, if_pos zB_f, Option.bind_some, a4, Option.bind_some, a5, Option.bind_some, show (-21 : Int32) = mC 10011 from by decide +kernel, a6, Option.bind_some, nI_1]
      exact ⟨sr', g6, p3, rfl, rfl, a7, a8, a9⟩
    left
    rename_i z0
    rw [hm1, Option.bind_some, decide_eq_false z0, if_pos zB_f, hm2, Option.bind_some, decide_eq_false z1, if_pos zB_f]
    refine ⟨?_, rfl⟩
    by_cases z : (600 : Int32) ≤ nI i
    · rw [if_pos z]
    · rw [if_neg z, h.c6, if_pos rfl, h.c7, if_neg (show ¬ nI L.2.2.1 = 43 from fun u => z0 ((nI_eq (b := 43) (by omega) (by decide)).1 u)), if_neg (show ¬ nI L.2.2.1 = 45 from fun u => z1 ((nI_eq (b := 45) (by omega) (by decide)).1 u))]
theorem sum_lev {x : Nat} {rec : St → St → Int32 → Option (St × St)} {rec' : St → Int32 → Option St} (hR : Lev (fun sr g => f6_product rec sr g (nI x)) (fun m => f11_readProduct rec' m (nI x)) (5 * x + 4)) : Lev (fun sr g => f6_sum rec sr g (nI x)) (fun m => f11_readSum rec' m (nI x)) (5 * x + 3) :=
  lev_loop ⟨fun n B L l c sr g m h hh => hR.1 n B L l c sr g m h (by omega), hR.2⟩ (sum_step hR)
end
