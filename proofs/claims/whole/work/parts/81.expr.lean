/-! conjunctions, expressions -/
section
variable {n : Nat} {B : Nat → Nat} {L : LX} {l : Nat} {c : Nat → Nat} {sr g m : St} {kk p : Nat}
theorem and_step {x : Nat} {rec : St → St → Int32 → Option (St × St)} {rec' : St → Int32 → Option St} (hR : Lev (fun sr g => f6_negation rec sr g (nI x)) (fun m => f11_readNot rec' m (nI x)) (5 * x + 1 + 1)) : StepH (f6_conjunction_L2 rec (nI x)) (f11_readAnd_L2 rec' (nI x)) (5 * x + 1) := by
  constructor
  · intro i kk p sr g m h
    unfold f6_conjunction_L2 f11_readAnd_L2
    dsimp only
    constructor
    · by_cases z : (600 : Int32) ≤ nI i
      · rw [if_pos z]
      · rw [if_neg z, if_neg h.c6]
    · rw [is_dead h.m20, Option.bind_some, if_pos zB_f]
  · intro n B i L l c sr g m h1 h hh hb hi
    have h317 := h.ok.c317
    have hn := h.n6
    have hm1 : f11_is m 8 = some (decide (L.2.2.1 = 300 + 8)) := h.is (i := 8) (by decide)
    unfold f6_conjunction_L2 f11_readAnd_L2
    dsimp only
    by_cases z1 : L.2.2.1 = 308
    · right
      obtain ⟨q4, sr', g5, g6, p1, p2, p3, a1, a2, a3, a4, a5, a6, a7, a8, a9⟩ := op_step hR h (by omega) hh (by omega) (s := 10016) (by omega)
      have a2 : f6_negation rec q4 g (nI x) = some (sr', g5) := a2
      have a5 : f11_readNot rec' p1 (nI x) = some p2 := a5
      have a3 : f7_add g5 (-308) = some g6 := a3
      have a6 : f11_lay p2 (-26) = some p3 := a6
      have hlt := h.ok.2.2.1 (by omega)
      have hen := h.ok.2.1
      rw [if_neg (show ¬ (600 : Int32) ≤ nI i from nI_ge (b := 600) (by omega) (by decide)), h.c6, if_pos rfl, h.c7, z1, if_pos (show nI 308 = 308 from rfl), a1, Option.bind_some, a2, Option.bind_some, a3, Option.bind_some, hm1, z1, Option.bind_some, decide_eq_true (by omega), if_neg (by decide), a4, Option.bind_some, a5, Option.bind_some, a6, Option.bind_some, nI_1]
      exact ⟨sr', g6, p3, rfl, rfl, a7, a8, a9⟩
    · left
      rw [hm1, Option.bind_some, decide_eq_false (by omega), if_pos zB_f]
      refine ⟨?_, rfl⟩
      by_cases z : (600 : Int32) ≤ nI i
      · rw [if_pos z]
      · rw [if_neg z, h.c6, if_pos rfl, h.c7, if_neg (show ¬ nI L.2.2.1 = 308 from fun u => z1 ((nI_eq (b := 308) (by omega) (by decide)).1 u))]
theorem and_lev {x : Nat} {rec : St → St → Int32 → Option (St × St)} {rec' : St → Int32 → Option St} (hR : Lev (fun sr g => f6_negation rec sr g (nI x)) (fun m => f11_readNot rec' m (nI x)) (5 * x + 2)) : Lev (fun sr g => f6_conjunction rec sr g (nI x)) (fun m => f11_readAnd rec' m (nI x)) (5 * x + 1) :=
  lev_loop ⟨fun n B L l c sr g m h hh => hR.1 n B L l c sr g m h (by omega), hR.2⟩ (and_step hR)
theorem or_step {x : Nat} {rec : St → St → Int32 → Option (St × St)} {rec' : St → Int32 → Option St} (hR : Lev (fun sr g => f6_conjunction rec sr g (nI x)) (fun m => f11_readAnd rec' m (nI x)) (5 * x + 1)) : StepH (f6_expression_b_L2 rec (nI x)) (f11_readExpression_b_L7 rec' (nI x)) (5 * x) := by
  constructor
  · intro i kk p sr g m h
    unfold f6_expression_b_L2 f11_readExpression_b_L7
    dsimp only
    constructor
    · by_cases z : (600 : Int32) ≤ nI i
      · rw [if_pos z]
      · rw [if_neg z, if_neg h.c6]
    · rw [is_dead h.m20, Option.bind_some, if_pos zB_f]
  · intro n B i L l c sr g m h1 h hh hb hi
    have h317 := h.ok.c317
    have hn := h.n6
    have hm1 : f11_is m 7 = some (decide (L.2.2.1 = 300 + 7)) := h.is (i := 7) (by decide)
    unfold f6_expression_b_L2 f11_readExpression_b_L7
    dsimp only
    by_cases z1 : L.2.2.1 = 307
    · right
      obtain ⟨q4, sr', g5, g6, p1, p2, p3, a1, a2, a3, a4, a5, a6, a7, a8, a9⟩ := op_step hR h (by omega) hh (by omega) (s := 10017) (by omega)
      have a2 : f6_conjunction rec q4 g (nI x) = some (sr', g5) := a2
      have a5 : f11_readAnd rec' p1 (nI x) = some p2 := a5
      have a3 : f7_add g5 (-307) = some g6 := a3
      have a6 : f11_lay p2 (-27) = some p3 := a6
      have hlt := h.ok.2.2.1 (by omega)
      have hen := h.ok.2.1
      rw [if_neg (show ¬ (600 : Int32) ≤ nI i from nI_ge (b := 600) (by omega) (by decide)), h.c6, if_pos rfl, h.c7, z1, if_pos (show nI 307 = 307 from rfl), a1, Option.bind_some, a2, Option.bind_some, a3, Option.bind_some, hm1, z1, Option.bind_some, decide_eq_true (by omega), if_neg (by decide), a4, Option.bind_some, a5, Option.bind_some, a6, Option.bind_some, nI_1]
      exact ⟨sr', g6, p3, rfl, rfl, a7, a8, a9⟩
    · left
      rw [hm1, Option.bind_some, decide_eq_false (by omega), if_pos zB_f]
      refine ⟨?_, rfl⟩
      by_cases z : (600 : Int32) ≤ nI i
      · rw [if_pos z]
      · rw [if_neg z, h.c6, if_pos rfl, h.c7, if_neg (show ¬ nI L.2.2.1 = 307 from fun u => z1 ((nI_eq (b := 307) (by omega) (by decide)).1 u))]
/-- the levels below an expression, when it is not too deep -/
theorem or_lev {x : Nat} {rec : St → St → Int32 → Option (St × St)} {rec' : St → Int32 → Option St} (hR : Lev (fun sr g => f6_conjunction rec sr g (nI x)) (fun m => f11_readAnd rec' m (nI x)) (5 * x + 1)) : Lev (fun sr g => (f6_conjunction rec sr g (nI x)).bind fun q1 => (lpw (f6_expression_b_L2 rec (nI x)) (0, q1.1, q1.2)).bind fun q2 => some (q2.1, q2.2)) (fun m => (f11_readAnd rec' m (nI x)).bind fun q6 => (lpw (f11_readExpression_b_L7 rec' (nI x)) q6).bind fun q7 => some q7) (5 * x) :=
  lev_loop ⟨fun n B L l c sr g m h hh => hR.1 n B L l c sr g m h (by omega), hR.2⟩ (or_step hR)
/-- the reference's readAnd and what follows, with a fault: nothing -/
theorem or_deadM {x : Nat} {rec' : St → Int32 → Option St} (h : ¬ m.1 20 = 0) : ((f11_readAnd rec' m (nI x)).bind fun q6 => (lpw (f11_readExpression_b_L7 rec' (nI x)) q6).bind fun q7 => some q7) = some m := by
  have e1 : f11_readPart rec' m (nI x) = some m := by
    unfold f11_readPart
    rw [if_neg h]
  have e2 : f11_readProduct rec' m (nI x) = some m := by
    unfold f11_readProduct
    rw [e1, Option.bind_some, lpw_inr (r := m) (by
      unfold f11_readProduct_L2
      rw [isMarked_dead h, Option.bind_some, if_pos zB_f, isMarked_dead h, Option.bind_some, if_pos zB_f]), Option.bind_some]
  have e3 : f11_readSum rec' m (nI x) = some m := by
    unfold f11_readSum
    rw [e2, Option.bind_some, lpw_inr (r := m) (by
      unfold f11_readSum_L2
      rw [isMarked_dead h, Option.bind_some, if_pos zB_f, isMarked_dead h, Option.bind_some, if_pos zB_f]), Option.bind_some]
  have e4 : fmCmp rec' (nI x) m = some m := by
    unfold fmCmp
    rw [e3, Option.bind_some, isMarked_dead h, Option.bind_some, if_pos zB_f, isMarked_dead h, Option.bind_some, if_pos zB_f]
  have e5 : f11_readNot rec' m (nI x) = some m := by
    have f3 : lpw (f11_readNot_L21 (nI 0, m)) (0, m) = some m := nots_dead (by omega) m h 0 0 (by omega)
    rw [readNot_e, lpw_inr (r := (nI 0, m)) (by
      unfold f11_readNot_L1
      dsimp only
      rw [is_dead h, Option.bind_some, if_pos zB_f]
      rfl), Option.bind_some, e4, Option.bind_some, f3, Option.bind_some]
  have e6 : f11_readAnd rec' m (nI x) = some m := by
    unfold f11_readAnd
    rw [e5, Option.bind_some, lpw_inr (r := m) (by
      unfold f11_readAnd_L2
      rw [is_dead h, Option.bind_some, if_pos zB_f]), Option.bind_some]
  rw [e6, Option.bind_some, lpw_inr (r := m) (by
    unfold f11_readExpression_b_L7
    rw [is_dead h, Option.bind_some, if_pos zB_f]), Option.bind_some]
def nstB (L : LX) : Bool := decide (L.2.2.1 ≠ 2 ∧ L.2.2.1 < 300 ∧ L.2.2.1 ≠ 40)
theorem nst_t {L : LX} (h : nst L) : nstB L = true := decide_eq_true h
theorem nst_f {L : LX} (h : ¬ nst L) : nstB L = false := decide_eq_false h
theorem starter (h : Al n B L l c sr g m) : (if (m.1 16) = 2 then some true else if (m.1 16) = 1 then some true else (f11_isMarked m (40 : Int32)).bind fun q2 => if (zB q2) = 0 then some false else some true : Option Bool) = some (!nstB L) := by
  have h317 := h.ok.c317
  rw [h.m16, show f11_isMarked m 40 = _ from h.mark (x := 40) (by decide) (by decide), Option.bind_some]
  by_cases z2 : L.2.2.1 = 2
  · rw [if_pos (show nI (md L.2.2.1) = 2 from by rw [z2]; rfl), nst_f (fun u => u.1 z2)]; rfl
  · have a0 : L.2.2.1 = 0 → md L.2.2.1 = 0 := fun u => by rw [u]; rfl
    have a1 : L.2.2.1 = 1 → md L.2.2.1 = 4 := fun u => by rw [u]; rfl
    have a3 : L.2.2.1 ≠ 0 → L.2.2.1 ≠ 1 → L.2.2.1 < 300 → md L.2.2.1 = 3 := fun u v w => by
      unfold md
      rw [if_neg u, if_neg v, if_neg z2, if_pos w]
    have a4 : 300 ≤ L.2.2.1 → md L.2.2.1 = 1 := fun w => by
      unfold md
      rw [if_neg (by omega), if_neg (by omega), if_neg z2, if_neg (by omega)]
    by_cases z3 : 300 ≤ L.2.2.1
    · rw [a4 z3, if_neg (by decide), if_pos (show nI 1 = 1 from rfl), nst_f (fun u => by have := u.2.1; omega)]; rfl
    · have e : md L.2.2.1 = 0 ∨ md L.2.2.1 = 4 ∨ md L.2.2.1 = 3 := by
        by_cases u : L.2.2.1 = 0
        · exact .inl (a0 u)
        · by_cases v : L.2.2.1 = 1
          · exact .inr (.inl (a1 v))
          · exact .inr (.inr (a3 u v (by omega)))
      have n2 : ¬ nI (md L.2.2.1) = 2 := by rcases e with e | e | e <;> rw [e] <;> decide
      have n1 : ¬ nI (md L.2.2.1) = 1 := by rcases e with e | e | e <;> rw [e] <;> decide
      rw [if_neg n2, if_neg n1]
      by_cases z4 : L.2.2.1 = 40
      · rw [decide_eq_true z4, if_neg (by decide), nst_f (fun u => u.2.2 z4)]; rfl
      · rw [decide_eq_false z4, if_pos zB_f, nst_t ⟨z2, by omega, z4⟩]; rfl
theorem expr_dead {d : Nat} {x : Int32} (h : De kk p sr g m) : f6_expression (d + 1) sr g x = some (sr, g) ∧ f11_readExpression (d + 1) m x = some m := by
  constructor
  · show f6_expression_b _ sr g x = _
    unfold f6_expression_b
    rw [if_neg h.c6]
  · show f11_readExpression_b _ m x = _
    unfold f11_readExpression_b
    rw [if_neg h.m20]
theorem expr_6 : Lev (fun sr g => f6_expression 2 sr g (nI 6)) (fun m => f11_readExpression 2 m (nI 6)) 30 := by
  constructor
  · intro n B L l c sr g m h hh
    dsimp only
    have h317 := h.ok.c317
    show ∃ sr' g' m', f6_expression_b (f6_expression 1) sr g (nI 6) = _ ∧ f11_readExpression_b (f11_readExpression 1) m (nI 6) = _ ∧ _
    unfold f6_expression_b f11_readExpression_b
    rw [h.c6, if_pos rfl, if_neg (show ¬ nI 6 < 6 from by decide), h.c7, starter h, h.m20, if_pos rfl, Option.bind_some]
    have go : ∀ k, 0 < k → k < 6 → ∃ sr' m', f6_fail sr (nI k) = some sr' ∧ f11_wrong m (nI k) = some m' ∧ Fr sR [] sr sr' ∧ FrE m m' ∧ De k L.1 sr' g m' ∧ ((f11_readAnd (f11_readExpression 1) m' (nI 6)).bind fun q6 => (lpw (f11_readExpression_b_L7 (f11_readExpression 1) (nI 6)) q6).bind fun q7 => some q7) = some m' := fun k k1 k2 => by
      obtain ⟨sr', m', a1, a2, a3, a4, a5⟩ := both_fail h (k := k) k1 k2
      exact ⟨sr', m', a1, a2, a3, a4, a5, or_deadM a5.m20⟩
    by_cases z : nst L
    · obtain ⟨sr', m', a1, a2, a3, a4, a5, a6⟩ := go 1 (by decide) (by decide)
      rw [nst_t z, if_neg (show ¬ nI L.2.2.1 = 2 from fun u => z.1 ((nI_eq (b := 2) (by omega) (by decide)).1 u)), if_neg (show ¬ (300 : Int32) ≤ nI L.2.2.1 from nI_ge (b := 300) z.2.1 (by decide)), if_neg (show ¬ nI L.2.2.1 = 40 from fun u => z.2.2 ((nI_eq (b := 40) (by omega) (by decide)).1 u)), Option.bind_some, show f6_fail sr 1 = some sr' from a1, Option.bind_some, if_pos (by decide), show f11_wrong m 1 = some m' from a2, Option.bind_some, Option.bind_some, a6]
      exact ⟨sr', g, m', rfl, rfl, a3, a4, .inl ⟨1, L.1, a5, fun _ => ⟨rfl, rfl⟩⟩⟩
    · obtain ⟨sr', m', a1, a2, a3, a4, a5, a6⟩ := go 2 (by decide) (by decide)
      have ek : (if nI L.2.2.1 = 2 then some 2 else if (300 : Int32) ≤ nI L.2.2.1 then some 2 else if nI L.2.2.1 = 40 then some 2 else some 1 : Option Int32) = some 2 := by
        by_cases u1 : L.2.2.1 = 2
        · rw [u1, if_pos (show nI 2 = 2 from rfl)]
        · rw [if_neg (show ¬ nI L.2.2.1 = 2 from fun u => u1 ((nI_eq (b := 2) (by omega) (by decide)).1 u))]
          by_cases u2 : 300 ≤ L.2.2.1
          · rw [if_pos (show (300 : Int32) ≤ nI L.2.2.1 from nI_le (a := 300) u2 (by omega))]
          · rw [if_neg (show ¬ (300 : Int32) ≤ nI L.2.2.1 from nI_ge (b := 300) (by omega) (by decide))]
            by_cases u3 : L.2.2.1 = 40
            · rw [u3, if_pos (show nI 40 = 40 from rfl)]
            · exact absurd ⟨u1, by omega, u3⟩ z
      rw [ek, Option.bind_some, show f6_fail sr 2 = some sr' from a1, Option.bind_some, nst_f z, if_neg (by decide), if_pos (show nI 6 = 6 from rfl), show f11_wrong m 2 = some m' from a2, Option.bind_some, Option.bind_some, a6]
      exact ⟨sr', g, m', rfl, rfl, a3, a4, .inl ⟨2, L.1, a5, fun u => absurd u z⟩⟩
  · intro kk p sr g m h
    obtain ⟨a1, a2⟩ := expr_dead (d := 1) (x := nI 6) h
    exact ⟨⟨g, a1, h.2.2.2.2.2.1⟩, a2⟩
theorem expr_lev : ∀ d x, x + d = 6 → Lev (fun sr g => f6_expression (d + 2) sr g (nI x)) (fun m => f11_readExpression (d + 2) m (nI x)) (5 * x) := by
  intro d
  induction d with
  | zero =>
    intro x hx
    obtain rfl : x = 6 := by omega
    exact expr_6
  | succ d ih =>
    intro x hx
    have hr := ih (x + 1) (by omega)
    have hO := or_lev (and_lev (not_lev (cmp_lev (sum_lev (product_lev (part_lev (by omega) hr))))))
    constructor
    · intro n B L l c sr g m h hh
      dsimp only
      show ∃ sr' g' m', f6_expression_b (f6_expression (d + 2)) sr g (nI x) = _ ∧ f11_readExpression_b (f11_readExpression (d + 2)) m (nI x) = _ ∧ _
      obtain ⟨sr', g', m', a1, a2, a3, a4, a5⟩ := hO.1 n B L l c sr g m h hh
      dsimp only at a1 a2
      unfold f6_expression_b f11_readExpression_b
      rw [h.c6, if_pos rfl, if_pos (show nI x < 6 from nI_lt (b := 6) (by omega) (by decide)), a1, starter h, h.m20, if_pos rfl, Option.bind_some]
      by_cases z : nst L
      · obtain ⟨sr2, m2, b1, b2, b3, b4, b5⟩ := both_fail h (k := 1) (by decide) (by decide)
        rw [nst_t z, if_pos (by decide), show f11_wrong m 1 = some m2 from b2, Option.bind_some, Option.bind_some, or_deadM b5.m20]
        refine ⟨sr', g', m2, rfl, rfl, a3, b4, ?_⟩
        rcases a5 with ⟨kk, p, hd, hx⟩ | ⟨hx, -⟩
        · obtain ⟨rfl, rfl⟩ := hx z
          exact .inl ⟨1, L.1, ⟨hd.1, hd.2.1, hd.2.2.1, hd.2.2.2.1, hd.2.2.2.2.1, hd.2.2.2.2.2.1, b5.2.2.2.2.2.2⟩, fun _ => ⟨rfl, rfl⟩⟩
        · exact absurd z hx
      · rw [nst_f z, if_neg (by decide), if_neg (show ¬ nI x = 6 from fun u => by have := (nI_eq (b := 6) (by omega) (by decide)).1 u; omega), Option.bind_some, a2]
        exact ⟨sr', g', m', rfl, rfl, a3, a4, a5⟩
    · intro kk p sr g m h
      obtain ⟨a1, a2⟩ := expr_dead (d := d + 2) (x := nI x) h
      exact ⟨⟨g, a1, h.2.2.2.2.2.1⟩, a2⟩
theorem expr_8 : Lev (fun sr g => f6_expression 8 sr g (0 : Int32)) (fun m => f11_readExpression 8 m (0 : Int32)) 0 := expr_lev 6 0 rfl
end
