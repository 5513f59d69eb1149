/-! a part of an expression -/
section
variable {n : Nat} {B : Nat → Nat} {L : LX} {l : Nat} {c : Nat → Nat} {sr g m : St} {kk p : Nat}
theorem Al.push (h : Al n B L l c sr g m) (hl : l < L.1) {s : Nat} (hs : okS s (hgN c l)) : ∃ g' m', f7_add g (cC s) = some g' ∧ f11_lay m (mC s) = some m' ∧ FrE m m' ∧ Al n B L (l + 1) (upC c l s) sr g' m' := by
  have hn := h.n6
  have hsn := h.sn
  obtain ⟨g', a1, a2⟩ := C_addR h.2.2.2.1 (by omega) s
  obtain ⟨m', b1, b2, b3, b4, b5⟩ := M_layR h.m20 h.2.2.2.2.1 (by omega) s
  refine ⟨g', m', a1, b1, b3, h.1, ?_, h.ok, a2, b2, hl, upC_ok h.2.2.2.2.2.2.1 hs, h.2.2.2.2.2.2.2⟩
  have := h.2.1
  unfold LxM ByM at this ⊢
  rw [b4, b5]
  exact this
/-- the next token, after the reference has laid a step -/
theorem both_step2 (h : Al n B L l c sr g m) (h0 : L.2.2.1 ≠ 0) {m1 : St} (e1 : m1.1 = m.1) (e2 : m1.2 12 = m.2 12) : ∃ sr' m' L', f6_accept sr = some sr' ∧ f11_stepOn m1 = some m' ∧ Fr sR [] sr sr' ∧ Fr [14, 16, 17, 18, 19] [] m1 m' ∧ LxC n B L' sr' ∧ LxM n B L' m' ∧ LOk n B L' ∧ sr'.1 3 = -1 ∧ L.1 < L'.1 := by
  have hlt := h.ok.2.2.1 h0
  have hM := h.2.1
  unfold LxM ByM at hM
  rw [← e1, ← e2] at hM
  obtain ⟨L', hT⟩ := tok_ex n B h.ok.2.1
  obtain ⟨sr', a1, a2, a3⟩ := C_accept h.1.1 h.1.2.1 h.c6 h.1.2.2.2.2.2.1 hT
  obtain ⟨m', b1, b2, b3⟩ := M_stepOn (m := m1) hM.1 hM.2.1 hM.2.2.1 hM.2.2.2.2.2.1 hT
  have ha := hT.1
  exact ⟨sr', m', L', a1, b1, a3.mono (by decide) (by decide), b3, a2, b2, hT.ok fun k hk => (h.1.1.2 k hk).1, (a3.1 3 (by decide)).trans h.2.2.2.2.2.2.2, by omega⟩
theorem both_expect (h : Al n B L l c sr g m) {x : Nat} (hx : x < 62) (hx2 : sgnB x = true) : ∃ sr' m', f6_expect sr (nI x) = some sr' ∧ f11_mark m (nI x) = some m' ∧ Fr sR [] sr sr' ∧ FrE m m' ∧ (De 1 L.1 sr' g m' ∨ (L.2.2.1 = x ∧ ∃ L', Al n B L' l c sr' g m' ∧ L.1 < L'.1)) := by
  have hx3 : 40 ≤ x := (sgn_lt x (by omega) hx2).2
  have h317 := h.ok.c317
  unfold f6_expect f11_mark
  rw [h.c7, h.m20, if_pos rfl, h.mark hx hx2, Option.bind_some]
  by_cases z : L.2.2.1 = x
  · obtain ⟨sr', m', L', a1, a2, a3, a4, a5, a6⟩ := both_step h (by omega)
    rw [if_pos (by rw [z]), Option.bind_some, a1, Option.bind_some, decide_eq_true z, if_neg (by decide), Option.bind_some, h.m20, if_pos rfl, a2, Option.bind_some, Option.bind_some]
    exact ⟨sr', m', rfl, rfl, a3, a4, .inr ⟨z, L', a5, a6⟩⟩
  · obtain ⟨sr', m', a1, a2, a3, a4, a5⟩ := both_fail h (k := 1) (by decide) (by decide)
    rw [if_neg (fun y => z ((nI_eq (by omega) (by omega)).1 y)), show f6_fail sr 1 = some sr' from a1, Option.bind_some, Option.bind_some, accept_dead a5.c6, Option.bind_some, decide_eq_false z, if_pos zB_f, show f11_wrong m 1 = some m' from a2, Option.bind_some, Option.bind_some, if_neg a5.m20, Option.bind_some]
    exact ⟨sr', m', rfl, rfl, a3, a4, .inl a5⟩
theorem M_numberNow (h : LxM n B L m) (hO : LOk n B L) {hi : Nat} (hh : hi < 100000) : (L.2.2.1 = 2 ∧ L.2.1 - L.1 ≤ 4 ∧ L.2.2.2 ≤ hi ∧ f11_numberNow m 0 (nI hi) = some (nI L.2.2.2, m)) ∨ (¬ (L.2.2.1 = 2 ∧ L.2.1 - L.1 ≤ 4 ∧ L.2.2.2 ≤ hi) ∧ f11_numberNow m 0 (nI hi) = (f11_wrong m (nI (if L.2.2.1 = 2 then 2 else 1))).bind fun q => some (0, q)) := by
  obtain ⟨hB, h15, h20, h16, h18, h14, h19, h17⟩ := h
  have hn := hB.1
  have hse := hO.1
  have hen := hO.2.1
  have wr : ∀ k, (f11_wrong m (nI (k + 1))) = some (sS (sS m 20 (nI (k + 1))) 21 (nI L.1)) := fun k => by
    unfold f11_wrong
    rw [h20, if_pos rfl, Option.bind_some, show (sS m 20 (nI (k + 1))).1 18 = nI L.1 from h18, Option.bind_some]
  have e20 : ∀ k, k < 10 → ¬ (sS (sS m 20 (nI (k + 1))) 21 (nI L.1)).1 20 = 0 := fun k hk => nI_ne0 (by omega) (by omega)
  unfold f11_numberNow
  rw [h20, if_pos rfl, h16]
  by_cases z : L.2.2.1 = 2
  · rw [z, if_pos (show nI (md 2) = 2 from rfl), h18, h19, pk_sub hse, show (4 : Int32) = nI 4 from rfl]
    by_cases y : L.2.1 - L.1 ≤ 4
    · have hv : L.2.2.2 ≤ 9999 := by
        rcases hO.2.2.2 with w | w | w | w | w
        · omega
        · omega
        · exact w.2 y
        · rw [z] at w; have := w.2.1; cases this
        · omega
      rw [if_neg (nI_nlt (by omega) (by omega)), h17 z y, if_neg (nI_pos (by omega))]
      by_cases w : L.2.2.2 ≤ hi
      · left
        rw [if_pos (nI_le (by omega) (by omega)), Option.bind_some, h20, if_pos rfl, h17 z y]
        exact ⟨rfl, y, w, rfl⟩
      · right
        refine ⟨fun u => w u.2.2, ?_⟩
        rw [if_neg (nI_ge (by omega) (by omega)), if_pos rfl, show f11_wrong m 2 = _ from wr 1, show f11_wrong m (nI 2) = _ from wr 1, Option.bind_some, Option.bind_some, Option.bind_some, if_neg (e20 1 (by decide))]
    · right
      refine ⟨fun u => y u.2.1, ?_⟩
      rw [if_pos (nI_lt (by omega) (by omega)), if_pos rfl, show f11_wrong m 2 = _ from wr 1, show f11_wrong m (nI 2) = _ from wr 1, Option.bind_some, Option.bind_some, Option.bind_some, if_neg (e20 1 (by decide))]
  · right
    have e2 : ¬ nI (md L.2.2.1) = 2 := by
      unfold md
      intro u
      by_cases a0 : L.2.2.1 = 0
      · rw [if_pos a0] at u; cases u
      · rw [if_neg a0] at u
        by_cases a1 : L.2.2.1 = 1
        · rw [if_pos a1] at u; cases u
        · rw [if_neg a1, if_neg z] at u
          by_cases a3 : L.2.2.1 < 300
          · rw [if_pos a3] at u; cases u
          · rw [if_neg a3] at u; cases u
    refine ⟨fun u => z u.1, ?_⟩
    rw [if_neg e2, if_neg z, show f11_wrong m 1 = _ from wr 0, show f11_wrong m (nI 1) = _ from wr 0, Option.bind_some, Option.bind_some, Option.bind_some, if_neg (e20 0 (by decide))]
theorem Al.which1 (h : Al n B L l c sr g m) : f11_which_1 m = some (if 310 ≤ L.2.2.1 ∧ L.2.2.1 < 316 then nI (L.2.2.1 - 310) else -1) := by
  have st : ∀ k, k < 6 → f11_which_1_L1 m (nI k) = if L.2.2.1 = 310 + k then some (.inr (.inl (nI k))) else some (.inl (nI (k + 1))) := fun k hk => by
    unfold f11_which_1_L1
    rw [if_neg (show ¬ (6 : Int32) ≤ nI k from nI_ge (b := 6) hk (by decide)), ckO_n hk (by decide), Option.bind_some, h.is (show 10 + k < 16 by omega), Option.bind_some, nI_1]
    by_cases z : L.2.2.1 = 310 + k
    · rw [if_pos z, decide_eq_true (by omega), if_neg (by decide)]
    · rw [if_neg z, decide_eq_false (by omega), if_pos zB_f]
  have e : ∃ q, lpw (f11_which_1_L1 m) 0 = some q ∧ q = if 310 ≤ L.2.2.1 ∧ L.2.2.1 < 316 then .inl (nI (L.2.2.1 - 310)) else .inr () := by
    refine lpw_E (fun k v => v = nI k ∧ ∀ j, j < k → L.2.2.1 ≠ 310 + j) _ 6 (fun k v hk hI => ?_) (fun v hI => ?_) (Nat.zero_le _) ⟨rfl, fun j hj => absurd hj (Nat.not_lt_zero j)⟩
    · obtain ⟨rfl, ha⟩ := hI
      rw [st k hk]
      by_cases z : L.2.2.1 = 310 + k
      · right
        rw [if_pos z, if_pos ⟨by omega, by omega⟩]
        exact ⟨_, rfl, by rw [show L.2.2.1 - 310 = k by omega]⟩
      · left
        rw [if_neg z]
        refine ⟨_, rfl, rfl, fun j hj => ?_⟩
        by_cases w : j = k
        · rw [w]; exact z
        · exact ha j (by omega)
    · obtain ⟨rfl, ha⟩ := hI
      refine ⟨_, if_pos (Int32.le_refl _), ?_⟩
      rw [if_neg]
      rintro ⟨w1, w2⟩
      exact ha (L.2.2.1 - 310) (by omega) (by omega)
  obtain ⟨q, e1, e2⟩ := e
  unfold f11_which_1
  rw [e1, Option.bind_some, e2]
  by_cases z : 310 ≤ L.2.2.1 ∧ L.2.2.1 < 316
  · rw [if_pos z, if_pos z]
  · rw [if_neg z, if_neg z]
theorem vC : ∀ i, i < 6 → -(nI (310 + i)) = cC (10000 + i) ∧ ((-1) : Int32) - nI i = mC (10000 + i) ∧ nI i ≠ -1 := by decide +kernel
theorem part_lev {x : Nat} (hx : x ≤ 5) {rec : St → St → Int32 → Option (St × St)} {rec' : St → Int32 → Option St} (hr : Lev (fun sr g => rec sr g (nI (x + 1))) (fun m => rec' m (nI (x + 1))) (5 * (x + 1))) : Lev (fun sr g => f6_part rec sr g (nI x)) (fun m => f11_readPart rec' m (nI x)) (5 * x + 5) := by
  constructor
  · intro n B L l c sr g m h hh
    dsimp only
    have hn := h.n6
    have hsn := h.sn
    have hlS := h.lS
    have h317 := h.ok.c317
    have hen := h.ok.2.1
    unfold f6_part f11_readPart
    rw [h.m20, if_pos rfl, h.c7, h.m16]
    by_cases z2 : L.2.2.1 = 2
    · -- a number
      have hlt := h.ok.2.2.1 (by omega)
      obtain ⟨d10, d11⟩ := h.1.2.2.2.2.2.2 z2
      rw [z2, if_pos (show nI 2 = 2 from rfl), if_pos (show nI (md 2) = 2 from rfl), d10]
      unfold f11_readNumber
      rcases M_numberNow h.2.1 h.ok (hi := 9999) (by decide) with ⟨-, y, w, e⟩ | ⟨y, e⟩
      · rw [show f11_numberNow m 0 9999 = _ from e, Option.bind_some]
        dsimp only
        rw [h.m20, if_pos rfl, if_pos (show nI (L.2.1 - L.1) ≤ 4 from nI_le (b := 4) (by omega) (by decide)), Option.bind_some, d11 y]
        obtain ⟨sr', m1, L', a1, a2, a3, a4, a5, a6⟩ := both_step h (by omega)
        obtain ⟨g', m', b1, b2, b3, b4⟩ := a5.push (s := L.2.2.2) (by omega) (.inl ⟨by omega, by omega⟩)
        rw [cC_n (by omega)] at b1
        rw [mC_n (by omega)] at b2
        rw [b1, Option.bind_some, a1, Option.bind_some, a2, Option.bind_some, Option.bind_some, Option.bind_some, Option.bind_some, b2, Option.bind_some]
        refine ⟨sr', g', m', rfl, rfl, a3, a4.trans b3, .inr ⟨fun u => u.1 z2, L', l + 1, _, b4, a6, by omega, ?_⟩⟩
        rw [upC_hg1]
        unfold hgS
        rw [if_pos (by omega)]
      · obtain ⟨sr', m', a1, a2, a3, a4, a5⟩ := both_fail h (k := 2) (by decide) (by decide)
        have hy : ¬ L.2.1 - L.1 ≤ 4 := fun u => y ⟨z2, u, by
          rcases h.ok.2.2.2 with w | w | w | w | w
          · omega
          · omega
          · exact w.2 u
          · rw [z2] at w; have := w.2.1; cases this
          · omega⟩
        rw [show f11_numberNow m 0 9999 = _ from e, if_pos z2, a2, Option.bind_some, Option.bind_some]
        dsimp only
        rw [if_neg a5.m20, if_neg (show ¬ nI (L.2.1 - L.1) ≤ 4 from nI_ge (a := 4) (by omega) (by omega)), show f6_fail sr 2 = some sr' from a1, Option.bind_some, Option.bind_some]
        obtain ⟨g', b1, b2⟩ := C_add_any a5.2.2.2.2.2.1 (sr'.1 11)
        rw [b1, Option.bind_some, accept_dead a5.c6, Option.bind_some, Option.bind_some, Option.bind_some, Option.bind_some, lay_dead a5.m20, Option.bind_some]
        exact ⟨sr', g', m', rfl, rfl, a3, a4, .inl ⟨2, L.1, ⟨a5.1, a5.2.1, a5.2.2.1, a5.2.2.2.1, a5.2.2.2.2.1, b2, a5.2.2.2.2.2.2⟩, fun u => absurd z2 u.1⟩⟩
    rw [if_neg (show ¬ nI L.2.2.1 = 2 from fun u => z2 ((nI_eq (b := 2) (by omega) (by decide)).1 u))]
    have hmd2 : ¬ nI (md L.2.2.1) = 2 := by
      unfold md
      intro u
      by_cases a0 : L.2.2.1 = 0
      · rw [if_pos a0] at u; cases u
      · rw [if_neg a0] at u
        by_cases a1 : L.2.2.1 = 1
        · rw [if_pos a1] at u; cases u
        · rw [if_neg a1, if_neg z2] at u
          by_cases a3 : L.2.2.1 < 300
          · rw [if_pos a3] at u; cases u
          · rw [if_neg a3] at u; cases u
    rw [if_neg hmd2]
    by_cases z3 : 300 ≤ L.2.2.1
    · -- a word
      have hmd : nI (md L.2.2.1) = 1 := by
        unfold md
        rw [if_neg (by omega), if_neg (by omega), if_neg (by omega), if_neg (by omega)]
        rfl
      have hlt := h.ok.2.2.1 (by omega)
      rw [if_pos hmd, h.which1, Option.bind_some]
      by_cases z4 : 310 ≤ L.2.2.1 ∧ L.2.2.1 < 316
      · obtain ⟨v1, v2, v3⟩ := vC (L.2.2.1 - 310) (by omega)
        rw [show 310 + (L.2.2.1 - 310) = L.2.2.1 by omega] at v1
        obtain ⟨g', b1, b2⟩ := C_addR h.2.2.2.1 (show l < 600 by omega) (10000 + (L.2.2.1 - 310))
        obtain ⟨m1, c1, c2, c3, c4, c5⟩ := M_layR h.m20 h.2.2.2.2.1 (show l < 600 by omega) (10000 + (L.2.2.1 - 310))
        obtain ⟨sr', m', L', a1, a2, a3, a4, a5, a6, a7, a8, a9⟩ := both_step2 h (by omega) c4 c5
        rw [if_neg (show ¬ nI L.2.2.1 < 310 from nI_nlt (b := 310) (by omega) (by omega)), if_neg (show ¬ (315 : Int32) < nI L.2.2.1 from nI_nlt (a := 315) (by omega) (by decide)), v1, b1, Option.bind_some, a1, Option.bind_some, Option.bind_some, if_pos z4, if_neg v3, Option.bind_some, v2, c1, Option.bind_some, c4, h.m20, if_pos rfl, a2, Option.bind_some, Option.bind_some]
        refine ⟨sr', g', m', rfl, rfl, a3, c3.trans (FrE.of a4 (by decide)), .inr ⟨fun u => by have := u.2.1; omega, L', l + 1, upC c l (10000 + (L.2.2.1 - 310)), ⟨a5, a6, a7, b2, ?_, by omega, upC_ok h.2.2.2.2.2.2.1 (.inl ⟨by omega, by omega⟩), a8⟩, a9, by omega, ?_⟩⟩
        · unfold DrR
          rw [a4.2 3 (List.not_mem_nil), a4.2 10 (List.not_mem_nil)]
          exact c2
        · rw [upC_hg1]
          unfold hgS
          rw [if_pos (by omega)]
      · obtain ⟨sr', m', a1, a2, a3, a4, a5⟩ := both_fail h (k := 3) (by decide) (by decide)
        have ef : f6_fail sr 3 = some sr' := a1
        have n40 : ¬ nI L.2.2.1 = 40 := fun u => by have := (nI_eq (b := 40) (by omega) (by decide)).1 u; omega
        have n300 : ¬ nI L.2.2.1 < 300 := nI_nlt (b := 300) (by omega) (by omega)
        rw [if_neg z4, if_pos rfl, show f11_wrong m 3 = some m' from a2, Option.bind_some, Option.bind_some, lay_dead a5.m20, Option.bind_some, if_neg a5.m20, Option.bind_some]
        refine ⟨sr', g, m', ?_, rfl, a3, a4, .inl ⟨3, L.1, a5, fun u => by have := u.2.1; omega⟩⟩
        by_cases z5 : L.2.2.1 < 310
        · rw [if_pos (show nI L.2.2.1 < 310 from nI_lt (b := 310) z5 (by decide)), if_neg n40, if_neg n300, Option.bind_some, ef, Option.bind_some, Option.bind_some]
        · rw [if_neg (show ¬ nI L.2.2.1 < 310 from nI_nlt (b := 310) (by omega) (by omega)), if_pos (show (315 : Int32) < nI L.2.2.1 from nI_lt (a := 315) (by omega) (by omega)), if_neg n40, if_neg n300, Option.bind_some, ef, Option.bind_some, Option.bind_some]
    have hmd1 : ¬ nI (md L.2.2.1) = 1 := by
      unfold md
      intro u
      by_cases a0 : L.2.2.1 = 0
      · rw [if_pos a0] at u; cases u
      · rw [if_neg a0] at u
        by_cases a1 : L.2.2.1 = 1
        · rw [if_pos a1] at u; cases u
        · rw [if_neg a1, if_neg z2, if_pos (by omega)] at u; cases u
    rw [if_neg hmd1, if_pos (show nI L.2.2.1 < 310 from nI_lt (b := 310) (by omega) (by decide)), nI_1]
    unfold f11_mark
    rw [h.m20, if_pos rfl, show f11_isMarked m 40 = _ from h.mark (x := 40) (by decide) (by decide), Option.bind_some]
    by_cases z4 : L.2.2.1 = 40
    · obtain ⟨sr1, m1, L1, a1, a2, a3, a4, a5, a6⟩ := both_step h (by omega)
      obtain ⟨sr2, g2, m2, b1, b2, b3, b4, b5⟩ := hr.1 n B L1 l c sr1 g m1 a5 (by omega)
      have b1 : rec sr1 g (nI (x + 1)) = some (sr2, g2) := b1
      have b2 : rec' m1 (nI (x + 1)) = some m2 := b2
      rw [if_pos (show nI L.2.2.1 = 40 from by rw [z4]; rfl), a1, Option.bind_some, b1, Option.bind_some, decide_eq_true z4, if_neg (by decide), Option.bind_some, h.m20, if_pos rfl, a2, Option.bind_some, Option.bind_some, Option.bind_some, b2, Option.bind_some]
      dsimp only
      rcases b5 with ⟨kk, p, hd, -⟩ | ⟨-, L2, l2, c2, hA, d1, d2, d3⟩
      · rw [expect_dead hd.c6, Option.bind_some, Option.bind_some, if_neg hd.m20, Option.bind_some, if_neg hd.m20, Option.bind_some, Option.bind_some]
        exact ⟨sr2, g2, m2, rfl, rfl, a3.trans b3, a4.trans b4, .inl ⟨kk, p, hd, fun u => absurd z4 u.2.2⟩⟩
      · obtain ⟨sr3, m3, e1, e2, e3, e4, e5⟩ := both_expect hA (x := 41) (by decide) (by decide)
        have e2' : f11_mark m2 41 = some m3 := e2
        unfold f11_mark at e2'
        rw [show f6_expect sr2 41 = some sr3 from e1, Option.bind_some, Option.bind_some, e2', Option.bind_some]
        refine ⟨sr3, g2, m3, rfl, rfl, (a3.trans b3).trans e3, (a4.trans b4).trans e4, ?_⟩
        rcases e5 with hd | ⟨-, L3, hA3, e6⟩
        · exact .inl ⟨1, _, hd, fun u => absurd z4 u.2.2⟩
        · exact .inr ⟨fun u => u.2.2 z4, L3, l2, c2, hA3, by omega, by omega, d3⟩
    · obtain ⟨sr', m', a1, a2, a3, a4, a5⟩ := both_fail h (k := 1) (by decide) (by decide)
      have hdr := (hr.2 1 L.1 sr' g m' a5).2
      have hdr : rec' m' (nI (x + 1)) = some m' := hdr
      rw [if_neg (show ¬ nI L.2.2.1 = 40 from fun u => z4 ((nI_eq (b := 40) (by omega) (by decide)).1 u)), if_pos (show nI L.2.2.1 < 300 from nI_lt (b := 300) (by omega) (by decide)), Option.bind_some, show f6_fail sr 1 = some sr' from a1, Option.bind_some, Option.bind_some, decide_eq_false z4, if_pos zB_f, show f11_wrong m 1 = some m' from a2, Option.bind_some, Option.bind_some, if_neg a5.m20, Option.bind_some, Option.bind_some, hdr, Option.bind_some, if_neg a5.m20, Option.bind_some, if_neg a5.m20, Option.bind_some, Option.bind_some]
      exact ⟨sr', g, m', rfl, rfl, a3, a4, .inl ⟨1, L.1, a5, fun _ => ⟨rfl, rfl⟩⟩⟩
  · intro kk p sr g m h
    dsimp only
    have h6 := h.c6
    have hg := h.2.2.2.2.2.1
    constructor
    · unfold f6_part
      have hF : ∀ k, f6_fail sr k = some sr := fun k => fail_dead h6 k
      have ha := accept_dead h6
      obtain ⟨⟨g1, r1, r2⟩, -⟩ := hr.2 kk p sr g m h
      have r1 : rec sr g (nI (x + 1)) = some (sr, g1) := r1
      obtain ⟨g2, u1, u2⟩ := C_add_any hg (sr.1 11)
      obtain ⟨g3, v1, v2⟩ := C_add_any hg (-(sr.1 7))
      have ee : ∀ y, f6_expect sr y = some sr := fun y => expect_dead h6 y
      have e1 : (if sr.1 10 ≤ 4 then some sr else (f6_fail sr 2).bind fun q15 => some q15 : Option St) = some sr := by
        by_cases y : sr.1 10 ≤ 4
        · rw [if_pos y]
        · rw [if_neg y, hF, Option.bind_some]
      have e2 : ((if sr.1 7 < 300 then some 1 else some 3 : Option Int32).bind fun q2 => (f6_fail sr q2).bind fun q3 => some (q3, g)) = some (sr, g) := by
        by_cases y : sr.1 7 < 300
        · rw [if_pos y, Option.bind_some, hF, Option.bind_some]
        · rw [if_neg y, Option.bind_some, hF, Option.bind_some]
      rw [e1, Option.bind_some, u1, Option.bind_some, ha, Option.bind_some, Option.bind_some, nI_1, r1, Option.bind_some]
      dsimp only
      rw [ee, Option.bind_some, e2, v1, Option.bind_some, Option.bind_some]
      by_cases y1 : sr.1 7 = 2
      · rw [if_pos y1, Option.bind_some]; exact ⟨g2, rfl, u2⟩
      · rw [if_neg y1]
        by_cases y2 : sr.1 7 < 310
        · rw [if_pos y2]
          by_cases y3 : sr.1 7 = 40
          · rw [if_pos y3, Option.bind_some]; exact ⟨g1, rfl, r2⟩
          · rw [if_neg y3, Option.bind_some]; exact ⟨g, rfl, hg⟩
        · rw [if_neg y2]
          by_cases y4 : (315 : Int32) < sr.1 7
          · rw [if_pos y4]
            by_cases y3 : sr.1 7 = 40
            · rw [if_pos y3, Option.bind_some]; exact ⟨g1, rfl, r2⟩
            · rw [if_neg y3, Option.bind_some]; exact ⟨g, rfl, hg⟩
          · rw [if_neg y4, Option.bind_some]; exact ⟨g3, rfl, v2⟩
    · unfold f11_readPart
      rw [if_neg h.m20]
end
