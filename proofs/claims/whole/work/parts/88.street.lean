/-! a street -/
section
variable {n nn : Nat} {B : Nat → Nat} {L : LX} {l : Nat} {c : Nat → Nat} {t g m m' q : St} {kk p tp : Nat} {U : TW}
theorem md_ne {c : Nat} (h : c ≠ 0) : ¬ nI (md c) = 0 := by
  unfold md
  rw [if_neg h]
  by_cases a1 : c = 1
  · rw [if_pos a1]; decide
  · rw [if_neg a1]
    by_cases a2 : c = 2
    · rw [if_pos a2]; decide
    · rw [if_neg a2]
      by_cases a3 : c < 300
      · rw [if_pos a3]; decide
      · rw [if_neg a3]; decide
theorem parse_dead {sr : St} (h : De kk p sr g m) (i d : Int32) : lpw f6_parse_L9 (i, sr, t, g) = some (sr, t, g) ∧ lpw f11_street_L12 (d, m) = some m := by
  refine ⟨lpw_inr ?_, lpw_inr ?_⟩
  · unfold f6_parse_L9
    dsimp only
    by_cases w : (600 : Int32) ≤ i
    · rw [if_pos w]
    · rw [if_neg w, if_neg h.c6]
  · unfold f11_street_L12
    dsimp only
    rw [if_neg h.m20]
theorem parse_loop : ∀ N i L l c U tp sr t g m, St8 n B L l c U tp sr t g m → i ≤ L.1 → n - L.1 ≤ N → ∃ sr' t' g' m', lpw f6_parse_L9 (nI i, sr, t, g) = some (sr', t', g') ∧ lpw f11_street_L12 (nI (dn l), m) = some m' ∧ Fr sR [] sr sr' ∧ FrL m m' ∧ ((∃ kk p, De kk p sr' g' m') ∨ ∃ L' l' c' U' tp', St8 n B L' l' c' U' tp' sr' t' g' m') := by
  intro N
  induction N with
  | zero =>
    intro i L l c U tp sr t g m h hi hN
    have z : L.2.2.1 = 0 := Classical.byContradiction fun u => by
      have := h.1.ok.2.2.1 u
      have := h.1.ok.2.1
      omega
    refine ⟨sr, t, g, m, lpw_inr ?_, lpw_inr ?_, Fr.refl _ _ _, FrL.refl _, .inr ⟨L, l, c, U, tp, h⟩⟩
    · unfold f6_parse_L9
      dsimp only
      rw [h.1.c6, h.1.c7, z]
      by_cases w : (600 : Int32) ≤ nI i
      · rw [if_pos w]
      · rw [if_neg w, if_pos rfl, if_pos (show nI 0 = 0 from rfl)]
    · unfold f11_street_L12
      dsimp only
      rw [h.1.m20, if_pos rfl, h.1.m16, z, if_pos (show nI (md 0) = 0 from rfl)]
  | succ N ih =>
    intro i L l c U tp sr t g m h hi hN
    by_cases z : L.2.2.1 = 0
    · refine ⟨sr, t, g, m, lpw_inr ?_, lpw_inr ?_, Fr.refl _ _ _, FrL.refl _, .inr ⟨L, l, c, U, tp, h⟩⟩
      · unfold f6_parse_L9
        dsimp only
        rw [h.1.c6, h.1.c7, z]
        by_cases w : (600 : Int32) ≤ nI i
        · rw [if_pos w]
        · rw [if_neg w, if_pos rfl, if_pos (show nI 0 = 0 from rfl)]
      · unfold f11_street_L12
        dsimp only
        rw [h.1.m20, if_pos rfl, h.1.m16, z, if_pos (show nI (md 0) = 0 from rfl)]
    · have h1 := h.1.ok.2.2.1 z
      have h2 := h.1.ok.2.1
      have h3 := h.1.n6
      have h4 := h.1.ok.c317
      obtain ⟨sr1, t1, g1, m1, d1, a1, a2, a3, a4, a5⟩ := both_line h z
      have e1 : f6_parse_L9 (nI i, sr, t, g) = some (.inl (nI (i + 1), sr1, t1, g1)) := by
        unfold f6_parse_L9
        dsimp only
        rw [if_neg (show ¬ (600 : Int32) ≤ nI i from nI_ge (b := 600) (by omega) (by decide)), h.1.c6, if_pos rfl, h.1.c7, if_neg (nI_ne0 (by omega) (by omega)), a1, Option.bind_some, nI_1]
      have e2 : f11_street_L12 (nI (dn l), m) = some (.inl (nI d1, m1)) := by
        unfold f11_street_L12
        dsimp only
        rw [h.1.m20, if_pos rfl, h.1.m16, if_neg (md_ne z), a2, Option.bind_some]
      rw [lpw_inl e1, lpw_inl e2]
      rcases a5 with ⟨kk, p, hd⟩ | ⟨L', l', c', U', tp', h', hlt, rfl⟩
      · obtain ⟨b1, b2⟩ := parse_dead (t := t1) hd (nI (i + 1)) (nI d1)
        exact ⟨sr1, t1, g1, m1, b1, b2, a3, a4, .inl ⟨kk, p, hd⟩⟩
      · obtain ⟨sr2, t2, g2, m2, b1, b2, b3, b4, b5⟩ := ih (i + 1) L' l' c' U' tp' sr1 t1 g1 m1 h' (by omega) (by omega)
        exact ⟨sr2, t2, g2, m2, b1, b2, a3.trans b3, a4.trans b4, b5⟩
/-- the reference's counts of the draft are 0 -/
theorem M_told0 (q : St) : ∃ f, lpw f11_street_L8 (0, q) = some (sA q 3 f) ∧ (∀ k, k < 4 → f (4 + k) = 0) ∧ ∀ k, k < 4 → f k = q.2 3 k := by
  obtain ⟨r, h1, f, h2, h3, h4⟩ := lpw_R (F := f11_street_L8) (fun i v => ∃ f, v = (nI i, sA q 3 f) ∧ (∀ k, k < i → f (4 + k) = 0) ∧ ∀ k, k < 4 → f k = q.2 3 k) (fun r => ∃ f, r = sA q 3 f ∧ (∀ k, k < 4 → f (4 + k) = 0) ∧ ∀ k, k < 4 → f k = q.2 3 k) 4 (fun i v hi hI => by
    obtain ⟨f, rfl, a1, a2⟩ := hI
    unfold f11_street_L8
    dsimp only
    rw [if_neg (show ¬ (4 : Int32) ≤ nI i from nI_ge (b := 4) hi (by decide)), show (4 : Int32) + nI i = nI (4 + i) from nI_add 4 i, stS_n _ _ _ (by omega) (by decide), Option.bind_some, sA_2e, sA_sA, nI_1]
    refine ⟨_, rfl, _, rfl, fun k hk => ?_, fun k hk => ?_⟩
    · by_cases e : k = i
      · rw [e, upd_e]
      · rw [upd_n _ _ (by omega), a1 k (by omega)]
    · rw [upd_n _ _ (by omega), a2 k hk]) (fun v hI => by
    obtain ⟨f, rfl, a1, a2⟩ := hI
    exact ⟨_, if_pos (Int32.le_refl _), f, rfl, a1, a2⟩) (s := (0, q)) ⟨q.2 3, by rw [sA_self]; rfl, fun k hk => absurd hk (Nat.not_lt_zero k), fun k _ => rfl⟩
  exact ⟨f, by rw [h1, h2], h3, h4⟩
def sPr : List Nat := [3, 5, 6, 7, 8, 9, 10, 11]
theorem both_parse {sr : St} (hn : n ≤ nn) (hnn : nn ≤ 600) (h2 : sr.1 2 = nI nn) (hb : ∀ k, k < nn → ∃ b, b < 256 ∧ q.2 12 k = nI b ∧ sr.2 4 k = (nI b).toInt8.toInt32) (t3 g2 : St) (q15 : q.1 15 = nI n) (q14 : q.1 14 = 0) (q20 : q.1 20 = 0) : ∃ sr' t' g' q8 q11 m', f6_parse sr t3 g2 (nI n) = some (sr'.1 6, sS sr' 2 0, t', g') ∧ lpw f11_street_L8 (0, q) = some q8 ∧ f11_stepOn q8 = some q11 ∧ lpw f11_street_L12 (0, q11) = some m' ∧ Fr sPr [] sr sr' ∧ FrL q m' ∧ ((∃ kk p, De kk p sr' g' m') ∨ ∃ B L l c U tp, St8 n B L l c U tp sr' t' g' m') := by
  obtain ⟨f, a1, a2, a3⟩ := M_told0 q
  obtain ⟨B, hB⟩ : ∃ B : Nat → Nat, ∀ k, k < n → B k < 256 ∧ q.2 12 k = nI (B k) ∧ sr.2 4 k = sb (B k) := by
    refine ⟨fun k => (q.2 12 k).toNatClampNeg, fun k hk => ?_⟩
    obtain ⟨b, b1, b2, b3⟩ := hb k (by omega)
    dsimp only
    rw [b2, nI_clamp (by omega)]
    exact ⟨b1, rfl, b3⟩
  obtain ⟨L, hT⟩ := tok_ex n B (Nat.zero_le n)
  have hok := hT.ok fun k hk => (hB k hk).1
  obtain ⟨s0, hs0⟩ : ∃ s0, s0 = sS (sS (sS (sS sr 5 (nI n)) 6 0) 3 (-1)) 9 0 := ⟨_, rfl⟩
  have f0 : Fr sPr [] sr s0 := by
    rw [hs0]
    refine Fr.trans ?_ (Fr.sS _ 9 _ (by decide))
    refine Fr.trans ?_ (Fr.sS _ 3 _ (by decide))
    refine Fr.trans ?_ (Fr.sS _ 6 _ (by decide))
    exact Fr.sS _ 5 _ (by decide)
  have hBC : ByC n B s0 := ⟨by omega, fun k hk => ⟨(hB k hk).1, by rw [f0.2 4 (List.not_mem_nil)]; exact (hB k hk).2.2⟩⟩
  obtain ⟨sr1, b1, b2, b3⟩ := C_accept (a := 0) hBC (by rw [hs0]; rfl) (by rw [hs0]; rfl) (by rw [hs0]; rfl) hT
  have hBM : ByM n B (sA q 3 f) := ⟨by omega, fun k hk => ⟨(hB k hk).1, (hB k hk).2.1⟩⟩
  obtain ⟨q11, c1, c2, c3⟩ := M_stepOn (a := 0) hBM q15 q20 q14 hT
  have w0 : WfT (0, 0, 0, fun _ => 0, fun _ => 0, fun _ => 0, fun _ => 0, fun _ => 0, fun _ => none, fun _ => false, fun _ => false) := ⟨Nat.zero_le 8, Nat.zero_le 12, by decide, fun k hk => absurd hk (Nat.not_lt_zero k), fun k hk => absurd hk (Nat.not_lt_zero k)⟩
  obtain ⟨t0, ht0⟩ : ∃ t0, f9_clear t3 = some t0 ∧ RcT (0, 0, 0, fun _ => 0, fun _ => 0, fun _ => 0, fun _ => 0, fun _ => 0, fun _ => none, fun _ => false, fun _ => false) t0 := ⟨_, rfl, w0, rfl, rfl, rfl, Bm.zero 0, Bm.zero 0, fun k hk => absurd hk (Nat.not_lt_zero k), fun k hk => absurd hk (Nat.not_lt_zero k)⟩
  have hA : Al n B L 0 (fun _ => 0) sr1 (sS g2 3 0) q11 := ⟨b2, c2, hok, ⟨rfl, fun k hk => absurd hk (Nat.not_lt_zero k)⟩, ⟨by rw [c3.2 3 (List.not_mem_nil)]; exact a2 3 (by decide), fun k hk => absurd hk (Nat.not_lt_zero k)⟩, Nat.zero_le _, fun k hk => absurd hk (Nat.not_lt_zero k), by rw [b3.1 3 (by decide), hs0]; rfl⟩
  have hS : St8 n B L 0 (fun _ => 0) (0, 0, 0, fun _ => 0, fun _ => 0, fun _ => 0, fun _ => 0, fun _ => 0, fun _ => none, fun _ => false, fun _ => false) 0 sr1 t0 (sS g2 3 0) q11 := ⟨hA, ht0.2, ⟨by rw [c3.2 3 (List.not_mem_nil)]; exact a2 0 (by decide), by rw [c3.2 3 (List.not_mem_nil)]; exact a2 1 (by decide), by rw [c3.2 3 (List.not_mem_nil)]; exact a2 2 (by decide), fun k hk => absurd hk (Nat.not_lt_zero k), fun k hk => absurd hk (Nat.not_lt_zero k)⟩, ⟨rfl, fun _ => rfl, fun _ => rfl⟩, rfl, .inl rfl⟩
  obtain ⟨sr2, t2, g3, m2, d1, d2, d3, d4, d5⟩ := parse_loop n 0 L 0 (fun _ => 0) _ 0 sr1 t0 (sS g2 3 0) q11 hS (Nat.zero_le _) (Nat.sub_le _ _)
  refine ⟨sr2, t2, g3, sA q 3 f, q11, m2, ?_, a1, c1, d2, (f0.trans (b3.mono (by decide) (by decide))).trans (d3.mono (by decide) (by decide)), ?_, ?_⟩
  · unfold f6_parse
    rw [if_pos (nI_pos' (show n < 2 ^ 31 by omega)), h2, if_pos (nI_le hn (by omega)), Option.bind_some, Option.bind_some, ht0.1, Option.bind_some, show f7_clear g2 = some (sS g2 3 0) from rfl, Option.bind_some, Option.bind_some, Option.bind_some, Option.bind_some, ← hs0, b1, Option.bind_some, show lpw f6_parse_L9 (0, sr1, t0, sS g2 3 0) = some (sr2, t2, g3) from d1, Option.bind_some]
    rfl
  · have f1 : FrL q (sA q 3 f) := ⟨fun _ _ => rfl, fun k hk => sA_2n _ _ (fun e => hk (by rw [e]; decide)), a3, fun _ _ => rfl, fun _ _ => rfl, fun _ _ => rfl⟩
    exact (f1.trans (FrL.of (FrE.of c3 (by decide)))).trans d4
  · rcases d5 with hd | ⟨L', l', c', U', tp', h'⟩
    · exact .inl hd
    · exact .inr ⟨B, L', l', c', U', tp', h'⟩
/-- what a refused text leaves of the reference -/
def FrQ (m m' : St) : Prop := (∀ k, k ∉ [2, 13, 14, 15, 16, 17, 18, 19, 20, 21, 22] → m'.1 k = m.1 k) ∧ (∀ k, k ∉ 11 :: aDr → m'.2 k = m.2 k) ∧ (∀ k, k < 4 → m'.2 3 k = m.2 3 k) ∧ (∀ k, k < 8 → m'.2 4 k = m.2 4 k) ∧ (∀ k, k < 12 → m'.2 9 k = m.2 9 k) ∧ ∀ k, k < 600 → m'.2 10 k = m.2 10 k
theorem RmT.frQ {T : TW} (h : RmT T m) (f : FrQ m m') : RmT T m' := by
  have hL := h.W.L12
  have hH := h.W.H8
  refine ⟨h.W, (f.2.2.1 0 (by decide)).trans h.eH, (f.2.2.1 1 (by decide)).trans h.eL, (f.1 28 (by decide)).trans h.eo, ?_, ?_, fun k hk => ⟨(f.2.2.2.1 k (by omega)).trans (h.eki hk), ?_, ?_⟩, fun k hk => ⟨?_, ?_, (f.2.2.2.2.1 k (by omega)).trans (h.etw hk)⟩⟩
  · rw [f.1 29 (by decide)]; exact h.eli
  · rw [f.1 30 (by decide)]; exact h.ebr
  · rw [f.2.1 25 (by decide)]; exact h.ewa hk
  · rw [f.2.1 26 (by decide)]; exact h.esl hk
  · rw [f.2.1 24 (by decide)]; exact h.eho hk
  · rw [f.2.1 23 (by decide)]; exact h.eoi hk
end
section
variable {r : RU} {T U : TW} {k : Nat} {hs : Nat → TW} {V : SV} {sx sr st sg sv m sp spt spv : St} {sh sph : HSt}
theorem C_ruleCopy {l : Nat} {c : Nat → Nat} {g' : St} (g : St) (h : RcR l c g') (hl : l ≤ 600) : ∃ g2, f7_copyFrom g g' = some g2 ∧ RcR l c g2 := by
  refine ⟨_, rfl, h.1, fun k hk => ?_⟩
  exact (pk_cpy_in (Nat.zero_le k) (by omega)).trans (by rw [Nat.zero_add, Nat.sub_zero]; exact h.2 k hk)
theorem A_street (h : Rel r T k hs V sx sr st sg sh sv m) (hi : ImR T sp spt sph spv m) (t3 g2 : St) (y : Int32) : Agr (f10_street sx sr t3 g2 st sg sh sv sp y) kfI (f11_street m y) (sx, sr, t3, g2, st, sg, sh, sv, sp) (fun s m' => AllR s.1 s.2.1 s.2.2.2.2.1 s.2.2.2.2.2.1 s.2.2.2.2.2.2.1 s.2.2.2.2.2.2.2.1 s.2.2.2.2.2.2.2.2 spt sph spv m') := by
  obtain ⟨nn, n1, n2, n3, n4⟩ := h.tape
  have n3' : (sS m 2 0).1 13 = nI nn := n3
  by_cases y0 : y < 0
  · refine ⟨0, sS (sS m 2 0) 2 1, ?_, .inr ⟨0, ?_, sS_1e _ _ _, AllR.q h hi ⟨h.cr, h.mt.s2k _, fr2k m _⟩⟩⟩
    · unfold f11_street
      rw [Option.bind_some, if_pos y0]
      rfl
    · unfold f10_street
      rw [if_pos y0]
  by_cases y1 : y ≤ nI nn
  case neg =>
    refine ⟨0, sS (sS m 2 0) 2 1, ?_, .inr ⟨0, ?_, sS_1e _ _ _, AllR.q h hi ⟨h.cr, h.mt.s2k _, fr2k m _⟩⟩⟩
    · unfold f11_street
      rw [Option.bind_some, if_neg y0, n3', if_neg y1]
      rfl
    · unfold f10_street
      rw [if_neg y0, n2, if_neg y1]
  obtain ⟨n, hn, rfl⟩ := nI_of y0
  have hn : n ≤ nn := by
    have := (fa_le _ _).1 y1
    rw [nI_toInt hn, nI_toInt (by omega)] at this
    omega
  obtain ⟨q, hq⟩ : ∃ q, q = sS (sS (sS (sS (sS (sS m 2 0) 13 0) 15 (nI n)) 14 0) 20 0) 22 (-1) := ⟨_, rfl⟩
  have fq : Fr [2, 13, 14, 15, 20, 22] [] m q := by
    rw [hq]
    refine Fr.trans ?_ (Fr.sS _ 22 _ (by decide))
    refine Fr.trans ?_ (Fr.sS _ 20 _ (by decide))
    refine Fr.trans ?_ (Fr.sS _ 14 _ (by decide))
    refine Fr.trans ?_ (Fr.sS _ 15 _ (by decide))
    refine Fr.trans ?_ (Fr.sS _ 13 _ (by decide))
    exact Fr.sS _ 2 _ (by decide)
  have q2 : q.1 2 = 0 := by rw [hq]; rfl
  have q13 : q.1 13 = 0 := by rw [hq]; rfl
  have q22 : q.1 22 = -1 := by rw [hq]; rfl
  obtain ⟨sr', t', g', q8, q11, m', a1, a2, a3, a4, a5, a6, a7⟩ := both_parse (q := q) hn n1 n2 (by rw [fq.2 12 (List.not_mem_nil)]; exact n4) t3 g2 (by rw [hq]; rfl) (by rw [hq]; rfl) (by rw [hq]; rfl)
  have m2 : m'.1 2 = 0 := (a6.1 2 (by decide)).trans q2
  have m13 : m'.1 13 = 0 := (a6.1 13 (by decide)).trans q13
  have m22 : m'.1 22 = -1 := (a6.1 22 (by decide)).trans q22
  rcases a7 with ⟨kk, p, hd⟩ | ⟨B, L, l, c, U, tp, hA, hT, hD, hC, hP, hg⟩
  · obtain ⟨-, -, -, d1, d2, -, d3, d4⟩ := id hd
    refine ⟨nI kk, sA (sS m' 22 (m'.1 21)) 11 (upd (m'.2 11) 0 (m'.2 11 0 + 1)), ?_, .inl ⟨(sA (sS sx 7 (nI p)) 5 (upd (sx.2 5) 0 (sx.2 5 0 + 1)), sS sr' 2 0, t', g', st, sg, sh, sv, sp), ?_, m2, ?_⟩⟩
    · unfold f11_street
      rw [Option.bind_some, if_neg y0, n3', if_pos y1, Option.bind_some, Option.bind_some, Option.bind_some, Option.bind_some, Option.bind_some, ← hq, a2, Option.bind_some, a3, Option.bind_some, a4, Option.bind_some, if_neg hd.m20, Option.bind_some, Option.bind_some, cl_0]
      refine congrArg some (Prod.ext ?_ rfl)
      exact d3
    · unfold f10_street
      rw [if_neg y0, n2, if_pos y1, a1, Option.bind_some, Option.bind_some]
      dsimp only
      rw [if_neg hd.c6, Option.bind_some, wI_s, cl_0, d1]
      refine congrArg some (congrArg Sum.inl (Prod.ext rfl ?_))
      refine Prod.ext ?_ rfl
      show sA (sS sx 7 ((sS sr' 2 0).1 3)) 5 _ = _
      rw [show (sS sr' 2 0).1 3 = nI p from d2]
      rfl
    · have f : FrQ m (sA (sS m' 22 (m'.1 21)) 11 (upd (m'.2 11) 0 (m'.2 11 0 + 1))) := by
        refine ⟨fun i hi => ?_, fun i hi => ?_, fun i hi => ?_, fun i hi => ?_, fun i hi => ?_, fun i hi => ?_⟩
        · refine ((if_neg (fun e => hi (by rw [e]; decide))).trans (a6.1 i (fun z => hi ?_))).trans (fq.1 i (fun z => hi ?_))
          · simp only [sE, List.mem_cons, List.not_mem_nil, or_false] at z ⊢; omega
          · simp only [List.mem_cons, List.not_mem_nil, or_false] at z ⊢; omega
        · refine ((sA_2n _ _ (fun e => hi (by rw [e]; exact List.mem_cons_self))).trans (a6.2.1 i (fun z => hi (List.mem_cons_of_mem _ z)))).trans (fq.2 i (List.not_mem_nil))
        · exact (a6.2.2.1 i hi).trans (by rw [fq.2 3 (List.not_mem_nil)])
        · exact (a6.2.2.2.1 i hi).trans (by rw [fq.2 4 (List.not_mem_nil)])
        · exact (a6.2.2.2.2.1 i hi).trans (by rw [fq.2 9 (List.not_mem_nil)])
        · exact (a6.2.2.2.2.2 i hi).trans (by rw [fq.2 10 (List.not_mem_nil)])
      refine ⟨r, T, k, hs, V, ⟨⟨0, Nat.zero_le _, rfl, m13, fun k hk => absurd hk (Nat.not_lt_zero k)⟩, ?_, ?_, h.ok, h.cr, ?_, h.ct, h.mt.frQ f, h.okT, h.ch, ?_, h.okH, h.cv, ?_, ?_⟩, ?_⟩
      · exact d4.symm
      · intro i hi
        show upd (sx.2 5) 0 (sx.2 5 0 + 1) i = upd (m'.2 11) 0 (m'.2 11 0 + 1) i
        have e11 : m'.2 11 = m.2 11 := (a6.2.1 11 (by decide)).trans (fq.2 11 (List.not_mem_nil))
        rw [e11]
        by_cases e : i = 0
        · rw [e, upd_e, upd_e, h.sta 0 (by decide)]
        · rw [upd_n _ _ e, upd_n _ _ e, h.sta i hi]
      · have := h.ok.1
        exact ⟨(f.2.2.1 3 (by decide)).trans h.mr.1, fun i hi => (f.2.2.2.2.2 i (by omega)).trans (h.mr.2 i hi)⟩
      · unfold RmH
        rw [f.1 31 (by decide), f.2.1 27 (by decide)]; exact h.mh
      · rw [f.1 32 (by decide), f.2.1 43 (by decide), f.2.1 44 (by decide), f.2.1 45 (by decide)]; exact h.mv
      · rw [f.2.2.1 2 (by decide)]; exact h.tws
      · unfold ImR
        rw [f.1 49 (by decide), f.1 50 (by decide), f.1 51 (by decide), f.2.1 52 (by decide), f.2.1 53 (by decide), f.2.1 54 (by decide), f.2.1 55 (by decide), f.2.1 56 (by decide), f.2.1 57 (by decide)]
        exact hi
  · have hl : l ≤ 600 := by have := hA.lS; have := hA.sn; have := hA.n6; omega
    obtain ⟨m3, b1, b2, b3, b4, b5, b6, b7, b8⟩ := M_takeOver hT.W hC hD hA.2.2.2.2.1 hl
    obtain ⟨st', c1, c2⟩ := C_copyFrom st t'
    obtain ⟨sg', e1, e2⟩ := C_ruleCopy sg hA.2.2.2.1 hl
    have hc6 := hA.c6
    refine ⟨0, m3, ?_, .inl ⟨(sS sx 7 (-1), sS sr' 2 0, t', g', st', sg', sH sh 0 0, sS (sS sv 0 0) 1 0, sS sp 0 0), ?_, ?_, ?_⟩⟩
    · unfold f11_street
      rw [Option.bind_some, if_neg y0, n3', if_pos y1, Option.bind_some, Option.bind_some, Option.bind_some, Option.bind_some, Option.bind_some, ← hq, a2, Option.bind_some, a3, Option.bind_some, a4, Option.bind_some, hA.m20, if_pos rfl, b1, Option.bind_some]
    · unfold f10_street
      rw [if_neg y0, n2, if_pos y1, a1, Option.bind_some, Option.bind_some]
      dsimp only
      rw [hc6, if_pos rfl, c1, Option.bind_some, e1, Option.bind_some, show f3_clear sh = some (sH sh 0 0) from rfl, Option.bind_some, show f8_clear sv = some (sS (sS sv 0 0) 1 0) from rfl, Option.bind_some, Option.bind_some, wI_s]
      refine congrArg some (congrArg Sum.inl (Prod.ext rfl ?_))
      refine Prod.ext ?_ rfl
      show sS sx 7 ((sS sr' 2 0).1 3) = _
      rw [show (sS sr' 2 0).1 3 = -1 from hA.2.2.2.2.2.2.2]
    · exact (b8.1 2 (by decide)).trans m2
    · refine ⟨(l, c), U, 0, hs, (0, V.2), ⟨⟨0, Nat.zero_le _, rfl, (b8.1 13 (by decide)).trans m13, fun k hk => absurd hk (Nat.not_lt_zero k)⟩, ((b8.1 22 (by decide)).trans m22).symm, ?_, ⟨hl, hA.2.2.2.2.2.2.1, fun h0 => ?_⟩, e2, b3, c2 U hT, b2, ⟨hT.W, ?_, ?_, ?_, ⟨rfl, rfl, rfl, rfl⟩⟩, ⟨Nat.zero_le _, rfl, h.ch.2.2.1, fun i hi => absurd hi (Nat.not_lt_zero i)⟩, ⟨b5, fun i hi => absurd hi (Nat.not_lt_zero i)⟩, fun i hi => absurd hi (Nat.not_lt_zero i), ⟨Nat.zero_le 8, rfl, Bm.zero0 _, fun k hk => absurd hk (Nat.not_lt_zero k)⟩, ⟨b6, fun k hk => absurd hk (Nat.not_lt_zero k)⟩, ?_⟩, hi.1, false, rfl, b7, fun e => by cases e⟩
      · intro i hi
        show sx.2 5 i = m3.2 11 i
        rw [b8.2 11 (by decide), a6.2.1 11 (by decide), fq.2 11 (List.not_mem_nil)]
        exact h.sta i hi
      · rcases hg with hg | hg
        · have h0 : 0 < l := h0
          omega
        · exact hg
      · intro k hk e
        rw [hC.2.1 k] at e
        cases e
      · intro k j hk e
        rw [hC.2.1 k, hC.2.1 j]
      · rw [hC.1]; decide
      · rw [b4, ← hP, Nat.add_sub_cancel_left, Nat.mul_div_cancel_left _ (by decide)]
end
