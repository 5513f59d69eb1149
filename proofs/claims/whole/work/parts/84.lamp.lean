/-! a lamp -/
def TW.addL (U : TW) (h o : Nat) : TW := (U.H, U.L + 1, U.o, U.ki, U.wa, U.sl, (fun k => if k = U.L then h else U.ho k), (fun k => if k = U.L then o else U.oi k), (fun k => if k = U.L then none else U.tw k), U.li, U.br)
theorem cl_5' : (5 : Int32).toNatClampNeg = 5 := by decide +kernel
section
variable {n : Nat} {B : Nat → Nat} {L : LX} {l : Nat} {c : Nat → Nat} {sr t g m m' : St} {kk p tp : Nat} {U : TW}
theorem le_pred {v N : Nat} (hv : v < 100000) (hN : N < 100000) : (nI v ≤ nI N - 1) ↔ v < N := by
  have h0 := nI_toInt (n := N) (by omega)
  have h3 : (1 : Int32).toInt = 1 := by decide +kernel
  have h1 : (nI N - 1).toInt = (N : Int) - 1 := by rw [fb_subI (by rw [h0, h3]; omega) (by rw [h0, h3]; omega), h0, h3]
  rw [fa_le, h1, nI_toInt (n := v) (by omega)]
  omega
/-- the number of one of N -/
theorem both_one (h : Al n B L l c sr g m) {N : Nat} (hN : N ≤ 12) {x1 : Int32} (e : ldO 8 (m.2 3) (4 + x1) = some (nI N)) : ∃ w sr1 m1, f6_numberUpTo sr (nI N - 1) 3 = some (nI w, sr1) ∧ f11_oneNow m x1 = some (nI w, m1) ∧ Fr sR [] sr sr1 ∧ FrE m m1 ∧ ((w = 0 ∧ ∃ kk p, De kk p sr1 g m1) ∨ (w < N ∧ sr1 = sr ∧ m1 = m ∧ L.2.2.1 = 2)) := by
  have hn := h.n6
  have h317 := h.ok.c317
  have hen := h.ok.2.1
  have bad : ∀ k, 0 < k → k < 6 → ∃ sr' m', f6_fail sr (nI k) = some sr' ∧ f11_wrong m (nI k) = some m' ∧ Fr sR [] sr sr' ∧ FrE m m' ∧ De k L.1 sr' g m' := fun k h1 h2 => both_fail h h1 h2
  unfold f6_numberUpTo f11_oneNow
  rw [h.c7]
  by_cases z : L.2.2.1 = 2
  · obtain ⟨d10, d11⟩ := h.1.2.2.2.2.2.2 z
    rw [z, if_pos (show nI 2 = 2 from rfl), d10]
    rcases M_numberNow h.2.1 h.ok (hi := 9999) (by decide) with ⟨-, y, w, e1⟩ | ⟨y, e1⟩
    · rw [if_pos (show nI (L.2.1 - L.1) ≤ 4 from nI_le (b := 4) y (by decide)), d11 y, show f11_numberNow m 0 9999 = _ from e1, Option.bind_some]
      dsimp only
      rw [h.m20, if_pos rfl, e, Option.bind_some]
      by_cases u : L.2.2.2 < N
      · rw [if_pos ((le_pred (by omega) (by omega)).2 u), Option.bind_some, h.c6, if_pos rfl, d11 y, if_pos (nI_lt u (by omega)), Option.bind_some, h.m20, if_pos rfl]
        exact ⟨_, sr, m, rfl, rfl, Fr.refl _ _ _, FrE.refl _, .inr ⟨u, rfl, rfl, rfl⟩⟩
      · obtain ⟨sr', m', a1, a2, a3, a4, a5⟩ := bad 3 (by decide) (by decide)
        rw [if_neg (fun q => u ((le_pred (by omega) (by omega)).1 q)), show f6_fail sr 3 = some sr' from a1, Option.bind_some, Option.bind_some, if_neg a5.c6, if_neg (nI_nlt (by omega) (by omega)), show f11_wrong m 3 = some m' from a2, Option.bind_some, Option.bind_some, if_neg a5.m20]
        exact ⟨0, sr', m', rfl, rfl, a3, a4, .inl ⟨rfl, _, _, a5⟩⟩
    · obtain ⟨sr', m', a1, a2, a3, a4, a5⟩ := bad 2 (by decide) (by decide)
      have hy : ¬ L.2.1 - L.1 ≤ 4 := fun u => y ⟨z, u, by
        rcases h.ok.2.2.2 with w | w | w | w | w
        · omega
        · omega
        · exact w.2 u
        · rw [z] at w; have := w.2.1; cases this
        · omega⟩
      rw [if_neg (show ¬ nI (L.2.1 - L.1) ≤ 4 from nI_ge (a := 4) (by omega) (by omega)), show f6_fail sr 2 = some sr' from a1, Option.bind_some, Option.bind_some, if_neg a5.c6, show f11_numberNow m 0 9999 = _ from e1, if_pos z, a2, Option.bind_some, Option.bind_some]
      dsimp only
      rw [if_neg a5.m20, Option.bind_some, if_neg a5.m20]
      exact ⟨0, sr', m', rfl, rfl, a3, a4, .inl ⟨rfl, _, _, a5⟩⟩
  · rcases M_numberNow h.2.1 h.ok (hi := 9999) (by decide) with ⟨y, -, -, -⟩ | ⟨y, e1⟩
    · exact absurd y z
    · obtain ⟨sr', m', a1, a2, a3, a4, a5⟩ := bad 1 (by decide) (by decide)
      rw [if_neg (show ¬ nI L.2.2.1 = 2 from fun u => z ((nI_eq (b := 2) (by omega) (by decide)).1 u)), show f6_fail sr 1 = some sr' from a1, Option.bind_some, Option.bind_some, if_neg a5.c6, show f11_numberNow m 0 9999 = _ from e1, if_neg z, a2, Option.bind_some, Option.bind_some]
      dsimp only
      rw [if_neg a5.m20, Option.bind_some, if_neg a5.m20]
      exact ⟨0, sr', m', rfl, rfl, a3, a4, .inl ⟨rfl, _, _, a5⟩⟩
theorem addL_W (h : WfT U) (hL : U.L < 12) {a o : Nat} (ha : a < U.H) (ho : o ≤ 99) : WfT (U.addL a o) := by
  refine ⟨h.H8, by show U.L + 1 ≤ 12; omega, h.oB, fun k hk => h.2.2.2.1 k hk, fun k hk => ?_⟩
  have hk : k < U.L + 1 := hk
  show (if k = U.L then a else U.ho k) < U.H ∧ (if k = U.L then o else U.oi k) ≤ 99 ∧ ∀ j, (if k = U.L then none else U.tw k) = some j → j < U.L + 1 ∧ j ≠ k ∧ (if j = U.L then none else U.tw j) = some k
  by_cases e : k = U.L
  · rw [if_pos e, if_pos e, if_pos e]
    exact ⟨ha, ho, fun j z => by cases z⟩
  · rw [if_neg e, if_neg e, if_neg e]
    refine ⟨h.hoH (by omega), h.oi99 (by omega), fun j z => ?_⟩
    obtain ⟨i1, i2, i3⟩ := h.twI (show k < U.L by omega) z
    exact ⟨by omega, i2, by rw [if_neg (by omega)]; exact i3⟩
theorem C_addLamp (h : RcT U t) (hC : CleanT U) (hL : U.L < 12) {a o : Nat} (ha : a < U.H) (ho : o ≤ 99) : ∃ t', f9_addLamp t (nI a) (nI o) = some t' ∧ RcT (U.addL a o) t' := by
  unfold f9_addLamp
  rw [h.eL, if_neg (show ¬ (12 : Int32) ≤ nI U.L from nI_ge (b := 12) hL (by decide)), stS_n _ _ _ hL (by decide), Option.bind_some, sA_1, h.eL, stS_n _ _ _ hL (by decide), Option.bind_some, sA_1, sA_1, h.eL, stS_n _ _ _ hL (by decide), Option.bind_some, Option.bind_some, Option.bind_some]
  refine ⟨_, rfl, addL_W h.W hL ha ho, h.eH, ?_, h.eo, h.eli.no (hC.2.1 _), h.ebr.no (hC.2.2 _), h.2.2.2.2.2.2.1, fun k hk => ⟨?_, ?_, ?_⟩⟩
  · show t.1 1 + 1 = nI (U.L + 1)
    rw [h.eL, nI_1]
  · exact updA (fun k hk => h.eho hk) k hk
  · exact updA (fun k hk => h.eoi hk) k hk
  · have hk : k < U.L + 1 := hk
    show upd (t.2 10) U.L (-1) k = eT (if k = U.L then none else U.tw k)
    by_cases e : k = U.L
    · rw [e, upd_e, if_pos rfl]; rfl
    · rw [upd_n _ _ e, if_neg e]; exact h.etw (by omega)
theorem both_lamp (h : St8 n B L l c U tp sr t g m) (h0 : L.2.2.1 ≠ 0) : ∃ sr' t' m', f6_lampLine sr t = some (sr', t') ∧ f11_sayLamp m = some m' ∧ Fr sR [] sr sr' ∧ FrL m m' ∧ ((∃ kk p, De kk p sr' g m') ∨ ∃ L' U', St8 n B L' l c U' tp sr' t' g m' ∧ L.1 < L'.1) := by
  obtain ⟨hA, hT, hD, hC, hP, hg⟩ := h
  have hH8 := hT.W.H8
  have hL12 := hT.W.L12
  unfold f6_lampLine f11_sayLamp f11_another
  rw [hT.eL, hT.eH, show (4 : Int32) + 1 = nI 5 from rfl, ldO_n _ (by omega) (by decide), hD.2.1, Option.bind_some]
  by_cases z : U.L = 12
  · obtain ⟨sr', m', a1, a2, a3, a4, a5⟩ := both_fail hA (k := 2) (by decide) (by decide)
    rw [if_neg (show ¬ nI U.L < 12 from nI_nlt (b := 12) (by omega) (by omega)), show f6_fail sr 2 = some sr' from a1, Option.bind_some, Option.bind_some, accept_dead a5.c6, Option.bind_some, numberUpTo_dead a5.c6, Option.bind_some]
    dsimp only
    rw [accept_dead a5.c6, Option.bind_some, numberUpTo_dead a5.c6, Option.bind_some]
    dsimp only
    rw [accept_dead a5.c6, Option.bind_some, if_neg a5.c6, Option.bind_some, if_pos (show nI U.L = 12 by rw [z]; rfl), show f11_wrong m 2 = some m' from a2, Option.bind_some, Option.bind_some, if_neg a5.m20, Option.bind_some]
    dsimp only
    rw [if_pos zB_f]
    exact ⟨sr', t, m', rfl, rfl, a3, FrL.of a4, .inl ⟨2, L.1, a5⟩⟩
  have hL : U.L < 12 := by omega
  obtain ⟨sr1, m1, L1, a1, a2, a3, a4, a5, a6⟩ := both_step hA h0
  have hD1 := hD.fr a4
  rw [if_pos (show nI U.L < 12 from nI_lt (b := 12) hL (by decide)), Option.bind_some, a1, Option.bind_some, if_neg (show ¬ nI U.L = 12 from fun u => z ((nI_eq (b := 12) (by omega) (by decide)).1 u)), Option.bind_some, hA.m20, if_pos rfl, a2, Option.bind_some, Option.bind_some]
  dsimp only
  rw [if_neg (show ¬ zB true = 0 from by decide), cl_5', hD1.2.1, show (12 : Int32) = nI 12 from rfl, nI_add]
  obtain ⟨w1, sr2, m2, b1, b2, b3, b4, b5⟩ := both_one a5 (N := U.H) (by omega) (x1 := 0) (by rw [show (4 : Int32) + 0 = nI 4 from rfl, ldO_n _ (by omega) (by decide), hD1.1])
  rw [b1, Option.bind_some, b2, Option.bind_some]
  dsimp only
  rw [stS_n _ _ _ (by omega) (by decide), Option.bind_some]
  have f7 : ∀ (q : St) (v : Int32), FrL q (sA q 7 (upd (q.2 7) (12 + U.L) v)) := fun q v => ⟨fun _ _ => rfl, fun k hk => sA_2n _ _ (fun e => hk (by rw [e]; decide)), fun _ _ => rfl, fun _ _ => rfl, fun _ _ => rfl, fun _ _ => rfl⟩
  have f9 : ∀ (q : St) (v x : Int32), FrL q (sA (sA (sA q 8 (upd (q.2 8) (12 + U.L) v)) 9 (upd (q.2 9) (12 + U.L) (-1))) 3 (upd (q.2 3) 5 x)) := fun q v x => ⟨fun _ _ => rfl, fun k hk => ((sA_2n _ _ (fun e => hk (by rw [e]; decide))).trans (sA_2n _ _ (fun e => hk (by rw [e]; decide)))).trans (sA_2n _ _ (fun e => hk (by rw [e]; decide))), fun k hk => upd_n _ _ (by omega), fun _ _ => rfl, fun k hk => upd_n _ _ (by omega), fun _ _ => rfl⟩
  rcases b5 with ⟨rfl, kk, p, hd⟩ | ⟨hw1, rfl, rfl, hc2⟩
  · have hd' : De kk p sr2 g (sA m2 7 (upd (m2.2 7) (12 + U.L) (nI 0))) := hd.dr rfl
    rw [accept_dead hd.c6, Option.bind_some, numberUpTo_dead hd.c6, Option.bind_some]
    dsimp only
    rw [accept_dead hd.c6, Option.bind_some, if_neg hd.c6, Option.bind_some, if_neg hd'.m20, Option.bind_some, readNumber_dead hd'.m20, Option.bind_some]
    dsimp only
    rw [stS_n _ _ _ (by omega) (by decide), Option.bind_some, stS_n _ _ _ (by omega) (by decide), Option.bind_some, Option.bind_some]
    exact ⟨sr2, t, _, rfl, rfl, a3.trans b3, ((FrL.of a4).trans (FrL.of b4)).trans ((f7 _ _).trans (f9 _ _ _)), .inl ⟨kk, p, hd.dr rfl⟩⟩
  · skip
    have hA2 : Al n B L1 l c sr2 g (sA m2 7 (upd (m2.2 7) (12 + U.L) (nI w1))) := a5.dr rfl rfl rfl rfl
    obtain ⟨sr3, m3, L3, c1, c2, c3, c4, c5, c6⟩ := both_step hA2 (by omega)
    obtain ⟨w2, sr3', sr4, m4, d1, d2, d3, d4, d5, d6⟩ := both_number c5 (hi := 99) (by decide)
    have d1 : f6_numberUpTo sr3 99 2 = some (nI w2, sr3') := d1
    have d3 : f11_readNumber m3 0 99 = some (nI w2, m4) := d3
    rw [c1, Option.bind_some, d1, Option.bind_some, hA2.m20, if_pos rfl, c2, Option.bind_some, Option.bind_some, d3, Option.bind_some]
    dsimp only
    rw [d2, Option.bind_some, stS_n _ _ _ (by omega) (by decide), Option.bind_some, stS_n _ _ _ (by omega) (by decide), Option.bind_some, Option.bind_some]
    have fA : FrL m m4 := ((FrL.of a4).trans (f7 m2 (nI w1))).trans (FrL.of (c4.trans d5))
    rcases d6 with ⟨rfl, kk, p, hd, rfl⟩ | ⟨hw2, L4, hA5, hlt2⟩
    · rw [if_neg hd.c6, Option.bind_some]
      exact ⟨sr3', t, _, rfl, rfl, (a3.trans c3).trans d4, fA.trans (f9 _ _ _), .inl ⟨kk, p, hd.dr rfl⟩⟩
    · obtain ⟨t', e1, e2⟩ := C_addLamp hT hC hL (show w1 < U.H from hw1) (show w2 ≤ 99 from hw2)
      rw [hA5.c6, if_pos rfl, e1, Option.bind_some, Option.bind_some]
      refine ⟨sr4, t', _, rfl, rfl, (a3.trans c3).trans d4, fA.trans (f9 _ _ _), .inr ⟨L4, U.addL w1 w2, ⟨?_, e2, ?_, ⟨hC.1, hC.2.1, hC.2.2⟩, ?_, hg⟩, by omega⟩⟩
      · refine hA5.dr rfl rfl ?_ rfl
        show upd (m4.2 3) 5 (m4.2 3 5 + 1) 7 = m4.2 3 7
        rw [upd_n _ _ (by decide)]
      · have fE := c4.trans d5
        have m47 : m4.2 7 = upd (m2.2 7) (12 + U.L) (nI w1) := fE.2.1 7 (by decide) (by decide)
        have m48 : m4.2 8 = m2.2 8 := fE.2.1 8 (by decide) (by decide)
        have m49 : m4.2 9 = m2.2 9 := fE.2.1 9 (by decide) (by decide)
        have m44 : m4.2 4 = m2.2 4 := fE.2.1 4 (by decide) (by decide)
        have m45 : m4.2 5 = m2.2 5 := fE.2.1 5 (by decide) (by decide)
        have m46 : m4.2 6 = m2.2 6 := fE.2.1 6 (by decide) (by decide)
        have m43 : ∀ k, k ≠ 7 → m4.2 3 k = m2.2 3 k := fun k hk => fE.2.2.1 k hk
        obtain ⟨g1, g2, g3, g4, g5⟩ := hD1
        refine ⟨?_, ?_, ?_, fun k hk => ?_, fun k hk => ⟨?_, ?_, ?_⟩⟩
        · show upd (m4.2 3) 5 (m4.2 3 5 + 1) 4 = nI U.H
          rw [upd_n _ _ (by decide), m43 4 (by decide), g1]
        · show upd (m4.2 3) 5 (m4.2 3 5 + 1) 5 = nI (U.L + 1)
          rw [upd_e, m43 5 (by decide), g2, nI_1]
        · show upd (m4.2 3) 5 (m4.2 3 5 + 1) 6 = nI tp
          rw [upd_n _ _ (by decide), m43 6 (by decide), g3]
        · show m4.2 4 (8 + k) = _ ∧ m4.2 5 (8 + k) = _ ∧ m4.2 6 (8 + k) = _
          rw [m44, m45, m46]
          exact g4 k hk
        · show m4.2 7 (12 + k) = _
          rw [m47]
          exact updB (fun k hk => (g5 k hk).1) k hk
        · show upd (m4.2 8) (12 + U.L) (nI w2) (12 + k) = _
          rw [m48]
          exact updB (fun k hk => (g5 k hk).2.1) k hk
        · have hk : k < U.L + 1 := hk
          show upd (m4.2 9) (12 + U.L) (-1) (12 + k) = eT (if k = U.L then none else U.tw k)
          rw [m49]
          by_cases e : k = U.L
          · rw [e, upd_e, if_pos rfl]; rfl
          · rw [upd_n _ _ (by omega), if_neg e]; exact (g5 k (by omega)).2.2
      · show fb_ct (fun k => decide ((if k = U.L then none else U.tw k) = none)) (U.L + 1) + 2 * tp = U.L + 1
        have e9 : fb_ct (fun k => decide ((if k = U.L then none else U.tw k) = none)) U.L = fb_ct (fun k => decide (U.tw k = none)) U.L := fb_ct_cong fun k hk => by
          show decide ((if k = U.L then none else U.tw k) = none) = _
          rw [if_neg (by omega)]
        rw [fb_ct_succ, e9, if_pos (by show decide ((if U.L = U.L then none else U.tw U.L) = none) = true; rw [if_pos rfl]; rfl)]
        unfold aloneN at hP
        omega
end
