/-! a house -/
def TW.addH (U : TW) (i w s : Nat) : TW := (U.H + 1, U.L, U.o, (fun k => if k = U.H then i else U.ki k), (fun k => if k = U.H then w else U.wa k), (fun k => if k = U.H then s else U.sl k), U.ho, U.oi, U.tw, U.li, U.br)
theorem cl_4' : (4 : Int32).toNatClampNeg = 4 := by decide +kernel
section
variable {n : Nat} {B : Nat → Nat} {L : LX} {l : Nat} {c : Nat → Nat} {sr t g m m' : St} {kk p tp : Nat} {U : TW}
theorem De.dr {x : St} (h : De kk p sr g m) (e : x.1 = m.1) : De kk p sr g x := by
  unfold De at h ⊢
  rw [e]
  exact h
theorem updB {f : Nat → Int32} {a : Nat → Nat} {b H v : Nat} (h : ∀ k, k < H → f (b + k) = nI (a k)) : ∀ k, k < H + 1 → upd f (b + H) (nI v) (b + k) = nI (if k = H then v else a k) := fun k hk => by
  by_cases e : k = H
  · rw [e, upd_e, if_pos rfl]
  · rw [upd_n _ _ (by omega), if_neg e]; exact h k (by omega)
theorem updA {f : Nat → Int32} {a : Nat → Nat} {H v : Nat} (h : ∀ k, k < H → f k = nI (a k)) : ∀ k, k < H + 1 → upd f H (nI v) k = nI (if k = H then v else a k) := fun k hk => by
  by_cases e : k = H
  · rw [e, upd_e, if_pos rfl]
  · rw [upd_n _ _ (by omega), if_neg e]; exact h k (by omega)
theorem addH_W (h : WfT U) (hH : U.H < 8) {i w s : Nat} (hi : i < 4) (hw : w < 24) (hs : s < 24) : WfT (U.addH i w s) := by
  refine ⟨by show U.H + 1 ≤ 8; omega, h.L12, h.oB, fun k hk => ?_, fun k hk => ⟨?_, h.oi99 hk, fun j e => h.twI hk e⟩⟩
  · have hk : k < U.H + 1 := hk
    show (if k = U.H then i else U.ki k) < 4 ∧ (if k = U.H then w else U.wa k) < 24 ∧ (if k = U.H then s else U.sl k) < 24
    by_cases e : k = U.H
    · rw [if_pos e, if_pos e, if_pos e]; exact ⟨hi, hw, hs⟩
    · rw [if_neg e, if_neg e, if_neg e]; exact ⟨h.ki4 (by omega), h.wa24 (by omega), h.sl24 (by omega)⟩
  · show U.ho k < U.H + 1
    have := h.hoH (k := k) hk
    omega
theorem C_addHouse (h : RcT U t) (hH : U.H < 8) {i w s : Nat} (hi : i < 4) (hw : w < 24) (hs : s < 24) : ∃ t', f9_addHouse t (nI i) (nI w) (nI s) = some t' ∧ RcT (U.addH i w s) t' := by
  unfold f9_addHouse
  rw [h.eH, if_neg (show ¬ (8 : Int32) ≤ nI U.H from nI_ge (b := 8) hH (by decide)), stS_n _ _ _ hH (by decide), Option.bind_some, sA_1, h.eH, stS_n _ _ _ hH (by decide), Option.bind_some, sA_1, sA_1, h.eH, stS_n _ _ _ hH (by decide), Option.bind_some, Option.bind_some, Option.bind_some]
  refine ⟨_, rfl, addH_W h.W hH hi hw hs, ?_, h.eL, h.eo, h.eli, h.ebr, fun k hk => ⟨?_, ?_, ?_⟩, h.2.2.2.2.2.2.2⟩
  · show t.1 0 + 1 = nI (U.H + 1)
    rw [h.eH, nI_1]
  · exact updA (fun k hk => h.eki hk) k hk
  · exact updA (fun k hk => h.ewa hk) k hk
  · exact updA (fun k hk => h.esl hk) k hk
theorem both_house (h : St8 n B L l c U tp sr t g m) (h0 : L.2.2.1 ≠ 0) {i : Nat} (hi : i < 4) : ∃ sr' t' m', f6_houseLine sr t (nI i) = some (sr', t') ∧ f11_sayHouse m (nI i) = some m' ∧ Fr sR [] sr sr' ∧ FrL m m' ∧ ((∃ kk p, De kk p sr' g m') ∨ ∃ L' U', St8 n B L' l c U' tp sr' t' g m' ∧ L.1 < L'.1) := by
  obtain ⟨hA, hT, hD, hC, hP, hg⟩ := h
  have hH8 := hT.W.H8
  unfold f6_houseLine f11_sayHouse f11_another
  rw [hT.eH, show (4 : Int32) + 0 = nI 4 from rfl, ldO_n _ (by omega) (by decide), hD.1, Option.bind_some]
  by_cases z : U.H = 8
  · obtain ⟨sr', m', a1, a2, a3, a4, a5⟩ := both_fail hA (k := 2) (by decide) (by decide)
    rw [if_neg (show ¬ nI U.H < 8 from nI_nlt (b := 8) (by omega) (by omega)), show f6_fail sr 2 = some sr' from a1, Option.bind_some, Option.bind_some, accept_dead a5.c6, Option.bind_some, numberUpTo_dead a5.c6, Option.bind_some]
    dsimp only
    rw [accept_dead a5.c6, Option.bind_some, numberUpTo_dead a5.c6, Option.bind_some]
    dsimp only
    rw [accept_dead a5.c6, Option.bind_some, if_neg a5.c6, Option.bind_some, if_pos (show nI U.H = 8 by rw [z]; rfl), show f11_wrong m 2 = some m' from a2, Option.bind_some, Option.bind_some, if_neg a5.m20, Option.bind_some]
    dsimp only
    rw [if_pos zB_f]
    exact ⟨sr', t, m', rfl, rfl, a3, FrL.of a4, .inl ⟨2, L.1, a5⟩⟩
  have hH : U.H < 8 := by omega
  obtain ⟨sr1, m1, L1, a1, a2, a3, a4, a5, a6⟩ := both_step hA h0
  have hD1 := hD.fr a4
  rw [if_pos (show nI U.H < 8 from nI_lt (b := 8) hH (by decide)), Option.bind_some, a1, Option.bind_some, if_neg (show ¬ nI U.H = 8 from fun u => z ((nI_eq (b := 8) (by omega) (by decide)).1 u)), Option.bind_some, hA.m20, if_pos rfl, a2, Option.bind_some, Option.bind_some]
  dsimp only
  rw [if_neg (show ¬ zB true = 0 from by decide), cl_4', hD1.1, show (8 : Int32) = nI 8 from rfl, nI_add, stS_n _ _ _ (by omega) (by decide), Option.bind_some]
  have hA2 : Al n B L1 l c sr1 g (sA m1 4 (upd (m1.2 4) (8 + U.H) (nI i))) := a5.dr rfl rfl rfl rfl
  obtain ⟨w1, sr1', sr2, m2, b1, b2, b3, b4, b5, b6⟩ := both_number hA2 (hi := 23) (by decide)
  have b1 : f6_numberUpTo sr1 23 2 = some (nI w1, sr1') := b1
  have b3 : f11_readNumber (sA m1 4 (upd (m1.2 4) (8 + U.H) (nI i))) 0 23 = some (nI w1, m2) := b3
  rw [b1, Option.bind_some, b3, Option.bind_some]
  dsimp only
  rw [b2, Option.bind_some, stS_n _ _ _ (by omega) (by decide), Option.bind_some]
  have m24 : m2.2 4 = upd (m1.2 4) (8 + U.H) (nI i) := b5.2.1 4 (by decide) (by decide)
  have m25 : m2.2 5 = m1.2 5 := b5.2.1 5 (by decide) (by decide)
  have m26 : m2.2 6 = m1.2 6 := b5.2.1 6 (by decide) (by decide)
  have f1 : FrL m1 m2 := by
    refine FrL.trans (n := sA m1 4 (upd (m1.2 4) (8 + U.H) (nI i))) ⟨fun _ _ => rfl, fun k hk => sA_2n _ _ (fun e => hk (by rw [e]; decide)), fun _ _ => rfl, fun k hk => ?_, fun _ _ => rfl, fun _ _ => rfl⟩ (FrL.of b5)
    show upd (m1.2 4) (8 + U.H) (nI i) k = _
    rw [upd_n _ _ (by omega)]
  have f2 : FrL m2 (sA m2 5 (upd (m2.2 5) (8 + U.H) (nI w1))) := ⟨fun _ _ => rfl, fun k hk => sA_2n _ _ (fun e => hk (by rw [e]; decide)), fun _ _ => rfl, fun _ _ => rfl, fun _ _ => rfl, fun _ _ => rfl⟩
  have f3 : ∀ (q : St) (v x : Int32), FrL q (sA (sA q 6 (upd (q.2 6) (8 + U.H) v)) 3 (upd (q.2 3) 4 x)) := fun q v x => ⟨fun _ _ => rfl, fun k hk => (sA_2n _ _ (fun e => hk (by rw [e]; decide))).trans (sA_2n _ _ (fun e => hk (by rw [e]; decide))), fun k hk => upd_n _ _ (by omega), fun _ _ => rfl, fun _ _ => rfl, fun _ _ => rfl⟩
  rcases b6 with ⟨rfl, kk, p, hd, rfl⟩ | ⟨hw1, L2, hA3, hlt⟩
  · have hd' : De kk p sr1' g (sA m2 5 (upd (m2.2 5) (8 + U.H) (nI 0))) := hd.dr rfl
    rw [numberUpTo_dead hd.c6, Option.bind_some, readNumber_dead hd'.m20, Option.bind_some]
    dsimp only
    rw [accept_dead hd.c6, Option.bind_some, if_neg hd.c6, Option.bind_some, stS_n _ _ _ (by omega) (by decide), Option.bind_some, Option.bind_some]
    exact ⟨sr1', t, _, rfl, rfl, a3.trans b4, ((FrL.of a4).trans f1).trans (f2.trans (f3 _ _ _)), .inl ⟨kk, p, hd.dr rfl⟩⟩
  · have hA4 : Al n B L2 l c sr2 g (sA m2 5 (upd (m2.2 5) (8 + U.H) (nI w1))) := hA3.dr rfl rfl rfl rfl
    obtain ⟨w2, sr2', sr3, m3, c1, c2, c3, c4, c5, c6⟩ := both_number hA4 (hi := 23) (by decide)
    have c1 : f6_numberUpTo sr2 23 2 = some (nI w2, sr2') := c1
    have c3 : f11_readNumber (sA m2 5 (upd (m2.2 5) (8 + U.H) (nI w1))) 0 23 = some (nI w2, m3) := c3
    rw [c1, Option.bind_some, c3, Option.bind_some]
    dsimp only
    rw [c2, Option.bind_some, stS_n _ _ _ (by omega) (by decide), Option.bind_some, Option.bind_some]
    have fA : FrL m m3 := ((FrL.of a4).trans f1).trans (f2.trans (FrL.of c5))
    rcases c6 with ⟨rfl, kk, p, hd, rfl⟩ | ⟨hw2, L3, hA5, hlt2⟩
    · rw [if_neg hd.c6, Option.bind_some]
      exact ⟨sr2', t, _, rfl, rfl, (a3.trans b4).trans c4, fA.trans (f3 _ _ _), .inl ⟨kk, p, hd.dr rfl⟩⟩
    · obtain ⟨t', d1, d2⟩ := C_addHouse hT hH hi (show w1 < 24 by omega) (show w2 < 24 by omega)
      rw [hA5.c6, if_pos rfl, d1, Option.bind_some, Option.bind_some]
      refine ⟨sr3, t', _, rfl, rfl, (a3.trans b4).trans c4, fA.trans (f3 _ _ _), .inr ⟨L3, U.addH i w1 w2, ⟨?_, d2, ?_, hC, hP, hg⟩, by omega⟩⟩
      · refine hA5.dr rfl rfl ?_ rfl
        show upd (m3.2 3) 4 (m3.2 3 4 + 1) 7 = m3.2 3 7
        rw [upd_n _ _ (by decide)]
      · have m34 : m3.2 4 = upd (m1.2 4) (8 + U.H) (nI i) := (c5.2.1 4 (by decide) (by decide)).trans m24
        have m35 : m3.2 5 = upd (m1.2 5) (8 + U.H) (nI w1) := (c5.2.1 5 (by decide) (by decide)).trans (by
          show upd (m2.2 5) (8 + U.H) (nI w1) = _
          rw [m25])
        have m36 : m3.2 6 = m1.2 6 := (c5.2.1 6 (by decide) (by decide)).trans m26
        have m37 : m3.2 7 = m1.2 7 := (c5.2.1 7 (by decide) (by decide)).trans (b5.2.1 7 (by decide) (by decide))
        have m38 : m3.2 8 = m1.2 8 := (c5.2.1 8 (by decide) (by decide)).trans (b5.2.1 8 (by decide) (by decide))
        have m39 : m3.2 9 = m1.2 9 := (c5.2.1 9 (by decide) (by decide)).trans (b5.2.1 9 (by decide) (by decide))
        have m33 : ∀ k, k ≠ 7 → m3.2 3 k = m1.2 3 k := fun k hk => (c5.2.2.1 k hk).trans (b5.2.2.1 k hk)
        obtain ⟨g1, g2, g3, g4, g5⟩ := hD1
        refine ⟨?_, ?_, ?_, fun k hk => ⟨?_, ?_, ?_⟩, fun k hk => ?_⟩
        · show upd (m3.2 3) 4 (m3.2 3 4 + 1) 4 = nI (U.H + 1)
          rw [upd_e, m33 4 (by decide), g1, nI_1]
        · show upd (m3.2 3) 4 (m3.2 3 4 + 1) 5 = nI U.L
          rw [upd_n _ _ (by decide), m33 5 (by decide), g2]
        · show upd (m3.2 3) 4 (m3.2 3 4 + 1) 6 = nI tp
          rw [upd_n _ _ (by decide), m33 6 (by decide), g3]
        · show m3.2 4 (8 + k) = _
          rw [m34]
          exact updB (fun k hk => (g4 k hk).1) k hk
        · show m3.2 5 (8 + k) = _
          rw [m35]
          exact updB (fun k hk => (g4 k hk).2.1) k hk
        · show upd (m3.2 6) (8 + U.H) (nI w2) (8 + k) = _
          rw [m36]
          exact updB (fun k hk => (g4 k hk).2.2) k hk
        · show m3.2 7 (12 + k) = _ ∧ m3.2 8 (12 + k) = _ ∧ m3.2 9 (12 + k) = _
          rw [m37, m38, m39]
          exact g5 k hk
end
