/-! twins told -/
def TW.addP (U : TW) (a b : Nat) : TW := U.sTw (fun k => if k = b then some a else if k = a then some b else U.tw k)
section
variable {n : Nat} {B : Nat → Nat} {L : LX} {l : Nat} {c : Nat → Nat} {sr t g m m' : St} {kk p tp : Nat} {U : TW}
theorem oneNow_dead (h : ¬ m.1 20 = 0) (x : Int32) : f11_oneNow m x = some (0, m) := by
  unfold f11_oneNow
  rw [numberNow_dead h, Option.bind_some]
  dsimp only
  rw [if_neg h, Option.bind_some, if_neg h]
theorem addP_W (h : WfT U) {a b : Nat} (ha : a < U.L) (hb : b < U.L) (hab : a ≠ b) (ea : U.tw a = none) (eb : U.tw b = none) : WfT (U.addP a b) := by
  refine ⟨h.H8, h.L12, h.oB, h.2.2.2.1, fun k hk => ⟨h.hoH hk, h.oi99 hk, fun j z => ?_⟩⟩
  have hk : k < U.L := hk
  have z : (if k = b then some a else if k = a then some b else U.tw k) = some j := z
  show j < U.L ∧ j ≠ k ∧ (if j = b then some a else if j = a then some b else U.tw j) = some k
  by_cases e1 : k = b
  · rw [if_pos e1] at z
    obtain rfl := Option.some.inj z
    exact ⟨ha, by rw [e1]; exact hab, by rw [if_neg hab, if_pos rfl, e1]⟩
  · rw [if_neg e1] at z
    by_cases e2 : k = a
    · rw [if_pos e2] at z
      obtain rfl := Option.some.inj z
      exact ⟨hb, by rw [e2]; exact fun x => hab x.symm, by rw [if_pos rfl, e2]⟩
    · rw [if_neg e2] at z
      obtain ⟨i1, i2, i3⟩ := h.twI hk z
      refine ⟨i1, i2, ?_⟩
      rw [if_neg (fun x => by rw [x, eb] at i3; cases i3), if_neg (fun x => by rw [x, ea] at i3; cases i3)]
      exact i3
theorem addP_alone {a b : Nat} (ha : a < U.L) (hb : b < U.L) (hab : a ≠ b) (ea : U.tw a = none) (eb : U.tw b = none) : aloneN (U.addP a b) + 2 = aloneN U := by
  unfold aloneN
  have e : fb_ct (fun l => decide ((U.addP a b).tw l = none)) (U.addP a b).L = fb_ct (fun k => if k = b then false else (fun k => if k = a then false else decide (U.tw k = none)) k) U.L := fb_ct_cong fun k _ => by
    show decide ((if k = b then some a else if k = a then some b else U.tw k) = none) = _
    by_cases e1 : k = b
    · rw [if_pos e1, if_pos e1]; exact decide_eq_false (fun z => by cases z)
    · rw [if_neg e1, if_neg e1]
      dsimp only
      by_cases e2 : k = a
      · rw [if_pos e2, if_pos e2]; exact decide_eq_false (fun z => by cases z)
      · rw [if_neg e2, if_neg e2]
  have h1 := fb_ct_upd (fun k => if k = a then false else decide (U.tw k = none)) false hb
  have h2 := fb_ct_upd (fun k => decide (U.tw k = none)) false ha
  have hv : (if b = a then false else decide (U.tw b = none)) = true := by rw [if_neg (fun z => hab z.symm)]; exact decide_eq_true eb
  rw [hv, if_pos rfl, if_neg (by decide)] at h1
  rw [decide_eq_true ea, if_pos rfl, if_neg (by decide)] at h2
  rw [e]
  dsimp only
  omega
theorem both_twins (h : St8 n B L l c U tp sr t g m) (h0 : L.2.2.1 ≠ 0) : ∃ sr' t' m', f6_twinsLine sr t = some (sr', t') ∧ f11_sayTwins m = some m' ∧ Fr sR [] sr sr' ∧ FrL m m' ∧ ((∃ kk p, De kk p sr' g m') ∨ ∃ L' U' tp', St8 n B L' l c U' tp' sr' t' g m' ∧ L.1 < L'.1) := by
  obtain ⟨hA, hT, hD, hC, hP, hg⟩ := h
  have hL12 := hT.W.L12
  have t5 : ∀ k, k < U.L → ∀ j, U.tw k = some j → j < 100000 := fun k hk j e => by have := (hT.W.twI hk e).1; omega
  unfold f6_twinsLine f11_sayTwins
  obtain ⟨sr1, m1, L1, a1, a2, a3, a4, a5, a6⟩ := both_step hA h0
  have hD1 := hD.fr a4
  rw [a1, Option.bind_some, hA.m20, if_pos rfl, a2, Option.bind_some, hT.eL]
  obtain ⟨w1, sr2, m2, b1, b2, b3, b4, b5⟩ := both_one a5 (N := U.L) hL12 (x1 := 1) (by rw [show (4 : Int32) + 1 = nI 5 from rfl, ldO_n _ (by omega) (by decide), hD1.2.1])
  rw [b1, Option.bind_some, b2, Option.bind_some]
  dsimp only
  rcases b5 with ⟨rfl, kk, p, hd⟩ | ⟨hw1, rfl, rfl, hc2⟩
  · rw [if_neg hd.c6, Option.bind_some, accept_dead hd.c6, Option.bind_some, numberUpTo_dead hd.c6, Option.bind_some, if_neg hd.m20, Option.bind_some, if_neg hd.m20, Option.bind_some, oneNow_dead hd.m20, Option.bind_some]
    dsimp only
    rw [if_neg hd.c6, Option.bind_some, accept_dead hd.c6, Option.bind_some, if_neg hd.c6, Option.bind_some, if_neg hd.m20, Option.bind_some, if_neg hd.m20]
    exact ⟨sr2, t, m2, rfl, rfl, a3.trans b3, (FrL.of a4).trans (FrL.of b4), .inl ⟨kk, p, hd⟩⟩
  have T1 : t.2 10 w1 = eT (U.tw w1) := hT.etw hw1
  have M1 : m2.2 9 (12 + w1) = eT (U.tw w1) := (hD1.2.2.2.2 w1 hw1).2.2
  have n12 : (12 : Int32) + nI w1 = nI (12 + w1) := by rw [show (12 : Int32) = nI 12 from rfl, nI_add]
  rw [a5.c6, if_pos rfl, ldO_n _ (by omega) (by decide), T1, Option.bind_some, a5.m20, if_pos rfl, n12, ldO_n _ (by omega) (by decide), M1, Option.bind_some]
  by_cases z1 : U.tw w1 = none
  case neg =>
    have y1 : ¬ eT (U.tw w1) = -1 := by rw [eT_m1 (t5 w1 hw1)]; exact z1
    obtain ⟨sr', m', e1, e2, e3, e4, hd⟩ := both_fail a5 (k := 4) (by decide) (by decide)
    rw [if_neg y1, if_neg y1, show f6_fail sr2 4 = some sr' from e1, show f11_wrong m2 4 = some m' from e2, Option.bind_some, Option.bind_some, Option.bind_some, Option.bind_some, accept_dead hd.c6, Option.bind_some, numberUpTo_dead hd.c6, Option.bind_some, if_neg hd.m20, Option.bind_some, oneNow_dead hd.m20, Option.bind_some]
    dsimp only
    rw [if_neg hd.c6, Option.bind_some, accept_dead hd.c6, Option.bind_some, if_neg hd.c6, Option.bind_some, if_neg hd.m20, Option.bind_some, if_neg hd.m20]
    exact ⟨sr', t, m', rfl, rfl, a3.trans e3, (FrL.of a4).trans (FrL.of e4), .inl ⟨_, _, hd⟩⟩
  have y1 : eT (U.tw w1) = -1 := by rw [z1]; rfl
  obtain ⟨sr3, m3, L3, c1, c2, c3, c4, c5, c6⟩ := both_step a5 (by omega)
  have hD3 := hD1.fr c4
  rw [if_pos y1, if_pos y1, Option.bind_some, c1, Option.bind_some, Option.bind_some, a5.m20, if_pos rfl, c2, Option.bind_some, Option.bind_some]
  obtain ⟨w2, sr4, m4, d1, d2, d3, d4, d5⟩ := both_one c5 (N := U.L) hL12 (x1 := 1) (by rw [show (4 : Int32) + 1 = nI 5 from rfl, ldO_n _ (by omega) (by decide), hD3.2.1])
  rw [d1, Option.bind_some, d2, Option.bind_some]
  dsimp only
  rcases d5 with ⟨rfl, kk, p, hd⟩ | ⟨hw2, rfl, rfl, hc3⟩
  · rw [if_neg hd.c6, Option.bind_some, accept_dead hd.c6, Option.bind_some, if_neg hd.c6, Option.bind_some, if_neg hd.m20, Option.bind_some, if_neg hd.m20]
    exact ⟨sr4, t, m4, rfl, rfl, (a3.trans c3).trans d3, (FrL.of a4).trans (FrL.of (c4.trans d4)), .inl ⟨kk, p, hd⟩⟩
  have T2 : t.2 10 w2 = eT (U.tw w2) := hT.etw hw2
  have M2 : m4.2 9 (12 + w2) = eT (U.tw w2) := (hD3.2.2.2.2 w2 hw2).2.2
  have n13 : (12 : Int32) + nI w2 = nI (12 + w2) := by rw [show (12 : Int32) = nI 12 from rfl, nI_add]
  have q12 : (nI w2 = nI w1) ↔ w2 = w1 := nI_eq (by omega) (by omega)
  have q21 : (nI w1 = nI w2) ↔ w1 = w2 := nI_eq (by omega) (by omega)
  have bad : ∃ sr' m', f6_fail sr4 4 = some sr' ∧ f11_wrong m4 4 = some m' ∧ Fr sR [] sr4 sr' ∧ FrE m4 m' ∧ De 4 L3.1 sr' g m' := both_fail c5 (k := 4) (by decide) (by decide)
  obtain ⟨sr', m', e1, e2, e3, e4, hd⟩ := bad
  rw [c5.c6, if_pos rfl, ldO_n _ (by omega) (by decide), T2, Option.bind_some, c5.m20, if_pos rfl, n13, ldO_n _ (by omega) (by decide), M2, Option.bind_some]
  by_cases z2 : w2 = w1
  · have y2 : eT (U.tw w2) = -1 := by rw [z2]; exact y1
    rw [if_pos y2, if_pos (q12.2 z2), if_pos (q21.2 z2.symm), e1, e2, Option.bind_some, Option.bind_some, Option.bind_some, Option.bind_some]
    rw [accept_dead hd.c6, Option.bind_some, if_neg hd.c6, Option.bind_some, if_neg hd.m20]
    exact ⟨sr', t, m', rfl, rfl, (a3.trans c3).trans e3, (FrL.of a4).trans (FrL.of (c4.trans e4)), .inl ⟨_, _, hd⟩⟩
  rw [if_neg (fun u => z2 (q12.1 u)), if_neg (fun u => z2 (q21.1 u).symm)]
  by_cases z3 : U.tw w2 = none
  case neg =>
    have y2 : ¬ eT (U.tw w2) = -1 := by rw [eT_m1 (t5 w2 hw2)]; exact z3
    rw [if_neg y2, if_neg y2, e1, e2, Option.bind_some, Option.bind_some, Option.bind_some, Option.bind_some]
    rw [accept_dead hd.c6, Option.bind_some, if_neg hd.c6, Option.bind_some, if_neg hd.m20]
    exact ⟨sr', t, m', rfl, rfl, (a3.trans c3).trans e3, (FrL.of a4).trans (FrL.of (c4.trans e4)), .inl ⟨_, _, hd⟩⟩
  have y2 : eT (U.tw w2) = -1 := by rw [z3]; rfl
  obtain ⟨sr5, m5, L5, g1, g2, g3, g4, g5, g6⟩ := both_step c5 (by omega)
  have hD5 := hD3.fr g4
  rw [if_pos y2, if_pos y2, Option.bind_some, Option.bind_some, g1, Option.bind_some, g5.c6, if_pos rfl, stS_n _ _ _ (by omega) (by decide), Option.bind_some, stS_n _ _ _ (by omega) (by decide), Option.bind_some, Option.bind_some]
  rw [c5.m20, if_pos rfl, g2, Option.bind_some, stS_n _ _ _ (by omega) (by decide), Option.bind_some, stS_n _ _ _ (by omega) (by decide), Option.bind_some, Option.bind_some, cl_6]
  refine ⟨sr5, _, _, rfl, rfl, (a3.trans c3).trans g3, ((FrL.of a4).trans (FrL.of (c4.trans g4))).trans ⟨fun _ _ => rfl, fun k hk => ((sA_2n _ _ (fun e => hk (by rw [e]; decide))).trans (sA_2n _ _ (fun e => hk (by rw [e]; decide)))).trans (sA_2n _ _ (fun e => hk (by rw [e]; decide))), fun k hk => upd_n _ _ (by omega), fun _ _ => rfl, fun k hk => (upd_n _ _ (by omega)).trans (upd_n _ _ (by omega)), fun _ _ => rfl⟩, .inr ⟨L5, U.addP w1 w2, tp + 1, ⟨?_, ⟨addP_W hT.W hw1 hw2 (fun e => z2 e.symm) z1 z3, hT.eH, hT.eL, hT.eo, hT.eli, hT.ebr, hT.2.2.2.2.2.2.1, fun k hk => ⟨hT.eho hk, hT.eoi hk, ?_⟩⟩, ?_, hC, ?_, hg⟩, by omega⟩⟩
  · refine g5.dr rfl rfl ?_ rfl
    show upd (m5.2 3) 6 (m5.2 3 6 + 1) 7 = m5.2 3 7
    rw [upd_n _ _ (by decide)]
  · have hk : k < U.L := hk
    show upd (upd (t.2 10) w1 (nI w2)) w2 (nI w1) k = eT (if k = w2 then some w1 else if k = w1 then some w2 else U.tw k)
    by_cases u1 : k = w2
    · rw [u1, upd_e, if_pos rfl]; rfl
    · rw [upd_n _ _ u1, if_neg u1]
      by_cases u2 : k = w1
      · rw [u2, upd_e, if_pos rfl]; rfl
      · rw [upd_n _ _ u2, if_neg u2]; exact hT.etw hk
  · obtain ⟨i1, i2, i3, i4, i5⟩ := hD5
    refine ⟨?_, ?_, ?_, i4, fun k hk => ⟨(i5 k hk).1, (i5 k hk).2.1, ?_⟩⟩
    · show upd (m5.2 3) 6 (m5.2 3 6 + 1) 4 = nI U.H
      rw [upd_n _ _ (by decide), i1]
    · show upd (m5.2 3) 6 (m5.2 3 6 + 1) 5 = nI U.L
      rw [upd_n _ _ (by decide), i2]
    · show upd (m5.2 3) 6 (m5.2 3 6 + 1) 6 = nI (tp + 1)
      rw [upd_e, i3, nI_1]
    · have hk : k < U.L := hk
      show upd (upd (m5.2 9) (12 + w1) (nI w2)) (12 + w2) (nI w1) (12 + k) = eT (if k = w2 then some w1 else if k = w1 then some w2 else U.tw k)
      by_cases u1 : k = w2
      · rw [u1, upd_e, if_pos rfl]; rfl
      · rw [upd_n _ _ (by omega), if_neg u1]
        by_cases u2 : k = w1
        · rw [u2, upd_e, if_pos rfl]; rfl
        · rw [upd_n _ _ (by omega), if_neg u2]; exact (i5 k hk).2.2
  · have := addP_alone hw1 hw2 (fun e => z2 e.symm) z1 z3
    show aloneN (U.addP w1 w2) + 2 * (tp + 1) = U.L
    omega
end
