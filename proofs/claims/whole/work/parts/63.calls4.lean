/-! game, see, forget, image, restore, house, lamp, fund, signals, fault -/
section
variable {r : RU} {T U : TW} {k : Nat} {hs : Nat → TW} {V : SV} {sx sr st sg sv m sp spt spv e : St} {sh sph : HSt}
theorem manyCase (y : Int32) : (f10_needHourOrMany y = some (.inr 1) ∧ (y < 0 ∨ ¬ y < 0 ∧ ¬ y ≤ 1)) ∨ (f10_needHourOrMany y = some (.inl ()) ∧ ¬ y < 0 ∧ y ≤ 1 ∧ (y = 0 ∨ y = 1)) := by
  unfold f10_needHourOrMany
  by_cases y0 : y = 0
  · subst y0
    exact .inr ⟨by rw [if_pos rfl]; rfl, by decide, by decide, .inl rfl⟩
  · by_cases y1 : y = 1
    · subst y1
      exact .inr ⟨by rw [if_neg (by decide), if_pos rfl]; rfl, by decide, by decide, .inr rfl⟩
    · left
      refine ⟨by rw [if_neg y0, if_neg y1], ?_⟩
      rcases pk_ix y (n := 2) (by decide) with q | q | ⟨j, q, rfl⟩
      · exact .inl q
      · have h2 := (fa_le _ _).1 q
        rw [show (nI 2).toInt = 2 from by decide +kernel] at h2
        refine .inr ⟨fun z => ?_, fun z => ?_⟩
        · have h1 := (fa_lt _ _).1 z
          rw [show (0 : Int32).toInt = 0 from by decide +kernel] at h1
          omega
        · have h1 := (fa_le _ _).1 z
          rw [show (1 : Int32).toInt = 1 from by decide +kernel] at h1
          omega
      · exfalso
        have : j = 0 ∨ j = 1 := by omega
        rcases this with rfl | rfl
        · exact y0 rfl
        · exact y1 rfl
theorem Q_game (h : RcT T st) (h' : RmT T m) (hg : RcR r.1 r.2 sg) (hR : RmR r.1 r.2 m) (hok : okR r.1 r.2) (hlt : LiT T) (su sx : St) (y1 y2 y3 : Int32) : Agr (f10_game sx st sg su y1 y2 y3) kfN (f11_game m y1 y2 y3) (sg, su) (fun s m' => QP r T m s.1 m') := by
  have hL := h.W.L12
  have hoB := h.W.oB
  rcases lampCase h h'.s2 sx y1 with ⟨e1, e2⟩ | ⟨l, hl, rfl, e1, e2⟩
  · refine AgrX (m := m) 1 (by unfold f10_game; rw [e1, xB_o]) ?_ ⟨hg, h'.s2k _, fr2k m _⟩
    unfold f11_game
    rw [Option.bind_some, e2, Option.bind_some, if_pos zB_f]
    rfl
  rcases lampCase h h'.s2 sx y2 with ⟨e3, e4⟩ | ⟨j, hj, rfl, e3, e4⟩
  · refine AgrX (m := m) 1 (by unfold f10_game; rw [e1, xB_i, e3, xB_o]) ?_ ⟨hg, h'.s2k _, fr2k m _⟩
    unfold f11_game
    rw [Option.bind_some, e2, Option.bind_some, if_neg (by decide), e4, Option.bind_some, if_pos zB_f]
    rfl
  rcases manyCase y3 with ⟨e5, e6⟩ | ⟨e5, e6, e7, e8⟩
  · refine AgrX (m := m) 1 (by unfold f10_game; rw [e1, xB_i, e3, xB_i, e5, xB_o]) ?_ ⟨hg, h'.s2k _, fr2k m _⟩
    unfold f11_game
    rw [Option.bind_some, e2, Option.bind_some, if_neg (by decide), e4, Option.bind_some, if_neg (by decide)]
    rcases e6 with e6 | ⟨e6, e7⟩
    · rw [if_pos e6]; rfl
    · rw [if_neg e6, if_neg e7]; rfl
  have etw : (eT (T.tw l) = nI j) = (T.tw l = some j) := by
    cases e : T.tw l with
    | none => exact propext ⟨fun z => (by
        have := eT_m1 (x := some j) (fun q z => by cases z; omega)
        have z : eT (some j) = -1 := z.symm
        rw [this] at z; cases z), fun z => (by cases z)⟩
    | some q =>
      have hq := (h.W.twI hl e).1
      show (nI q = nI j) = _
      rw [nI_eq (by omega) (by omega), Option.some.injEq]
  by_cases ht : T.tw l = some j
  · have hne : l ≠ j := fun z => (h.W.twI hl ht).2.1 z.symm
    have hne' : ¬ nI l = nI j := fun z => hne ((nI_eq (by omega) (by omega)).1 z)
    have htj := (h.W.twI hl ht).2.2
    have hb := hlt l j hl ht
    cases hc : T.can l with
    | false =>
      refine AgrX (m := m) 0 ?_ ?_ ⟨hg, h'.s2k _, fr2k m _⟩
      · unfold f10_game
        rw [e1, xB_i, e3, xB_i, e5, xB_i, ldO_n _ (by omega) (by omega), h.etw hl, Option.bind_some, if_pos (etw.mpr ht), C_canBeLit h hl, Option.bind_some, hc, if_pos zB_f]
      · unfold f11_game
        rw [Option.bind_some, e2, Option.bind_some, if_neg (by decide), e4, Option.bind_some, if_neg (by decide), if_neg e6, if_pos e7, if_neg hne', ldO_n _ (by omega) (by omega), h'.s2.etw hl, Option.bind_some, if_pos (etw.mpr ht), M_canBurn h'.s2 hl, Option.bind_some, hc, if_pos zB_f]
        rfl
    | true =>
      obtain ⟨g1, c1, c2⟩ := C_wants h hg hok hl (show T.o % 24 < 24 by omega)
      obtain ⟨g2, c3, c4⟩ := C_wants h c2 hok hj (show T.o % 24 < 24 by omega)
      have ele : (if nI j ≤ nI l then some false else some true : Option Bool) = some (decide (l < j)) := by
        rcases Nat.lt_or_ge l j with q | q
        · rw [if_neg (nI_ge q (by omega)), decide_eq_true q]
        · rw [if_pos (nI_le q (by omega)), decide_eq_false (by omega)]
      generalize hP : rsP (T.li l) (decide (l < j)) (wn r T l (T.o % 24)) (wn r T j (T.o % 24)) = p
      obtain ⟨q, a1, a2, a3, a4⟩ := lpw_R (F := f11_game_L11 (nI l) (nI j)) (fun i s => s.1 = nI (fb_ct p i) ∧ s.2.2.1 = nI i ∧ Fr [] [33, 34] (sS m 2 0) s.2.2.2 ∧ (s.2.1 = -1 ∧ (∀ q, q < i → p q = false) ∨ s.2.1 = rs1 p ∧ ¬ s.2.1 = -1)) (fun q => q.1 = nI (fb_ct p 4) ∧ q.2.1 = rs1 p ∧ Fr [] [33, 34] (sS m 2 0) q.2.2) 4 (s := (0, -1, 0, sS m 2 0)) (by
        rintro i ⟨_, b, _, q⟩ hi ⟨rfl, rfl, hf, hb1⟩
        dsimp only at hf hb1
        have n1 : nI i / 2 = zB (decide (i / 2 = 1)) := (by decide +kernel : ∀ i, i < 4 → nI i / 2 = zB (decide (i / 2 = 1))) i hi
        have n2 : (1 : Int32) - zB (decide (i / 2 = 1)) = zB (!decide (i / 2 = 1)) := by cases decide (i / 2 = 1) <;> decide +kernel
        have n3 : nI i - zB (decide (i / 2 = 1)) * 2 = zB (decide (i % 2 = 1)) := (by decide +kernel : ∀ i, i < 4 → nI i - zB (decide (i / 2 = 1)) * 2 = zB (decide (i % 2 = 1))) i hi
        have n4 : (1 : Int32) - zB (decide (i % 2 = 1)) = zB (!decide (i % 2 = 1)) := by cases decide (i % 2 = 1) <;> decide +kernel
        have n5 : (10 : Int32) * zB (decide (i / 2 = 1)) + zB (decide (i % 2 = 1)) = nI (10 * (i / 2) + i % 2) := (by decide +kernel : ∀ i, i < 4 → (10 : Int32) * zB (decide (i / 2 = 1)) + zB (decide (i % 2 = 1)) = nI (10 * (i / 2) + i % 2)) i hi
        have hp : p i = (!decide (gnF (T.li l) (decide (l < j)) (decide (i / 2 = 1)) (decide (i % 2 = 1)) (wn r T l (T.o % 24)) < gnF (T.li l) (decide (l < j)) (!decide (i / 2 = 1)) (decide (i % 2 = 1)) (wn r T l (T.o % 24))) && !decide (gnF (T.li l) (!decide (l < j)) (decide (i % 2 = 1)) (decide (i / 2 = 1)) (wn r T j (T.o % 24)) < gnF (T.li l) (!decide (l < j)) (!decide (i % 2 = 1)) (decide (i / 2 = 1)) (wn r T j (T.o % 24)))) := by rw [← hP]; rfl
        have hq0 := h'.s2.fr hf
        obtain ⟨q1, g1, g2⟩ := M_gain hq0 (hR.s2.fr hf) hok hl hj hne hb (!decide (i / 2 = 1)) (decide (i % 2 = 1))
        have hf1 := hf.trans g2
        obtain ⟨q2, g3, g4⟩ := M_gain (h'.s2.fr hf1) (hR.s2.fr hf1) hok hl hj hne hb (decide (i / 2 = 1)) (decide (i % 2 = 1))
        have hf2 := hf1.trans g4
        obtain ⟨q3, g5, g6⟩ := M_gain (h'.s2.fr hf2) (hR.s2.fr hf2) hok hj hl hne.symm hb.symm (!decide (i % 2 = 1)) (decide (i / 2 = 1))
        have hf3 := hf2.trans g6
        obtain ⟨q4, g7, g8⟩ := M_gain (h'.s2.fr hf3) (hR.s2.fr hf3) hok hj hl hne.symm hb.symm (decide (i % 2 = 1)) (decide (i / 2 = 1))
        have hf4 := hf3.trans g8
        have elt : decide (j < l) = !decide (l < j) := by
          rcases Nat.lt_or_ge l j with q | q
          · rw [decide_eq_true q, decide_eq_false (by omega)]; rfl
          · rw [decide_eq_false (show ¬ l < j by omega), decide_eq_true (show j < l by omega)]; rfl
        rw [← hb, elt] at g5 g7
        unfold f11_game_L11
        dsimp only
        rw [if_neg (show ¬ (4 : Int32) ≤ nI i from nI_ge hi (by decide)), n1, n3, n2, n4, g1, Option.bind_some]
        dsimp only
        rw [g3, Option.bind_some]
        dsimp only
        rw [g5]
        simp only [Option.bind_some]
        rw [g7]
        simp only [Option.bind_some]
        rw [n5, fb_ct_succ, hp]
        have hlast : (∀ (P : Bool), p i = P → P = false → (b = -1 ∧ (∀ q, q < i + 1 → p q = false) ∨ b = rs1 p ∧ ¬ b = -1)) := by
          intro P e1 e2
          rw [e2] at e1
          rcases hb1 with ⟨h1, h2⟩ | h1
          · exact .inl ⟨h1, lt_snoc h2 e1⟩
          · exact .inr h1
        by_cases z1 : gnF (T.li l) (decide (l < j)) (decide (i / 2 = 1)) (decide (i % 2 = 1)) (wn r T l (T.o % 24)) < gnF (T.li l) (decide (l < j)) (!decide (i / 2 = 1)) (decide (i % 2 = 1)) (wn r T l (T.o % 24))
        · rw [if_pos z1, Option.bind_some, nI_1]
          rw [decide_eq_true z1] at hp ⊢
          exact ⟨_, rfl, rfl, rfl, hf2, hlast _ hp rfl⟩
        · rw [if_neg z1]
          rw [decide_eq_false z1] at hp ⊢
          by_cases z2 : gnF (T.li l) (!decide (l < j)) (decide (i % 2 = 1)) (decide (i / 2 = 1)) (wn r T j (T.o % 24)) < gnF (T.li l) (!decide (l < j)) (!decide (i % 2 = 1)) (decide (i / 2 = 1)) (wn r T j (T.o % 24))
          · rw [if_neg (fa_of_lt z2).2.1, Option.bind_some, nI_1]
            rw [decide_eq_true z2] at hp ⊢
            exact ⟨_, rfl, rfl, rfl, hf4, hlast _ hp rfl⟩
          · rw [if_pos (fa_of_nlt z2)]
            rw [decide_eq_false z2] at hp ⊢
            have hp : p i = true := hp
            rcases hb1 with ⟨h1, h2⟩ | ⟨h1, h2⟩
            · rw [if_pos h1, Option.bind_some, Option.bind_some, nI_1, nI_1]
              have e9 : rs1 p = nI (10 * (i / 2) + i % 2) := by
                unfold rs1
                rw [fst_at hi hp h2, if_pos hi]
              refine ⟨_, rfl, rfl, rfl, hf4, .inr ⟨e9.symm, fun z => ?_⟩⟩
              have := eT_m1 (x := some (10 * (i / 2) + i % 2)) (fun q e => by cases e; omega)
              have z : eT (some (10 * (i / 2) + i % 2)) = -1 := z
              rw [this] at z
              cases z
            · rw [if_neg h2, Option.bind_some, Option.bind_some, nI_1, nI_1]
              exact ⟨_, rfl, rfl, rfl, hf4, .inr ⟨h1, h2⟩⟩) (by
        rintro ⟨_, b, _, q⟩ ⟨rfl, rfl, hf, hb1⟩
        refine ⟨_, if_pos (Int32.le_refl _), rfl, ?_, hf⟩
        rcases hb1 with ⟨h1, h2⟩ | ⟨h1, h2⟩
        · have : rs1 p = -1 := by
            unfold rs1
            rw [fst_none h2, if_neg (Nat.lt_irrefl _)]
          rw [this]; exact h1
        · exact h1) ⟨rfl, rfl, Fr.refl _ _ _, .inl ⟨rfl, fun q hq => absurd hq (Nat.not_lt_zero q)⟩⟩
      have hf1 : Fr sS1 sA1 (sS m 2 0) q.2.2 := a4.mono (by decide) (by decide)
      have hD : DuE (T.li l) (decide (l < j)) (wn r T l (T.o % 24)) (wn r T j (T.o % 24)) (sS (sS (sS (sS su 0 (zB (T.li l))) 1 (zB (decide (l < j)))) 2 (zB (wn r T l (T.o % 24)))) 3 (zB (wn r T j (T.o % 24)))) := ⟨rfl, rfl, rfl, rfl⟩
      obtain ⟨u1, d1⟩ := C_restingCouples hD
      obtain ⟨u2, d2⟩ := C_firstRestingCouple hD
      rw [hP] at d1 d2
      rcases e8 with rfl | rfl
      · refine ⟨q.1, q.2.2, ?_, .inl ⟨(g2, u1), ?_, z2 hf1, c4, h'.s2.fr a4, fr2' hf1⟩⟩
        · unfold f11_game
          rw [Option.bind_some, e2, Option.bind_some, if_neg (by decide), e4, Option.bind_some, if_neg (by decide), if_neg e6, if_pos e7, if_neg hne', ldO_n _ (by omega) (by omega), h'.s2.etw hl, Option.bind_some, if_pos (etw.mpr ht), M_canBurn h'.s2 hl, Option.bind_some, hc, if_neg (by decide), a1, Option.bind_some, if_pos rfl]
        · unfold f10_game
          rw [e1, xB_i, e3, xB_i, e5, xB_i, ldO_n _ (by omega) (by omega), h.etw hl, Option.bind_some, if_pos (etw.mpr ht), C_canBeLit h hl, Option.bind_some, hc, if_neg (by decide), C_isLit h hl, Option.bind_some, Option.bind_some, ele, Option.bind_some, Option.bind_some, h.eo, m24 (by omega), c1, Option.bind_some, Option.bind_some, c3, Option.bind_some, Option.bind_some, if_pos rfl, d1, Option.bind_some, wI_s, a2]
      · refine ⟨q.2.1, q.2.2, ?_, .inl ⟨(g2, u2), ?_, z2 hf1, c4, h'.s2.fr a4, fr2' hf1⟩⟩
        · unfold f11_game
          rw [Option.bind_some, e2, Option.bind_some, if_neg (by decide), e4, Option.bind_some, if_neg (by decide), if_neg e6, if_pos e7, if_neg hne', ldO_n _ (by omega) (by omega), h'.s2.etw hl, Option.bind_some, if_pos (etw.mpr ht), M_canBurn h'.s2 hl, Option.bind_some, hc, if_neg (by decide), a1, Option.bind_some, if_neg (by decide)]
        · unfold f10_game
          rw [e1, xB_i, e3, xB_i, e5, xB_i, ldO_n _ (by omega) (by omega), h.etw hl, Option.bind_some, if_pos (etw.mpr ht), C_canBeLit h hl, Option.bind_some, hc, if_neg (by decide), C_isLit h hl, Option.bind_some, Option.bind_some, ele, Option.bind_some, Option.bind_some, h.eo, m24 (by omega), c1, Option.bind_some, Option.bind_some, c3, Option.bind_some, Option.bind_some, if_neg (by decide), d2, Option.bind_some, wI_s, a3]
  · refine AgrX (m := m) 0 ?_ ?_ ⟨hg, h'.s2k _, fr2k m _⟩
    · unfold f10_game
      rw [e1, xB_i, e3, xB_i, e5, xB_i, ldO_n _ (by omega) (by omega), h.etw hl, Option.bind_some, if_neg (fun z => ht (etw.mp z))]
    · unfold f11_game
      rw [Option.bind_some, e2, Option.bind_some, if_neg (by decide), e4, Option.bind_some, if_neg (by decide), if_neg e6, if_pos e7]
      by_cases z : nI l = nI j
      · rw [if_pos z]; rfl
      · rw [if_neg z, ldO_n _ (by omega) (by omega), h'.s2.etw hl, Option.bind_some, if_neg (fun z => ht (etw.mp z))]
        rfl
theorem A_fault (h : Rel r T k hs V sx sr st sg sh sv m) (hi : ImR T sp spt sph spv m) : ∃ w m', f10_fault sx = some w ∧ f11_fault m = some (w, m') ∧ AllR sx sr st sg sh sv sp spt sph spv m' :=
  ⟨sx.1 7, sS m 2 0, rfl, by rw [h.fp]; rfl, AllR.q h hi ⟨h.cr, h.mt.s2, (fr2 m).mono (by decide) (by decide)⟩⟩
theorem A_forget (h : Rel r T k hs V sx sr st sg sh sv m) (hi : ImR T sp spt sph spv m) : ∃ sv' m', f10_forget sx sv = some sv' ∧ f11_forget m = some m' ∧ AllR sx sr st sg sh sv' sp spt sph spv m' := by
  have f : Fr [2, 32] [] m (sS (sS m 2 0) 32 0) := (Fr.sS m 2 0 (by decide)).trans (Fr.sS _ 32 0 (by decide))
  refine ⟨sS (sS sv 0 0) 1 0, sS (sS m 2 0) 32 0, rfl, rfl, r, T, k, hs, (0, V.2), ⟨?_, ?_, ?_, h.ok, h.cr, h.mr.fr f, h.ct, h.mt.fr f, h.okT, h.ch, h.mh, h.okH, ⟨Nat.zero_le 8, rfl, Bm.zero0 _, fun k hk => absurd hk (Nat.not_lt_zero k)⟩, ⟨rfl, fun k hk => absurd hk (Nat.not_lt_zero k)⟩, h.tws⟩, hi.fr f⟩
  · exact h.tape
  · exact h.fp
  · exact h.sta
theorem updN (f : Nat → Int32) (F : Nat → Nat) {n v : Nat} (h : ∀ k, k < n → f k = nI (F k)) : ∀ k, k < n + 1 → upd f n (nI v) k = nI (if k = n then v else F k) := fun k hk => by
  by_cases e : k = n
  · rw [e, upd_e, if_pos rfl]
  · rw [upd_n _ _ e, if_neg e, h k (by omega)]
theorem A_see (h : Rel r T k hs V sx sr st sg sh sv m) (hi : ImR T sp spt sph spv m) (y1 y2 : Int32) (b : Bool) : Agr (f10_see sx st sv y1 y2 b) kfN (f11_see m y1 y2 b) (sx, sv) (fun s m' => AllR s.1 sr st sg sh s.2 sp spt sph spv m') := by
  have hL := h.W.L12
  obtain ⟨f, c1, g, c2, c3⟩ := refuse_eq h (j := 2) (by decide)
  have hr := h.refused hi c3
  obtain ⟨v1, v2, v3, v4⟩ := h.cv
  obtain ⟨u1, u2⟩ := h.mv
  rcases lampCase h.ct h.mt.s2 sx y1 with ⟨e1, e2⟩ | ⟨l, hl, rfl, e1, e2⟩
  · refine AgrX (m := m) 1 (by unfold f10_see; rw [e1, xB_o]) ?_ (h.thrown hi _)
    unfold f11_see
    rw [Option.bind_some, e2, Option.bind_some, if_pos zB_f]
    rfl
  have s32 : (sS m 2 0).1 32 = nI V.1 := u1
  by_cases v8 : V.1 = 8
  · refine ⟨-1, _, ?_, .inl ⟨(sA sx 5 f, sv), ?_, z11 m g, hr⟩⟩
    · unfold f11_see
      rw [Option.bind_some, e2, Option.bind_some, if_neg (by decide), s32, v8, if_pos (by decide), show f11_refuse (sS m 2 0) 2 = _ from c2, Option.bind_some]
    · unfold f10_see
      rw [e1, xB_i, v2, v8]
      by_cases z1 : y2 < 1
      · rw [if_pos z1, show f10_refuse sx 2 = _ from c1, Option.bind_some, wI_s]
      · rw [if_neg z1]
        by_cases z2 : 48 < y2
        · rw [if_pos z2, show f10_refuse sx 2 = _ from c1, Option.bind_some, wI_s]
        · rw [if_neg z2, if_neg (by decide), show f10_refuse sx 2 = _ from c1, Option.bind_some, wI_s]
  have n8 : ¬ nI V.1 = 8 := fun z => v8 ((nI_eq (b := 8) (by omega) (by decide)).1 z)
  rcases rangeCase 1 48 (by decide) (by decide) y2 with ⟨e3, e4⟩ | ⟨w, w1, w2, rfl, e3⟩
  · refine ⟨-1, _, ?_, .inl ⟨(sA sx 5 f, sv), ?_, z11 m g, hr⟩⟩
    · unfold f11_see
      rw [Option.bind_some, e2, Option.bind_some, if_neg (by decide), s32, if_neg n8, show f11_isIn y2.toInt64 1 48 = some false from e3, Option.bind_some, if_pos zB_f, show f11_refuse (sS m 2 0) 2 = _ from c2, Option.bind_some]
    · unfold f10_see
      rw [e1, xB_i]
      rcases e4 with e4 | ⟨e4, e5⟩
      · rw [if_pos (show y2 < 1 from e4), show f10_refuse sx 2 = _ from c1, Option.bind_some, wI_s]
      · rw [if_neg (show ¬ y2 < 1 from e4), if_pos (show 48 < y2 from fa_of_nle e5), show f10_refuse sx 2 = _ from c1, Option.bind_some, wI_s]
  · have hn : V.1 < 8 := by omega
    have a1 : ¬ nI w < 1 := nI_nlt (b := 1) (by omega) (by omega)
    have a2 : ¬ (48 : Int32) < nI w := nI_nlt (a := 48) (by omega) (by omega)
    have up : ∀ x, Bm V.1 V.2.2.2 x → Bm (V.1 + 1) (fun i => if i = V.1 then b else V.2.2.2 i) (if b = true then x ||| ((1 : Int32) <<< (nI V.1 &&& 31)) else x) := fun x hx => by
      have h9 : Bm V.1 (fun i => if i = V.1 then b else V.2.2.2 i) x := hx.cong fun i hi => by rw [if_neg (by omega)]
      have h8 := h9.next (by omega)
      rw [if_pos rfl] at h8
      exact h8
    have hm' : f11_see m (nI l) (nI w) b = some (nI (V.1 + 1), sS (sA (sA (sA (sS m 2 0) 43 (upd (m.2 43) V.1 (nI l))) 44 (upd (m.2 44) V.1 (nI w))) 45 (upd (m.2 45) V.1 (zB b))) 32 (nI (V.1 + 1))) := by
      unfold f11_see
      rw [Option.bind_some, e2, Option.bind_some, if_neg (by decide), s32, if_neg n8, show f11_isIn (nI w).toInt64 1 48 = some true from e3, Option.bind_some, if_neg (by decide), stS_n _ _ _ hn (by decide), Option.bind_some, sA_1, s32, stS_n _ _ _ hn (by decide), Option.bind_some, sA_1, sA_1, s32]
      simp only [ifz, ifb, Option.bind_some]
      rw [stS_n _ _ _ hn (by decide), Option.bind_some, sA_1, sA_1, sA_1, s32, nI_1]
      rfl
    have fr : Fr [2, 32] [43, 44, 45] m (sS (sA (sA (sA (sS m 2 0) 43 (upd (m.2 43) V.1 (nI l))) 44 (upd (m.2 44) V.1 (nI w))) 45 (upd (m.2 45) V.1 (zB b))) 32 (nI (V.1 + 1))) := (Fr.sS m 2 0 (by decide)).trans ((Fr.sA _ 43 _ (by decide)).trans ((Fr.sA _ 44 _ (by decide)).trans ((Fr.sA _ 45 _ (by decide)).trans (Fr.sS _ 32 _ (by decide)))))
    have hc : ∃ sv', f8_add sv (nI l) (nI w) b = some sv' ∧ RcV (V.1 + 1, (fun i => if i = V.1 then l else V.2.1 i), (fun i => if i = V.1 then w else V.2.2.1 i), (fun i => if i = V.1 then b else V.2.2.2 i)) T.L sv' := by
      unfold f8_add
      rw [v2, if_neg (show ¬ (8 : Int32) ≤ nI V.1 from nI_ge hn (by decide)), stS_n _ _ _ hn (by decide), Option.bind_some, sA_1, v2, stS_n _ _ _ hn (by decide), Option.bind_some]
      simp only [ifz, sA_1, v2, sA_2n (j := 3) (k := 2) _ _ (by decide)]
      have hup := up _ v3
      have hlow : ∀ k, k < V.1 + 1 → (if k = V.1 then l else V.2.1 k) < T.L ∧ 1 ≤ (if k = V.1 then w else V.2.2.1 k) ∧ (if k = V.1 then w else V.2.2.1 k) ≤ 48 := fun k hk => by
        by_cases e : k = V.1
        · rw [if_pos e, if_pos e]; exact ⟨hl, w1, w2⟩
        · rw [if_neg e, if_neg e]; exact ⟨(v4 k (by omega)).1, (v4 k (by omega)).2.1, (v4 k (by omega)).2.2.1⟩
      have A1 := updN (sv.2 2) V.2.1 (v := l) (fun k hk => (v4 k hk).2.2.2.1)
      have A2 := updN (sv.2 3) V.2.2.1 (v := w) (fun k hk => (v4 k hk).2.2.2.2)
      cases b with
      | true =>
        rw [if_pos rfl, Option.bind_some, Option.bind_some, Option.bind_some, Option.bind_some]
        refine ⟨_, rfl, by omega, ?_, hup, fun k hk => ⟨(hlow k hk).1, (hlow k hk).2.1, (hlow k hk).2.2, A1 k hk, A2 k hk⟩⟩
        show sv.1 0 + 1 = _
        rw [v2, nI_1]
      | false =>
        rw [if_neg (by decide), Option.bind_some, Option.bind_some, Option.bind_some]
        refine ⟨_, rfl, by omega, ?_, hup, fun k hk => ⟨(hlow k hk).1, (hlow k hk).2.1, (hlow k hk).2.2, A1 k hk, A2 k hk⟩⟩
        show sv.1 0 + 1 = _
        rw [v2, nI_1]
    obtain ⟨sv', d1, d2⟩ := hc
    refine ⟨nI (V.1 + 1), _, hm', .inl ⟨(sx, sv'), ?_, rfl, r, T, k, hs, _, ⟨h.tape, h.fp, h.sta, h.ok, h.cr, h.mr.fr fr, h.ct, h.mt.fr fr, h.okT, h.ch, h.mh, h.okH, d2, ⟨rfl, fun k hk => ⟨updN (m.2 43) V.2.1 (fun k hk => (u2 k hk).1) k hk, updN (m.2 44) V.2.2.1 (fun k hk => (u2 k hk).2.1) k hk, ?_⟩⟩, h.tws⟩, hi.fr fr⟩⟩
    · unfold f10_see
      rw [e1, xB_i, if_neg a1, if_neg a2, v2, if_pos (show nI V.1 < 8 from nI_lt hn (by decide)), d1, Option.bind_some, wI_s, d2.2.1]
    · show upd (m.2 45) V.1 (zB b) k = zB (if k = V.1 then b else V.2.2.2 k)
      by_cases e : k = V.1
      · rw [e, upd_e, if_pos rfl]
      · rw [upd_n _ _ e, if_neg e, (u2 k (by
          have hk : k < V.1 + 1 := hk
          omega)).2.2]
end
