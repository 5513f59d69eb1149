/-! acts: both answers, and the relation behind them -/
def AgrB {S : Type} (c : Option ((Bool × S) ⊕ Nat)) (kf : Nat → Int32) (a : Option (Bool × St)) (s0 : S) (P : S → St → Prop) : Prop := ∃ w m', a = some (w, m') ∧ ((∃ s, c = some (.inl (w, s)) ∧ m'.1 2 = 0 ∧ P s m') ∨ ∃ j, c = some (.inr j) ∧ m'.1 2 = kf j ∧ P s0 m')
section
variable {r : RU} {T U : TW} {k : Nat} {hs : Nat → TW} {V : SV} {sx sr st sg sv m sp spt spv e : St} {sh sph : HSt}
theorem z31 {m1 m2 : St} (h : Fr [31] [27] (sS m 2 0) m1) (g : Fr sS1 sA1 m1 m2) : m2.1 2 = 0 := (g.1 2 (by decide)).trans ((h.1 2 (by decide)).trans (sS_1e _ _ _))
theorem Rel.thrown (h : Rel r T k hs V sx sr st sg sh sv m) (hi : ImR T sp spt sph spv m) (c : Int32) : AllR sx sr st sg sh sv sp spt sph spv (sS (sS m 2 0) 2 c) := AllR.q h hi ⟨h.cr, h.mt.s2k c, fr2k m c⟩
theorem A_hours (h : Rel r T k hs V sx sr st sg sh sv m) (hi : ImR T sp spt sph spv m) (e : St) (y : Int32) : ∃ w sx' st' sh' e' sg' m', f10_hours sx st sh e sg y = some (w, sx', st', sh', e', sg') ∧ f11_hours m y = some (w, m') ∧ AllR sx' sr st' sg' sh' sv sp spt sph spv m' := by
  have ho9 := h.o9
  obtain ⟨f, c1, g, c2, c3⟩ := refuse_eq h (j := 1) (by decide)
  have hr := h.refused hi c3
  have ref : ∀ (P : Prop), P → P := fun _ p => p
  rcases rangeCase 1 48 (by decide) (by decide) y with ⟨e1, e2⟩ | ⟨j, j1, j2, rfl, e1⟩
  · refine ⟨-1, sA sx 5 f, st, sh, e, sg, sA (sS m 2 0) 11 g, ?_, ?_, hr⟩
    · unfold f10_hours
      rcases e2 with e2 | ⟨e2, e3⟩
      · rw [if_pos (show y < 1 from e2), show f10_refuse sx 1 = _ from c1, Option.bind_some]
      · rw [if_neg (show ¬ y < 1 from e2), if_pos (show 48 < y from fa_of_nle e3), show f10_refuse sx 1 = _ from c1, Option.bind_some]
    · unfold f11_hours
      rw [Option.bind_some, show f11_isIn y.toInt64 1 48 = some false from e1, Option.bind_some, if_pos zB_f, show f11_refuse (sS m 2 0) 1 = _ from c2, Option.bind_some]
  · have a1 : ¬ nI j < 1 := nI_nlt (b := 1) (by omega) (by omega)
    have a2 : ¬ (48 : Int32) < nI j := nI_nlt (a := 48) (by omega) (by omega)
    by_cases hj : T.o + j ≤ 9999
    · obtain ⟨⟨sh', b1, b2⟩, m1, b3, b4, b5, b6⟩ := h.keep
      obtain ⟨t', e', g', d1, d2, -⟩ := C_loopA (F := f10_hours_L4 (nI j)) (n := j) (e := e) h.liO h.ok (by omega) (fun i t e g hi => by
        unfold f10_hours_L4
        dsimp only
        rw [if_neg (nI_ge hi (by omega))]) (fun t e g => if_pos (Int32.le_refl _)) (HcI.zero h.ct h.cr)
      obtain ⟨m2, d3, d4, -⟩ := M_loopA (F := f11_hours_L5 (nI j)) (n := j) (r := r) h.liO h.ok (h.mr.s2.fr b5) (by omega) (fun i q hi => by
        unfold f11_hours_L5
        dsimp only
        rw [if_neg (nI_ge hi (by omega))]) (fun q => if_pos (Int32.le_refl _)) b6
      have eo : (hrN r T j).o = T.o + j := hrN_o j
      refine ⟨nI (T.o + j), sx, t', sh', e', g', m2, ?_, ?_, h.act hi b2 b4 b5 (d4.2.mono (by decide) (by decide)) d2.1 d4.1 (hrN_LiO h.liO j) (hrN_LiT h.W h.liT j (by omega)) (by omega) (same_hr j) d2.2⟩
      · unfold f10_hours
        rw [if_neg a1, if_neg a2, h.ct.eo, nI_add, if_pos (show nI (T.o + j) ≤ 9999 from nI_le (b := 9999) hj (by decide)), b1, Option.bind_some, d1, Option.bind_some]
        dsimp only
        rw [d2.1.eo, eo]
      · unfold f11_hours
        rw [Option.bind_some, show f11_isIn (nI j).toInt64 1 48 = some true from e1, Option.bind_some, if_neg (by decide), h.mt.s2.eo, nI_add, if_pos (show nI (T.o + j) ≤ 9999 from nI_le (b := 9999) hj (by decide)), b3, Option.bind_some, d3, Option.bind_some, d4.1.eo, eo]
    · refine ⟨-1, sA sx 5 f, st, sh, e, sg, sA (sS m 2 0) 11 g, ?_, ?_, hr⟩
      · unfold f10_hours
        rw [if_neg a1, if_neg a2, h.ct.eo, nI_add, if_neg (show ¬ nI (T.o + j) ≤ 9999 from nI_ge (a := 9999) (by omega) (by omega)), show f10_refuse sx 1 = _ from c1, Option.bind_some]
      · unfold f11_hours
        rw [Option.bind_some, show f11_isIn (nI j).toInt64 1 48 = some true from e1, Option.bind_some, if_neg (by decide), h.mt.s2.eo, nI_add, if_neg (show ¬ nI (T.o + j) ≤ 9999 from nI_ge (a := 9999) (by omega) (by omega)), show f11_refuse (sS m 2 0) 1 = _ from c2, Option.bind_some]
theorem z11 (m : St) (g : Nat → Int32) : (sA (sS m 2 0) 11 g).1 2 = 0 := by
  show (sS m 2 0).1 2 = 0
  exact sS_1e _ _ _
theorem A_flick (h : Rel r T k hs V sx sr st sg sh sv m) (hi : ImR T sp spt sph spv m) (y : Int32) : Agr (f10_flick sx st sh y) kfN (f11_flick m y) (sx, st, sh) (fun s m' => AllR s.1 sr s.2.1 sg s.2.2 sv sp spt sph spv m') := by
  have hL := h.W.L12
  obtain ⟨f, c1, g, c2, c3⟩ := refuse_eq h (j := 1) (by decide)
  have hr := h.refused hi c3
  rcases lampCase h.ct h.mt.s2 sx y with ⟨e1, e2⟩ | ⟨l, hl, rfl, e1, e2⟩
  · refine AgrX (m := m) 1 (by unfold f10_flick; rw [e1, xB_o]) ?_ (h.thrown hi _)
    unfold f11_flick
    rw [Option.bind_some, e2, Option.bind_some, if_pos zB_f]
    rfl
  · obtain ⟨⟨sh', b1, b2⟩, m1, b3, b4, b5, b6⟩ := h.keep
    have act : ∀ st' x, RcT (T.flk l) st' → RmT (T.flk l) (sS m1 29 x) → AllR sx sr st' sg sh' sv sp spt sph spv (sS m1 29 x) := fun st' x q1 q2 => h.act hi b2 b4 b5 (Fr.sS m1 29 x (by decide)) q1 q2 (LiO_flk h.liO l) (LiT_flk h.W h.liT hl) (by
      have := h.o9
      unfold TW.flk
      repeat' split
      all_goals exact this) (by
      unfold TW.flk
      repeat' split
      all_goals exact ⟨rfl, rfl, rfl, rfl⟩) h.cr
    have zz : ∀ x, (sS m1 29 x).1 2 = 0 := fun x => z31 b5 (Fr.sS m1 29 x (by decide))
    cases hli : T.li l with
    | true =>
      have ef : T.flk l = T.put l := by unfold TW.flk; rw [if_pos hli]
      rw [ef] at act
      obtain ⟨t', d1, d2⟩ := C_flickByHand h.ct hl
      rw [ef] at d2
      obtain ⟨x, d3, d4⟩ := M_be b6 hl false
      refine ⟨0, sS m1 29 x, ?_, .inl ⟨(sx, t', sh'), ?_, zz x, act t' x d2 d4⟩⟩
      · unfold f11_flick
        rw [Option.bind_some, e2, Option.bind_some, if_neg (by decide), M_isOf h.mt.s2.eli (by omega) hl, Option.bind_some, hli, if_neg (by decide), b3, Option.bind_some, if_neg (by decide), Option.bind_some, d3, Option.bind_some, if_neg (by decide)]
      · have hl2 : f9_isLit t' (nI l) = some false := by
          rw [C_isLit d2 (show l < (T.put l).L from hl)]
          show some (T.li l && !T.cp l l) = _
          rw [cp_self, Bool.not_true, Bool.and_false]
        unfold f10_flick
        rw [e1, xB_i, C_isLit h.ct hl, Option.bind_some, hli, if_neg (by decide), b1, Option.bind_some, d1, Option.bind_some, hl2, Option.bind_some, if_pos zB_f, wI_s]
    | false =>
      cases hc : T.can l with
      | true =>
        have ef : T.flk l = T.lit l := by unfold TW.flk; rw [if_neg (by rw [hli]; decide), if_pos hc]
        rw [ef] at act
        obtain ⟨t', d1, d2⟩ := C_flickByHand h.ct hl
        rw [ef] at d2
        obtain ⟨x, d3, d4⟩ := M_be b6 hl true
        refine ⟨1, sS m1 29 x, ?_, .inl ⟨(sx, t', sh'), ?_, zz x, act t' x d2 d4⟩⟩
        · unfold f11_flick
          rw [Option.bind_some, e2, Option.bind_some, if_neg (by decide), M_isOf h.mt.s2.eli (by omega) hl, Option.bind_some, hli, if_pos zB_f, M_canBurn h.mt.s2 hl, Option.bind_some, hc, if_neg (by decide), b3, Option.bind_some, if_pos zB_f, Option.bind_some, d3, Option.bind_some, if_pos zB_f]
        · have hl2 : f9_isLit t' (nI l) = some true := by
            rw [C_isLit d2 (show l < (T.lit l).L from hl)]
            show some (T.li l || T.cp l l) = _
            rw [cp_self, Bool.or_true]
          unfold f10_flick
          rw [e1, xB_i, C_isLit h.ct hl, Option.bind_some, hli, if_pos zB_f, C_canBeLit h.ct hl, Option.bind_some, hc, if_neg (by decide), b1, Option.bind_some, d1, Option.bind_some, hl2, Option.bind_some, if_neg (by decide), wI_s]
      | false =>
        refine ⟨-1, _, ?_, .inl ⟨(sA sx 5 f, st, sh), ?_, z11 m g, hr⟩⟩
        · unfold f11_flick
          rw [Option.bind_some, e2, Option.bind_some, if_neg (by decide), M_isOf h.mt.s2.eli (by omega) hl, Option.bind_some, hli, if_pos zB_f, M_canBurn h.mt.s2 hl, Option.bind_some, hc, if_pos zB_f, show f11_refuse (sS m 2 0) 1 = _ from c2, Option.bind_some]
        · unfold f10_flick
          rw [e1, xB_i, C_isLit h.ct hl, Option.bind_some, hli, if_pos zB_f, C_canBeLit h.ct hl, Option.bind_some, hc, if_pos zB_f, show f10_refuse sx 1 = _ from c1, Option.bind_some, wI_s]
theorem A_trim (h : Rel r T k hs V sx sr st sg sh sv m) (hi : ImR T sp spt sph spv m) (y1 y2 : Int32) : Agr (f10_trim sx st sh y1 y2) kfN (f11_trim m y1 y2) (sx, st, sh) (fun s m' => AllR s.1 sr s.2.1 sg s.2.2 sv sp spt sph spv m') := by
  have hL := h.W.L12
  obtain ⟨f, c1, g, c2, c3⟩ := refuse_eq h (j := 1) (by decide)
  have hr := h.refused hi c3
  rcases lampCase h.ct h.mt.s2 sx y1 with ⟨e1, e2⟩ | ⟨l, hl, rfl, e1, e2⟩
  · refine AgrX (m := m) 1 (by unfold f10_trim; rw [e1, xB_o]) ?_ (h.thrown hi _)
    unfold f11_trim
    rw [Option.bind_some, e2, Option.bind_some, if_pos zB_f]
    rfl
  · rcases rangeCase 0 99 (by decide) (by decide) y2 with ⟨e3, e4⟩ | ⟨v, v1, v2, rfl, e3⟩
    · refine ⟨-1, _, ?_, .inl ⟨(sA sx 5 f, st, sh), ?_, z11 m g, hr⟩⟩
      · unfold f11_trim
        rw [Option.bind_some, e2, Option.bind_some, if_neg (by decide), show f11_isIn y2.toInt64 0 99 = some false from e3, Option.bind_some, if_pos zB_f, show f11_refuse (sS m 2 0) 1 = _ from c2, Option.bind_some]
      · unfold f10_trim
        rw [e1, xB_i]
        rcases e4 with e4 | ⟨e4, e5⟩
        · rw [if_pos (show y2 < 0 from e4), show f10_refuse sx 1 = _ from c1, Option.bind_some, wI_s]
        · rw [if_neg (show ¬ y2 < 0 from e4), if_neg (show ¬ y2 ≤ 99 from e5), show f10_refuse sx 1 = _ from c1, Option.bind_some, wI_s]
    · obtain ⟨⟨sh', b1, b2⟩, m1, b3, b4, b5, b6⟩ := h.keep
      have d1 : RcT (T.sOi (fun k => if k = l then v else T.oi k)) (sA st 9 (upd (st.2 9) l (nI v))) := h.ct.sOi (oilUp_c (fun k hk => h.ct.eoi hk)) (oilUp_9 h.W v2)
      have d2 : RmT (T.sOi (fun k => if k = l then v else T.oi k)) (sA m1 23 (upd (m1.2 23) l (nI v))) := b6.sOi (oilUp_c (fun k hk => b6.eoi hk)) (oilUp_9 h.W v2)
      have f1 : Fr sS1 sA1 m1 (sA m1 23 (upd (m1.2 23) l (nI v))) := Fr.sA m1 23 _ (by decide)
      have n1 : ¬ nI v < 0 := nI_pos (by omega)
      have n2 : nI v ≤ 99 := nI_le (b := 99) v2 (by decide)
      rcases Nat.eq_zero_or_pos v with v0 | v0
      · obtain ⟨t', d3, d4⟩ := C_putOut d1 (show l < (T.sOi (fun k => if k = l then v else T.oi k)).L from hl)
        obtain ⟨x, d5, d6⟩ := M_be d2 (show l < (T.sOi (fun k => if k = l then v else T.oi k)).L from hl) false
        have d6 : RmT ((T.sOi (fun k => if k = l then v else T.oi k)).put l) _ := d6
        have f2 := f1.trans (Fr.sS (S := sS1) (A := sA1) _ 29 x (by decide))
        refine ⟨nI (T.oi l), _, ?_, .inl ⟨(sx, t', sh'), ?_, z31 b5 f2, h.act hi b2 b4 b5 f2 d4 d6 (fun k hk e => ?_) (LiT_put (T := T.sOi (fun k => if k = l then v else T.oi k)) d1.W h.liT hl) h.o9 ⟨rfl, rfl, rfl, rfl⟩ h.cr⟩⟩
        · unfold f11_trim
          rw [Option.bind_some, e2, Option.bind_some, if_neg (by decide), show f11_isIn (nI v).toInt64 0 99 = some true from e3, Option.bind_some, if_neg (by decide), b3, Option.bind_some, ldO_n _ (by omega) (by omega), b6.eoi hl, Option.bind_some, stS_n _ _ _ (by omega) (by omega), Option.bind_some, if_pos (by rw [v0]; rfl), d5, Option.bind_some, Option.bind_some]
        · unfold f10_trim
          rw [e1, xB_i, if_neg n1, if_pos n2, b1, Option.bind_some, ldO_n _ (by omega) (by omega), h.ct.eoi hl, Option.bind_some, stS_n _ _ _ (by omega) (by omega), Option.bind_some, if_pos (by rw [v0]; rfl), d3, Option.bind_some, Option.bind_some, wI_s]
        · have e : (T.li k && !T.cp l k) = true := e
          have e9 : T.li k = true ∧ T.cp l k = false := by simpa using e
          have hk0 := h.liO k hk e9.1
          show 0 < (if k = l then v else T.oi k)
          rw [if_neg]
          · exact hk0
          · intro z
            rw [z, cp_self] at e9
            exact absurd e9.2 (by decide)
      · refine ⟨nI (T.oi l), _, ?_, .inl ⟨(sx, _, sh'), ?_, z31 b5 f1, h.act hi b2 b4 b5 f1 d1 d2 (fun k hk e => ?_) h.liT h.o9 ⟨rfl, rfl, rfl, rfl⟩ h.cr⟩⟩
        · unfold f11_trim
          rw [Option.bind_some, e2, Option.bind_some, if_neg (by decide), show f11_isIn (nI v).toInt64 0 99 = some true from e3, Option.bind_some, if_neg (by decide), b3, Option.bind_some, ldO_n _ (by omega) (by omega), b6.eoi hl, Option.bind_some, stS_n _ _ _ (by omega) (by omega), Option.bind_some, if_neg (nI_ne0 v0 (by omega)), Option.bind_some]
        · unfold f10_trim
          rw [e1, xB_i, if_neg n1, if_pos n2, b1, Option.bind_some, ldO_n _ (by omega) (by omega), h.ct.eoi hl, Option.bind_some, stS_n _ _ _ (by omega) (by omega), Option.bind_some, if_neg (nI_ne0 v0 (by omega)), Option.bind_some, wI_s]
          rfl
        · have hk0 := h.liO k hk e
          show 0 < (if k = l then v else T.oi k)
          split
          · exact v0
          · exact hk0
theorem A_breaks (h : Rel r T k hs V sx sr st sg sh sv m) (hi : ImR T sp spt sph spv m) (y : Int32) : AgrB (f10_breaks sx st sh y) kfN (f11_breaks m y) (sx, st, sh) (fun s m' => AllR s.1 sr s.2.1 sg s.2.2 sv sp spt sph spv m') := by
  have hL := h.W.L12
  obtain ⟨f, c1, g, c2, c3⟩ := refuse_eq h (j := 1) (by decide)
  have hr := h.refused hi c3
  rcases lampCase h.ct h.mt.s2 sx y with ⟨e1, e2⟩ | ⟨l, hl, rfl, e1, e2⟩
  · refine ⟨false, sS (sS m 2 0) 2 1, ?_, .inr ⟨1, by unfold f10_breaks; rw [e1, xB_o], sS_1e _ _ _, h.thrown hi _⟩⟩
    unfold f11_breaks
    rw [Option.bind_some, e2, Option.bind_some, if_pos zB_f]
    rfl
  · cases hb : T.br l with
    | true =>
      have e9 : sA (sS m 2 0) 11 g = sA (sS m 2 0) 11 (upd (m.2 11) 1 (m.2 11 1 + 1)) := by
        have : f11_refuse (sS m 2 0) (nI 1) = some (-1, sA (sS m 2 0) 11 (upd (m.2 11) 1 (m.2 11 1 + 1))) := by
          unfold f11_refuse
          rw [ldO_n _ (by decide) (by decide), Option.bind_some, stS_n _ _ _ (by decide) (by decide), Option.bind_some]
          rfl
        rw [this] at c2
        exact (congrArg (fun z : Int32 × St => z.2) (Option.some.inj c2)).symm
      refine ⟨false, _, ?_, .inl ⟨(sA sx 5 f, st, sh), ?_, z11 m g, hr⟩⟩
      · unfold f11_breaks
        rw [Option.bind_some, e2, Option.bind_some, if_neg (by decide), M_isOf h.mt.s2.ebr (by omega) hl, Option.bind_some, hb, if_neg (by decide), Option.bind_some, cl_1, e9]
        rfl
      · unfold f10_breaks
        rw [e1, xB_i, C_isBroken h.ct hl, Option.bind_some, hb, if_neg (by decide), show f10_refuse sx 1 = _ from c1, Option.bind_some, wI_s]
    | false =>
      obtain ⟨⟨sh', b1, b2⟩, m1, b3, b4, b5, b6⟩ := h.keep
      obtain ⟨t', d1, d2⟩ := C_shatter h.ct hl
      obtain ⟨m2, d3, d4, d5⟩ := M_smash b6 hl
      have f2 : Fr sS1 sA1 m1 m2 := d5.mono (by decide) (by decide)
      refine ⟨true, m2, ?_, .inl ⟨(sx, t', sh'), ?_, z31 b5 f2, h.act hi b2 b4 b5 f2 d2 d4 (LiO_sma h.liO l) (LiT_put h.W h.liT hl) h.o9 ⟨rfl, rfl, rfl, rfl⟩ h.cr⟩⟩
      · unfold f11_breaks
        rw [Option.bind_some, e2, Option.bind_some, if_neg (by decide), M_isOf h.mt.s2.ebr (by omega) hl, Option.bind_some, hb, if_pos zB_f, b3, Option.bind_some, d3, Option.bind_some]
      · unfold f10_breaks
        rw [e1, xB_i, C_isBroken h.ct hl, Option.bind_some, hb, if_pos zB_f, b1, Option.bind_some, d1, Option.bind_some, wI_s]
theorem sHo_W (h : WfT T) {l a : Nat} (ha : a < T.H) : WfT (T.sHo (fun k => if k = l then a else T.ho k)) := ⟨h.1, h.2.1, h.2.2.1, h.2.2.2.1, fun k hk => ⟨by
  show (if k = l then a else T.ho k) < T.H
  split
  · exact ha
  · exact h.hoH hk, h.oi99 hk, fun _ e => h.twI hk e⟩⟩
theorem hoUp {x : Nat → Int32} {l v : Nat} (h : ∀ k, k < T.L → x k = nI (T.ho k)) : ∀ k, k < T.L → upd x l (nI v) k = nI (if k = l then v else T.ho k) := fun k hk => by
  by_cases e : k = l
  · rw [e, upd_e, if_pos rfl]
  · rw [upd_n _ _ e, if_neg e, h k hk]
theorem A_give (h : Rel r T k hs V sx sr st sg sh sv m) (hi : ImR T sp spt sph spv m) (y1 y2 : Int32) : Agr (f10_give sx st sh y1 y2) kfN (f11_give m y1 y2) (sx, st, sh) (fun s m' => AllR s.1 sr s.2.1 sg s.2.2 sv sp spt sph spv m') := by
  have hL := h.W.L12
  have hH := h.W.H8
  obtain ⟨f, c1, g, c2, c3⟩ := refuse_eq h (j := 1) (by decide)
  have hr := h.refused hi c3
  rcases lampCase h.ct h.mt.s2 sx y1 with ⟨e1, e2⟩ | ⟨l, hl, rfl, e1, e2⟩
  · refine AgrX (m := m) 1 (by unfold f10_give; rw [e1, xB_o]) ?_ (h.thrown hi _)
    unfold f11_give
    rw [Option.bind_some, e2, Option.bind_some, if_pos zB_f]
    rfl
  · rcases houseCase h.ct h.mt.s2 sx y2 with ⟨e3, e4⟩ | ⟨a, ha, rfl, e3, e4⟩
    · refine AgrX (m := m) 1 (by unfold f10_give; rw [e1, xB_i, e3, xB_o]) ?_ (h.thrown hi _)
      unfold f11_give
      rw [Option.bind_some, e2, Option.bind_some, if_neg (by decide), e4, Option.bind_some, if_pos zB_f]
      rfl
    · have hho := h.W.hoH hl
      have eq : (nI (T.ho l) = nI a) = (T.ho l = a) := propext (nI_eq (by omega) (by omega))
      by_cases hq : T.ho l = a
      · refine ⟨-1, _, ?_, .inl ⟨(sA sx 5 f, st, sh), ?_, z11 m g, hr⟩⟩
        · unfold f11_give
          rw [Option.bind_some, e2, Option.bind_some, if_neg (by decide), e4, Option.bind_some, if_neg (by decide), ldO_n _ (by omega) (by omega), h.mt.s2.eho hl, Option.bind_some, if_pos (eq.mpr hq), show f11_refuse (sS m 2 0) 1 = _ from c2, Option.bind_some]
        · unfold f10_give
          rw [e1, xB_i, e3, xB_i, ldO_n _ (by omega) (by omega), h.ct.eho hl, Option.bind_some, if_pos (eq.mpr hq), show f10_refuse sx 1 = _ from c1, Option.bind_some, wI_s]
      · obtain ⟨⟨sh', b1, b2⟩, m1, b3, b4, b5, b6⟩ := h.keep
        have hW := sHo_W (l := l) h.W ha
        have d1 : RcT (T.sHo (fun k => if k = l then a else T.ho k)) (sA st 8 (upd (st.2 8) l (nI a))) := ⟨hW, h.ct.eH, h.ct.eL, h.ct.eo, h.ct.eli, h.ct.ebr, h.ct.2.2.2.2.2.2.1, fun k hk => ⟨hoUp (fun k hk => h.ct.eho hk) k hk, h.ct.eoi hk, h.ct.etw hk⟩⟩
        have d2 : RmT (T.sHo (fun k => if k = l then a else T.ho k)) (sA m1 24 (upd (m1.2 24) l (nI a))) := ⟨hW, b6.eH, b6.eL, b6.eo, b6.eli, b6.ebr, b6.2.2.2.2.2.2.1, fun k hk => ⟨hoUp (fun k hk => b6.eho hk) k hk, b6.eoi hk, b6.etw hk⟩⟩
        have f1 : Fr sS1 sA1 m1 (sA m1 24 (upd (m1.2 24) l (nI a))) := Fr.sA m1 24 _ (by decide)
        refine ⟨nI (T.ho l), _, ?_, .inl ⟨(sx, _, sh'), ?_, z31 b5 f1, h.act hi b2 b4 b5 f1 d1 d2 h.liO h.liT h.o9 ⟨rfl, rfl, rfl, rfl⟩ h.cr⟩⟩
        · unfold f11_give
          rw [Option.bind_some, e2, Option.bind_some, if_neg (by decide), e4, Option.bind_some, if_neg (by decide), ldO_n _ (by omega) (by omega), h.mt.s2.eho hl, Option.bind_some, if_neg (fun z => hq (eq.mp z)), b3, Option.bind_some, ldO_n _ (by omega) (by omega), b6.eho hl, Option.bind_some, stS_n _ _ _ (by omega) (by omega), Option.bind_some]
        · unfold f10_give
          rw [e1, xB_i, e3, xB_i, ldO_n _ (by omega) (by omega), h.ct.eho hl, Option.bind_some, if_neg (fun z => hq (eq.mp z)), b1, Option.bind_some, stS_n _ _ _ (by omega) (by omega), Option.bind_some, wI_s]
          rfl
theorem hourCase (y : Int32) : (f10_isHourOfDay y = some false ∧ f11_isIn y.toInt64 (0 : Int64) (23 : Int64) = some false) ∨ ∃ j, j < 24 ∧ y = nI j ∧ f10_isHourOfDay y = some true ∧ f11_isIn y.toInt64 (0 : Int64) (23 : Int64) = some true := by
  unfold f10_isHourOfDay
  rcases rangeCase 0 23 (by decide) (by decide) y with ⟨e3, e4⟩ | ⟨v, v1, v2, rfl, e3⟩
  · refine .inl ⟨?_, e3⟩
    rcases e4 with e4 | ⟨e4, e5⟩
    · exact if_pos e4
    · rw [if_neg (show ¬ y < 0 from e4), if_pos]
      have h1 := (fa_lt _ _).1 (fa_of_nle e5)
      refine (fa_le _ _).2 ?_
      rw [show (nI 23).toInt = 23 from by decide +kernel] at h1
      rw [show (24 : Int32).toInt = 24 from by decide +kernel]
      omega
  · refine .inr ⟨v, by omega, rfl, ?_, e3⟩
    rw [if_neg (nI_pos (by omega)), if_neg (show ¬ (24 : Int32) ≤ nI v from nI_ge (b := 24) (by omega) (by decide))]
theorem A_sleep (h : Rel r T k hs V sx sr st sg sh sv m) (hi : ImR T sp spt sph spv m) (y1 y2 y3 : Int32) : Agr (f10_sleep sx st sh y1 y2 y3) kfN (f11_sleep m y1 y2 y3) (sx, st, sh) (fun s m' => AllR s.1 sr s.2.1 sg s.2.2 sv sp spt sph spv m') := by
  have hL := h.W.L12
  have hH := h.W.H8
  obtain ⟨f, c1, g, c2, c3⟩ := refuse_eq h (j := 1) (by decide)
  have hr := h.refused hi c3
  rcases houseCase h.ct h.mt.s2 sx y1 with ⟨e1, e2⟩ | ⟨a, ha, rfl, e1, e2⟩
  · refine AgrX (m := m) 1 (by unfold f10_sleep; rw [e1, xB_o]) ?_ (h.thrown hi _)
    unfold f11_sleep
    rw [Option.bind_some, e2, Option.bind_some, if_pos zB_f]
    rfl
  · rcases hourCase y2 with ⟨e3, e4⟩ | ⟨w, hw, rfl, e3, e4⟩
    · refine ⟨-1, _, ?_, .inl ⟨(sA sx 5 f, st, sh), ?_, z11 m g, hr⟩⟩
      · unfold f11_sleep
        rw [Option.bind_some, e2, Option.bind_some, if_neg (by decide), e4, Option.bind_some, if_pos zB_f, show f11_refuse (sS m 2 0) 1 = _ from c2, Option.bind_some]
      · unfold f10_sleep
        rw [e1, xB_i, e3, Option.bind_some, if_pos zB_f, show f10_refuse sx 1 = _ from c1, Option.bind_some, wI_s]
    · rcases hourCase y3 with ⟨e5, e6⟩ | ⟨z, hz, rfl, e5, e6⟩
      · refine ⟨-1, _, ?_, .inl ⟨(sA sx 5 f, st, sh), ?_, z11 m g, hr⟩⟩
        · unfold f11_sleep
          rw [Option.bind_some, e2, Option.bind_some, if_neg (by decide), e4, Option.bind_some, if_neg (by decide), e6, Option.bind_some, if_pos zB_f, show f11_refuse (sS m 2 0) 1 = _ from c2, Option.bind_some]
        · unfold f10_sleep
          rw [e1, xB_i, e3, Option.bind_some, if_neg (by decide), e5, Option.bind_some, if_pos zB_f, show f10_refuse sx 1 = _ from c1, Option.bind_some, wI_s]
      · obtain ⟨⟨sh', b1, b2⟩, m1, b3, b4, b5, b6⟩ := h.keep
        have hwa := h.W.wa24 ha
        have hsl := h.W.sl24 ha
        have up : ∀ (x : Nat → Int32) (F : Nat → Nat) (v : Nat), (∀ k, k < T.H → x k = nI (F k)) → ∀ k, k < T.H → upd x a (nI v) k = nI (if k = a then v else F k) := fun x F v hx k hk => by
          by_cases e : k = a
          · rw [e, upd_e, if_pos rfl]
          · rw [upd_n _ _ e, if_neg e, hx k hk]
        have hW : WfT (T.sWS (fun k => if k = a then w else T.wa k) (fun k => if k = a then z else T.sl k)) := ⟨h.W.1, h.W.2.1, h.W.2.2.1, fun k hk => ⟨h.W.ki4 hk, by
          show (if k = a then w else T.wa k) < 24
          split
          · exact hw
          · exact h.W.wa24 hk, by
          show (if k = a then z else T.sl k) < 24
          split
          · exact hz
          · exact h.W.sl24 hk⟩, h.W.2.2.2.2⟩
        have d1 : RcT (T.sWS (fun k => if k = a then w else T.wa k) (fun k => if k = a then z else T.sl k)) (sA (sA st 6 (upd (st.2 6) a (nI w))) 7 (upd (st.2 7) a (nI z))) := ⟨hW, h.ct.eH, h.ct.eL, h.ct.eo, h.ct.eli, h.ct.ebr, fun k hk => ⟨h.ct.eki hk, up _ _ _ (fun k hk => h.ct.ewa hk) k hk, up _ _ _ (fun k hk => h.ct.esl hk) k hk⟩, h.ct.2.2.2.2.2.2.2⟩
        have d2 : RmT (T.sWS (fun k => if k = a then w else T.wa k) (fun k => if k = a then z else T.sl k)) (sA (sA m1 25 (upd (m1.2 25) a (nI w))) 26 (upd (m1.2 26) a (nI z))) := ⟨hW, b6.eH, b6.eL, b6.eo, b6.eli, b6.ebr, fun k hk => ⟨b6.eki hk, up _ _ _ (fun k hk => b6.ewa hk) k hk, up _ _ _ (fun k hk => b6.esl hk) k hk⟩, b6.2.2.2.2.2.2.2⟩
        have f1 : Fr sS1 sA1 m1 (sA (sA m1 25 (upd (m1.2 25) a (nI w))) 26 (upd (m1.2 26) a (nI z))) := (Fr.sA m1 25 _ (by decide)).trans (Fr.sA _ 26 _ (by decide))
        refine ⟨nI (24 * T.wa a + T.sl a), _, ?_, .inl ⟨(sx, _, sh'), ?_, z31 b5 f1, h.act hi b2 b4 b5 f1 d1 d2 h.liO h.liT h.o9 ⟨rfl, rfl, rfl, rfl⟩ h.cr⟩⟩
        · unfold f11_sleep
          rw [Option.bind_some, e2, Option.bind_some, if_neg (by decide), e4, Option.bind_some, if_neg (by decide), e6, Option.bind_some, if_neg (by decide), b3, Option.bind_some, ldO_n _ (by omega) (by omega), b6.ewa ha, Option.bind_some, ldO_n _ (by omega) (by omega), b6.esl ha, Option.bind_some, stS_n _ _ _ (by omega) (by omega), Option.bind_some, stS_n _ _ _ (by omega) (by omega), Option.bind_some, sA_2n (j := 26) (k := 25) _ _ (by decide), show (24 : Int32) = nI 24 from rfl, pk_mul, nI_add]
        · unfold f10_sleep
          rw [e1, xB_i, e3, Option.bind_some, if_neg (by decide), e5, Option.bind_some, if_neg (by decide), b1, Option.bind_some, ldO_n _ (by omega) (by omega), h.ct.ewa ha, Option.bind_some, ldO_n _ (by omega) (by omega), h.ct.esl ha, Option.bind_some, stS_n _ _ _ (by omega) (by omega), Option.bind_some, stS_n _ _ _ (by omega) (by omega), Option.bind_some, sA_2n (j := 7) (k := 6) _ _ (by decide), show (24 : Int32) = nI 24 from rfl, pk_mul, nI_add, wI_s, Nat.mul_comm]
          rfl
theorem A_undo (h : Rel r T k hs V sx sr st sg sh sv m) (hi : ImR T sp spt sph spv m) : ∃ w st' sh' m', f10_undo sx st sh = some (w, st', sh') ∧ f11_undo m = some (w, m') ∧ AllR sx sr st' sg sh' sv sp spt sph spv m' := by
  have hk := h.k40
  rcases Nat.eq_zero_or_pos k with k0 | k0
  · refine ⟨-1, st, sh, sS m 2 0, ?_, ?_, AllR.q h hi ⟨h.cr, h.mt.s2, (fr2 m).mono (by decide) (by decide)⟩⟩
    · unfold f10_undo
      rw [h.ch.2.1, k0, if_pos (by decide)]
    · unfold f11_undo
      rw [Option.bind_some, show (sS m 2 0).1 31 = nI k from h.mh.1, k0, if_pos (by decide)]
  · obtain ⟨n, rfl⟩ : ∃ n, k = n + 1 := ⟨k - 1, by omega⟩
    obtain ⟨sh', st', a1, a2, a3⟩ := C_takeBack h.ch st
    have hok := h.okH n (by omega)
    have g1 : RmT T (sS (sS m 2 0) 31 (nI n)) := h.mt.s2.fr (Fr.sS (S := [31]) (A := []) _ 31 _ (by decide))
    obtain ⟨m', b1, b2, b3⟩ := M_unpack_27 g1 hok.2.2.2.2.symm hok.1 (b := 43 * n) (by omega) (h.mh.2 n (by omega))
    have f : Fr [2, 31, 28, 29, 30] [23, 24, 25, 26] m m' := (((Fr.sS m 2 0 (by decide)).trans (Fr.sS _ 31 _ (by decide)))).trans (b2.mono (by decide) (by decide))
    have e31 : m'.1 31 = nI n := (b2.1 31 (by decide)).trans (sS_1e _ _ _)
    refine ⟨nI n, st', sh', m', ?_, ?_, ⟨r, hs n, n, hs, V, ⟨?_, ?_, ?_, h.ok, h.cr, h.mr.fr f, a3, b3, ⟨hok.1, hok.2.1, hok.2.2.1, hok.2.2.2.1, ⟨rfl, rfl, rfl, rfl⟩⟩, a2, ⟨e31, fun i hi => ?_⟩, fun i hi => (h.okH i (by omega)).to hok.2.2.2.2.symm, ?_, ?_, ?_⟩, (hi.fr f).to hok.2.2.2.2.symm⟩⟩
    · unfold f10_undo
      rw [h.ch.2.1, if_neg (nI_ne0 (by omega) (by omega)), a1, Option.bind_some]
      dsimp only
      rw [a2.2.1]
    · unfold f11_undo
      rw [Option.bind_some, show (sS m 2 0).1 31 = nI (n + 1) from h.mh.1, if_neg (nI_ne0 (by omega) (by omega)), nI_pred, Option.bind_some, sS_1e, show (43 : Int32) = nI 43 from rfl, pk_mul, b1, Option.bind_some, e31]
    · obtain ⟨n, a1, a2, a3, a4⟩ := h.tape
      exact ⟨n, a1, a2, (f.1 13 (by decide)).trans a3, by rw [f.2 12 (by decide)]; exact a4⟩
    · rw [f.1 22 (by decide)]; exact h.fp
    · rw [f.2 11 (by decide)]; exact h.sta
    · rw [f.2 27 (by decide)]; exact h.mh.2 i (by omega)
    · rw [hok.2.2.2.2.2.1]; exact h.cv
    · rw [f.1 32 (by decide), f.2 43 (by decide), f.2 44 (by decide), f.2 45 (by decide)]; exact h.mv
    · rw [f.2 3 (by decide), h.tws]
      unfold aloneN
      rw [hok.2.2.2.2.2.1, hok.2.2.2.2.2.2.2]
end
