/-! image, restore, house, lamp, fund, signals -/
section
variable {r : RU} {T U : TW} {k : Nat} {hs : Nat → TW} {V : SV} {sx sr st sg sv m sp spt spv e : St} {sh sph : HSt}
theorem RcV.copy {L : Nat} (h : RcV V L sv) (w : St) : ∃ w', f8_copyFrom w sv = some w' ∧ RcV V L w' := by
  obtain ⟨v1, v2, v3, v4⟩ := h
  refine ⟨_, rfl, v1, v2, v3, fun k hk => ?_⟩
  obtain ⟨a1, a2, a3, a4, a5⟩ := v4 k hk
  refine ⟨a1, a2, a3, ?_, ?_⟩
  · exact (pk_cpy_in (Nat.zero_le k) (by omega)).trans (by rw [Nat.zero_add, Nat.sub_zero]; exact a4)
  · exact (pk_cpy_in (Nat.zero_le k) (by omega)).trans (by rw [Nat.zero_add, Nat.sub_zero]; exact a5)
theorem cpy3 (f g : Nat → Int32) : ∀ i, i < 3 → va_cpy f g 0 0 3 i = f i := fun i hi => (pk_cpy_in (Nat.zero_le i) (by omega)).trans (by rw [Nat.zero_add, Nat.sub_zero])
theorem A_image (h : Rel r T k hs V sx sr st sg sh sv m) (hi : ImR T sp spt sph spv m) : ∃ sp' spt' sph' spv' m', f10_image sx st sh sv sp spt sph spv = some (sp', spt', sph', spv') ∧ f11_image m = some m' ∧ AllR sx sr st sg sh sv sp' spt' sph' spv' m' := by
  obtain ⟨t', a1, a2⟩ := C_copyFrom spt st
  obtain ⟨h', a3, a4⟩ := C_histCopy hi.1 h.ch
  obtain ⟨v', a5, a6⟩ := h.cv.copy spv
  have hk := h.k40
  have g0 : RmT T (sS (sS (sS (sS m 2 0) 49 1) 50 (m.1 31)) 51 (m.1 32)) := h.mt.fr ((Fr.sS (S := [2, 49, 50, 51]) (A := []) m 2 0 (by decide)).trans ((Fr.sS _ 49 _ (by decide)).trans ((Fr.sS _ 50 _ (by decide)).trans (Fr.sS _ 51 _ (by decide)))))
  have f0 : Fr [2, 49, 50, 51] [52, 53, 54, 55, 56, 57] m (sS (sS (sS (sS m 2 0) 49 1) 50 (m.1 31)) 51 (m.1 32)) := (Fr.sS m 2 0 (by decide)).trans ((Fr.sS _ 49 _ (by decide)).trans ((Fr.sS _ 50 _ (by decide)).trans (Fr.sS _ 51 _ (by decide))))
  generalize hq : sS (sS (sS (sS m 2 0) 49 1) 50 (m.1 31)) 51 (m.1 32) = q at g0 f0
  have q49 : q.1 49 = zB true := by rw [← hq]; rfl
  have q50 : q.1 50 = nI k := by rw [← hq]; exact h.mh.1
  have q51 : q.1 51 = m.1 32 := by rw [← hq]; rfl
  obtain ⟨x0, b1, b2, -⟩ := M_pack_52 g0 (b := 0) (by decide)
  obtain ⟨x1, b3, b4⟩ := M_copyTo_53_27 (sA q 52 x0)
  obtain ⟨x2, b5, b6⟩ := M_copyTo_54_43 (sA (sA q 52 x0) 53 x1)
  obtain ⟨x3, b7, b8⟩ := M_copyTo_55_44 (sA (sA (sA q 52 x0) 53 x1) 54 x2)
  obtain ⟨x4, b9, b10⟩ := M_copyTo_56_45 (sA (sA (sA (sA q 52 x0) 53 x1) 54 x2) 55 x3)
  obtain ⟨x5, b11, b12⟩ := M_copyTo_57_11 (sA (sA (sA (sA (sA q 52 x0) 53 x1) 54 x2) 55 x3) 56 x4)
  have fr : Fr [2, 49, 50, 51] [52, 53, 54, 55, 56, 57] m (sA (sA (sA (sA (sA (sA q 52 x0) 53 x1) 54 x2) 55 x3) 56 x4) 57 x5) := f0.trans ((Fr.sA _ 52 _ (by decide)).trans ((Fr.sA _ 53 _ (by decide)).trans ((Fr.sA _ 54 _ (by decide)).trans ((Fr.sA _ 55 _ (by decide)).trans ((Fr.sA _ 56 _ (by decide)).trans (Fr.sA _ 57 _ (by decide)))))))
  refine ⟨sA (sS sp 0 1) 4 (va_cpy (sx.2 5) ((sS sp 0 1).2 4) 0 0 3), t', h', v', _, ?_, ?_, r, T, k, hs, V, ⟨?_, ?_, ?_, h.ok, h.cr, h.mr.fr fr, h.ct, h.mt.fr fr, h.okT, h.ch, ?_, h.okH, h.cv, ?_, ?_⟩, a4.2.2.1, true, rfl, q49, fun _ => ⟨T, k, hs, V, h.okT, a2 T h.ct, ?_, a4, q50, fun i hi => ⟨?_, h.okH i hi⟩, a6, ?_, ?_⟩⟩
  · unfold f10_image
    rw [Option.bind_some, a1, Option.bind_some, a3, Option.bind_some, a5, Option.bind_some, Option.bind_some]
  · unfold f11_image
    rw [Option.bind_some, Option.bind_some, Option.bind_some, Option.bind_some]
    show (f11_pack_52 (sS (sS (sS (sS m 2 0) 49 1) 50 (m.1 31)) 51 (m.1 32)) 0).bind _ = _
    rw [hq, show f11_pack_52 q 0 = _ from b1, Option.bind_some, b3, Option.bind_some, b5, Option.bind_some, b7, Option.bind_some, b9, Option.bind_some, b11, Option.bind_some]
  · obtain ⟨n, a1, a2, a3, a4⟩ := h.tape
    exact ⟨n, a1, a2, (fr.1 13 (by decide)).trans a3, by rw [fr.2 12 (by decide)]; exact a4⟩
  · rw [fr.1 22 (by decide)]; exact h.fp
  · rw [fr.2 11 (by decide)]; exact h.sta
  · unfold RmH
    rw [fr.1 31 (by decide), fr.2 27 (by decide)]; exact h.mh
  · rw [fr.1 32 (by decide), fr.2 43 (by decide), fr.2 44 (by decide), fr.2 45 (by decide)]; exact h.mv
  · rw [fr.2 3 (by decide)]; exact h.tws
  · exact b2
  · have hw := (h.okH i hi).1
    refine (h.mh.2 i hi).cong hw.L12 hw.H8 (fun j hj => ?_)
    show x1 (43 * i + j) = _
    rw [b4 _ (by omega)]
    show q.2 27 _ = _
    rw [f0.2 27 (by decide)]
  · obtain ⟨u1, u2⟩ := h.mv
    refine ⟨q51.trans u1, fun j hj => ?_⟩
    have v8 := h.cv.1
    obtain ⟨c1, c2, c3⟩ := u2 j hj
    refine ⟨(b6 j (by omega)).trans ?_, (b8 j (by omega)).trans ?_, (b10 j (by omega)).trans ?_⟩
    · show q.2 43 j = _
      rw [f0.2 43 (by decide)]; exact c1
    · show q.2 44 j = _
      rw [f0.2 44 (by decide)]; exact c2
    · show q.2 45 j = _
      rw [f0.2 45 (by decide)]; exact c3
  · intro i hi
    show va_cpy (sx.2 5) _ 0 0 3 i = x5 i
    rw [cpy3 _ _ i hi, b12 i hi]
    show _ = q.2 11 i
    rw [f0.2 11 (by decide)]
    exact h.sta i hi
theorem A_restore (h : Rel r T k hs V sx sr st sg sh sv m) (hi : ImR T sp spt sph spv m) : ∃ w sx' st' sh' sv' m', f10_restore sx st sh sv sp spt sph spv = some (w, sx', st', sh', sv') ∧ f11_restore m = some (w, m') ∧ AllR sx' sr st' sg sh' sv' sp spt sph spv m' := by
  obtain ⟨i0, b, i1, i2, i3⟩ := hi
  cases b with
  | false =>
    refine ⟨false, sx, st, sh, sv, sS m 2 0, ?_, ?_, AllR.q h ⟨i0, false, i1, i2, i3⟩ ⟨h.cr, h.mt.s2, (fr2 m).mono (by decide) (by decide)⟩⟩
    · unfold f10_restore
      rw [i1, if_pos zB_f]
    · unfold f11_restore
      rw [Option.bind_some, show (sS m 2 0).1 49 = zB false from i2, if_pos zB_f]
  | true =>
    obtain ⟨U, kk, gs, W, j1, j2, j3, j4, j5, j6, j7, j8, j9⟩ := i3 rfl
    obtain ⟨t', a1, a2⟩ := C_copyFrom st spt
    obtain ⟨h', a3, a4⟩ := C_histCopy h.ch.2.2.1 j4
    obtain ⟨v', a5, a6⟩ := j7.copy sv
    have hk := j4.1
    have hSU := j1.2.2.2.2
    have f0 : Fr [2, 31, 32] [] m (sS (sS (sS m 2 0) 31 (m.1 50)) 32 (m.1 51)) := (Fr.sS m 2 0 (by decide)).trans ((Fr.sS _ 31 _ (by decide)).trans (Fr.sS _ 32 _ (by decide)))
    have g0 := h.mt.fr f0
    obtain ⟨q, b1, b2, b3⟩ := M_unpack_52 (U := U) g0 hSU.symm j1.1 (b := 0) (by decide) j3
    have fq : Fr [2, 31, 32, 28, 29, 30] [23, 24, 25, 26] m q := (f0.mono (by decide) (by decide)).trans (b2.mono (by decide) (by decide))
    have q31 : q.1 31 = nI kk := (b2.1 31 (by decide)).trans j5
    have q32 : q.1 32 = m.1 51 := (b2.1 32 (by decide)).trans rfl
    obtain ⟨x1, c1, c2⟩ := M_copyTo_27_53 q
    obtain ⟨x2, c3, c4⟩ := M_copyTo_43_54 (sA q 27 x1)
    obtain ⟨x3, c5, c6⟩ := M_copyTo_44_55 (sA (sA q 27 x1) 43 x2)
    obtain ⟨x4, c7, c8⟩ := M_copyTo_45_56 (sA (sA (sA q 27 x1) 43 x2) 44 x3)
    obtain ⟨x5, c9, c10⟩ := M_copyTo_11_57 (sA (sA (sA (sA q 27 x1) 43 x2) 44 x3) 45 x4)
    have fe : Fr [] [27, 43, 44, 45, 11] q (sA (sA (sA (sA (sA q 27 x1) 43 x2) 44 x3) 45 x4) 11 x5) := (Fr.sA _ 27 _ (by decide)).trans ((Fr.sA _ 43 _ (by decide)).trans ((Fr.sA _ 44 _ (by decide)).trans ((Fr.sA _ 45 _ (by decide)).trans (Fr.sA _ 11 _ (by decide)))))
    have fr : Fr [2, 31, 32, 28, 29, 30] [23, 24, 25, 26, 27, 43, 44, 45, 11] m (sA (sA (sA (sA (sA q 27 x1) 43 x2) 44 x3) 45 x4) 11 x5) := (fq.mono (by decide) (by decide)).trans (fe.mono (by decide) (by decide))
    refine ⟨true, sA sx 5 (va_cpy (sp.2 4) (sx.2 5) 0 0 3), t', h', v', _, ?_, ?_, r, U, kk, gs, W, ⟨?_, ?_, ?_, h.ok, h.cr, h.mr.fr fr, a2 U j2, b3.fr fe, j1.to hSU.symm, a4, ⟨q31, fun i hi => ?_⟩, fun i hi => (j6 i hi).2.to hSU.symm, by rw [hSU.2.1]; exact a6, ?_, ?_⟩, ImR.to ((show ImR T sp spt sph spv m from ⟨i0, true, i1, i2, i3⟩).fr fr) hSU.symm⟩
    · unfold f10_restore
      rw [i1, if_neg (by decide), a1, Option.bind_some, a3, Option.bind_some, a5, Option.bind_some, Option.bind_some]
    · unfold f11_restore
      rw [Option.bind_some, show (sS m 2 0).1 49 = zB true from i2, if_neg (by decide), Option.bind_some, Option.bind_some]
      show (f11_unpack_52 (sS (sS (sS m 2 0) 31 (m.1 50)) 32 (m.1 51)) 0).bind _ = _
      rw [show f11_unpack_52 _ 0 = some q from b1, Option.bind_some, c1, Option.bind_some, c3, Option.bind_some, c5, Option.bind_some, c7, Option.bind_some, c9, Option.bind_some]
    · obtain ⟨n, a1, a2, a3, a4⟩ := h.tape
      exact ⟨n, a1, a2, (fr.1 13 (by decide)).trans a3, by rw [fr.2 12 (by decide)]; exact a4⟩
    · rw [fr.1 22 (by decide)]; exact h.fp
    · intro i hi
      show va_cpy (sp.2 4) _ 0 0 3 i = x5 i
      rw [cpy3 _ _ i hi, c10 i hi]
      show _ = q.2 57 i
      rw [fq.2 57 (by decide)]
      exact j9 i hi
    · have hw := (j6 i hi).2.1
      refine (j6 i hi).1.cong hw.L12 hw.H8 (fun j hj => ?_)
      show x1 (43 * i + j) = _
      rw [c2 _ (by omega), fq.2 53 (by decide)]
    · obtain ⟨u1, u2⟩ := j8
      refine ⟨q32.trans u1, fun j hj => ?_⟩
      have v8 := j7.1
      obtain ⟨d1, d2, d3⟩ := u2 j hj
      refine ⟨(c4 j (by omega)).trans ?_, (c6 j (by omega)).trans ?_, (c8 j (by omega)).trans ?_⟩
      · show q.2 54 j = _
        rw [fq.2 54 (by decide)]; exact d1
      · show q.2 55 j = _
        rw [fq.2 55 (by decide)]; exact d2
      · show q.2 56 j = _
        rw [fq.2 56 (by decide)]; exact d3
    · rw [fr.2 3 (by decide), h.tws]
      unfold aloneN
      rw [hSU.2.1, hSU.2.2.2]
theorem QP0 (hg : RcR r.1 r.2 sg) (h' : RmT T m) : QP r T m sg (sS m 2 0) := ⟨hg, h'.s2, (fr2 m).mono (by decide) (by decide)⟩
theorem Q_house (h : RcT T st) (h' : RmT T m) (hg : RcR r.1 r.2 sg) (sx : St) (y1 y2 : Int32) : ∃ w m', f11_house m y1 y2 = some (w, m') ∧ QP r T m sg m' ∧ (f10_house sx st y1 y2 = some (.inl w) ∧ m'.1 2 = 0 ∨ ∃ j, f10_house sx st y1 y2 = some (.inr j) ∧ m'.1 2 = kfN j) := by
  have hH := h.W.H8
  rcases houseCase h h'.s2 sx y1 with ⟨e1, e2⟩ | ⟨a, ha, rfl, e1, e2⟩
  · refine ⟨0, sS (sS m 2 0) 2 1, ?_, ⟨hg, h'.s2k _, fr2k m _⟩, .inr ⟨1, by unfold f10_house; rw [e1, xB_o], sS_1e _ _ _⟩⟩
    unfold f11_house
    rw [Option.bind_some, e2, Option.bind_some, if_pos zB_f]
    rfl
  rcases rangeCase 0 4 (by decide) (by decide) y2 with ⟨e3, e4⟩ | ⟨j, -, j4, rfl, e3⟩
  · refine ⟨0, sS (sS m 2 0) 2 1, ?_, ⟨hg, h'.s2k _, fr2k m _⟩, .inr ⟨1, ?_, sS_1e _ _ _⟩⟩
    · unfold f11_house
      rw [Option.bind_some, e2, Option.bind_some, if_neg (by decide), show f11_isIn y2.toInt64 0 4 = some false from e3, Option.bind_some, if_pos zB_f]
      rfl
    · have ne : ∀ j, j ≤ 4 → ¬ y2 = nI j := fun j hj z => by
        subst z
        rcases e4 with e4 | ⟨-, e4⟩
        · exact nI_nlt (Nat.zero_le j) (by omega) e4
        · exact e4 (nI_le hj (by decide))
      unfold f10_house
      rw [e1, xB_i, if_neg (show ¬ y2 = 0 from ne 0 (by decide)), if_neg (show ¬ y2 = 1 from ne 1 (by decide)), if_neg (show ¬ y2 = 2 from ne 2 (by decide)), if_neg (show ¬ y2 = 3 from ne 3 (by decide)), if_neg (show ¬ y2 = 4 from ne 4 (by decide))]
  · obtain ⟨x, hx, hxb⟩ := C_lampsOf h (g := a) (by omega)
    obtain ⟨x', hx', hxb'⟩ := M_lampsOf h'.s2 (g := a) (by omega)
    obtain ⟨z, hz, hzb⟩ := C_plungedBy h (a := a) (by omega)
    obtain ⟨z', hz', hzb'⟩ := M_plunged h'.s2 (a := a) (by omega)
    have ex := hxb.uniq hxb'
    have ez := hzb.uniq hzb'
    subst ex
    subst ez
    have hw : j = 0 ∨ j = 1 ∨ j = 2 ∨ j = 3 ∨ j = 4 := by omega
    have m1 : ∀ X, f11_house m (nI a) (nI j) = X → f11_house m (nI a) (nI j) = X := fun _ h => h
    have mm : f11_house m (nI a) (nI j) = some (if j = 0 then nI (T.ki a) else if j = 1 then nI (T.wa a) else if j = 2 then nI (T.sl a) else if j = 3 then x else z, sS m 2 0) := by
      unfold f11_house
      rw [Option.bind_some, e2, Option.bind_some, if_neg (by decide), show f11_isIn (nI j).toInt64 0 4 = some true from e3, Option.bind_some, if_neg (by decide), ldO_n _ (by omega) (by omega), h'.s2.eki ha, ldO_n _ (by omega) (by omega), h'.s2.ewa ha, ldO_n _ (by omega) (by omega), h'.s2.esl ha, hx', hz']
      clear e3 m1
      rcases hw with rfl | rfl | rfl | rfl | rfl <;> rfl
    have cc : f10_house sx st (nI a) (nI j) = some (.inl (if j = 0 then nI (T.ki a) else if j = 1 then nI (T.wa a) else if j = 2 then nI (T.sl a) else if j = 3 then x else z)) := by
      unfold f10_house
      rw [e1, xB_i, ldO_n _ (by omega) (by omega), h.eki ha, ldO_n _ (by omega) (by omega), h.ewa ha, ldO_n _ (by omega) (by omega), h.esl ha, hx, hz]
      clear e3 m1 mm
      rcases hw with rfl | rfl | rfl | rfl | rfl <;> rfl
    exact ⟨_, _, mm, QP0 hg h', .inl ⟨cc, sS_1e _ _ _⟩⟩
theorem C_hoursWanted (h : RcT T st) (hg : RcR r.1 r.2 sg) (hok : okR r.1 r.2) {l : Nat} (hl : l < T.L) : ∃ x g', f7_hoursWanted sg st (nI l) = some (x, g') ∧ Bm 24 (fun o => wn r T l o) x ∧ RcR r.1 r.2 g' := by
  obtain ⟨q, h1, h2, h3⟩ := lpw_R (F := f7_hoursWanted_L1 st (nI l)) (fun i s => s.2.1 = nI i ∧ Bm i (fun o => wn r T l o) s.1 ∧ RcR r.1 r.2 s.2.2) (fun q => Bm 24 (fun o => wn r T l o) q.1 ∧ RcR r.1 r.2 q.2) 24 (s := (0, 0, sg)) (by
    rintro i ⟨x, _, g⟩ hi ⟨rfl, hx, hg⟩
    dsimp only at hx hg
    obtain ⟨g', a1, a2⟩ := C_wants h hg hok hl hi
    unfold f7_hoursWanted_L1
    dsimp only
    rw [if_neg (show ¬ (24 : Int32) ≤ nI i from nI_ge hi (by decide)), a1, Option.bind_some]
    simp only [ifz, ifs, Option.bind_some]
    rw [nI_1]
    exact ⟨_, rfl, rfl, hx.next (by omega), a2⟩) (by
    rintro ⟨x, _, g⟩ ⟨rfl, hx, hg⟩
    exact ⟨_, if_pos (Int32.le_refl _), hx, hg⟩) ⟨rfl, Bm.zero0 _, hg⟩
  refine ⟨q.1, q.2, ?_, h2, h3⟩
  unfold f7_hoursWanted
  rw [h1, Option.bind_some]
theorem M_hoursOf (h : RmT T m) (hR : RmR r.1 r.2 m) (hok : okR r.1 r.2) {l : Nat} (hl : l < T.L) : ∃ x m', f11_hoursOf m (nI l) = some (x, m') ∧ Bm 24 (fun o => wn r T l o) x ∧ Fr [] [33, 34] m m' := by
  obtain ⟨q, h1, h2, h3⟩ := lpw_R (F := f11_hoursOf_L1 (nI l)) (fun i s => s.2.1 = nI i ∧ Bm i (fun o => wn r T l o) s.1 ∧ Fr [] [33, 34] m s.2.2) (fun q => Bm 24 (fun o => wn r T l o) q.1 ∧ Fr [] [33, 34] m q.2) 24 (s := (0, 0, m)) (by
    rintro i ⟨x, _, g⟩ hi ⟨rfl, hx, hf⟩
    dsimp only at hx hf
    obtain ⟨g', a1, a2⟩ := M_wants (h.fr hf) (hR.fr hf) hok hl hi
    unfold f11_hoursOf_L1
    dsimp only
    rw [if_neg (show ¬ (24 : Int32) ≤ nI i from nI_ge hi (by decide)), a1, Option.bind_some]
    simp only [ifz, ifs, Option.bind_some]
    rw [nI_1]
    exact ⟨_, rfl, rfl, hx.next2 (by omega), hf.trans a2⟩) (by
    rintro ⟨x, _, g⟩ ⟨rfl, hx, hf⟩
    exact ⟨_, if_pos (Int32.le_refl _), hx, hf⟩) ⟨rfl, Bm.zero0 _, Fr.refl _ _ _⟩
  refine ⟨q.1, q.2, ?_, h2, h3⟩
  unfold f11_hoursOf
  rw [h1, Option.bind_some]
theorem Q_lamp (h : RcT T st) (h' : RmT T m) (hg : RcR r.1 r.2 sg) (hR : RmR r.1 r.2 m) (hok : okR r.1 r.2) (sx : St) (y1 y2 : Int32) : Agr (f10_lamp sx st sg y1 y2) kfN (f11_lamp m y1 y2) sg (fun s m' => QP r T m s m') := by
  have hL := h.W.L12
  have hoB := h.W.oB
  rcases lampCase h h'.s2 sx y1 with ⟨e1, e2⟩ | ⟨l, hl, rfl, e1, e2⟩
  · refine AgrX (m := m) 1 (by unfold f10_lamp; rw [e1, xB_o]) ?_ ⟨hg, h'.s2k _, fr2k m _⟩
    unfold f11_lamp
    rw [Option.bind_some, e2, Option.bind_some, if_pos zB_f]
    rfl
  have zb : ∀ (b : Bool) (s : St), (if b = true then some (1, s) else some (0, s) : Option (Int32 × St)) = some (zB b, s) := by intro b s; cases b <;> rfl
  have fin : ∀ w, f11_lamp m (nI l) y2 = some (w, sS m 2 0) → f10_lamp sx st sg (nI l) y2 = some (.inl (w, sg)) → Agr (f10_lamp sx st sg (nI l) y2) kfN (f11_lamp m (nI l) y2) sg (fun s m' => QP r T m s m') := fun w q1 q2 => ⟨w, _, q1, .inl ⟨sg, q2, sS_1e _ _ _, QP0 hg h'⟩⟩
  by_cases y0 : y2 = 0
  · subst y0
    refine fin (nI (T.ho l)) ?_ ?_
    · unfold f11_lamp
      rw [Option.bind_some, e2, Option.bind_some, if_neg (by decide), if_pos rfl, ldO_n _ (by omega) (by omega), h'.s2.eho hl, Option.bind_some]
    · unfold f10_lamp
      rw [e1, xB_i, if_pos rfl, ldO_n _ (by omega) (by omega), h.eho hl, Option.bind_some, wI_s]
  by_cases y1 : y2 = 1
  · subst y1
    refine fin (nI (T.oi l)) ?_ ?_
    · unfold f11_lamp
      rw [Option.bind_some, e2, Option.bind_some, if_neg (by decide), if_neg y0, if_pos rfl, ldO_n _ (by omega) (by omega), h'.s2.eoi hl, Option.bind_some]
    · unfold f10_lamp
      rw [e1, xB_i, if_neg y0, if_pos rfl, ldO_n _ (by omega) (by omega), h.eoi hl, Option.bind_some, wI_s]
  by_cases y2' : y2 = 2
  · subst y2'
    refine fin (eT (T.tw l)) ?_ ?_
    · unfold f11_lamp
      rw [Option.bind_some, e2, Option.bind_some, if_neg (by decide), if_neg y0, if_neg y1, if_pos rfl, ldO_n _ (by omega) (by omega), h'.s2.etw hl, Option.bind_some]
    · unfold f10_lamp
      rw [e1, xB_i, if_neg y0, if_neg y1, if_pos rfl, ldO_n _ (by omega) (by omega), h.etw hl, Option.bind_some, wI_s]
  by_cases y3 : y2 = 3
  · subst y3
    refine fin (zB (T.li l)) ?_ ?_
    · unfold f11_lamp
      rw [Option.bind_some, e2, Option.bind_some, if_neg (by decide), if_neg y0, if_neg y1, if_neg y2', if_pos rfl, bs _ (by omega), h'.s2.eli.at hl (by omega)]
    · unfold f10_lamp
      rw [e1, xB_i, if_neg y0, if_neg y1, if_neg y2', if_pos rfl, C_isLit h hl, Option.bind_some, ifz, zb, wI_s]
  by_cases y4 : y2 = 4
  · subst y4
    refine fin (zB (T.br l)) ?_ ?_
    · unfold f11_lamp
      rw [Option.bind_some, e2, Option.bind_some, if_neg (by decide), if_neg y0, if_neg y1, if_neg y2', if_neg y3, if_pos rfl, bs _ (by omega), h'.s2.ebr.at hl (by omega)]
    · unfold f10_lamp
      rw [e1, xB_i, if_neg y0, if_neg y1, if_neg y2', if_neg y3, if_pos rfl, C_isBroken h hl, Option.bind_some, ifz, zb, wI_s]
  by_cases y5 : y2 = 5
  · subst y5
    obtain ⟨g', a1, a2⟩ := C_wants h hg hok hl (show T.o % 24 < 24 by omega)
    obtain ⟨m', b1, b2⟩ := M_wants h'.s2 hR.s2 hok hl (show T.o % 24 < 24 by omega)
    have hf : Fr sS1 sA1 (sS m 2 0) m' := b2.mono (by decide) (by decide)
    refine ⟨zB (wn r T l (T.o % 24)), m', ?_, .inl ⟨g', ?_, z2 hf, a2, h'.s2.fr b2, fr2' hf⟩⟩
    · unfold f11_lamp
      rw [Option.bind_some, e2, Option.bind_some, if_neg (by decide), if_neg y0, if_neg y1, if_neg y2', if_neg y3, if_neg y4, if_pos rfl, h'.s2.eo, m24 (by omega), b1, Option.bind_some, ifz, zb]
    · unfold f10_lamp
      rw [e1, xB_i, if_neg y0, if_neg y1, if_neg y2', if_neg y3, if_neg y4, if_pos rfl, h.eo, m24 (by omega), a1, Option.bind_some, ifz, zb, wI_s]
  by_cases y6 : y2 = 6
  · subst y6
    obtain ⟨x, g', a1, a2, a3⟩ := C_hoursWanted h hg hok hl
    obtain ⟨x', m', b1, b2, b3⟩ := M_hoursOf h'.s2 hR.s2 hok hl
    have hf : Fr sS1 sA1 (sS m 2 0) m' := b3.mono (by decide) (by decide)
    refine ⟨x', m', ?_, .inl ⟨g', ?_, z2 hf, a3, h'.s2.fr b3, fr2' hf⟩⟩
    · unfold f11_lamp
      rw [Option.bind_some, e2, Option.bind_some, if_neg (by decide), if_neg y0, if_neg y1, if_neg y2', if_neg y3, if_neg y4, if_neg y5, if_pos rfl, b1, Option.bind_some]
    · unfold f10_lamp
      rw [e1, xB_i, if_neg y0, if_neg y1, if_neg y2', if_neg y3, if_neg y4, if_neg y5, if_pos rfl, a1, Option.bind_some, wI_s, a2.uniq b2]
  refine AgrX (m := m) 1 (by unfold f10_lamp; rw [e1, xB_i, if_neg y0, if_neg y1, if_neg y2', if_neg y3, if_neg y4, if_neg y5, if_neg y6]) ?_ ⟨hg, h'.s2k _, fr2k m _⟩
  unfold f11_lamp
  rw [Option.bind_some, e2, Option.bind_some, if_neg (by decide), if_neg y0, if_neg y1, if_neg y2', if_neg y3, if_neg y4, if_neg y5, if_neg y6]
  rfl
theorem M_bright (h : RmT T m) : ∃ x, f11_bright m = some x ∧ Bm T.H T.hs x := by
  have hL := h.W.L12
  have hH := h.W.H8
  obtain ⟨x, h1, h2⟩ := lpw_R (F := f11_bright_L1 m) (fun i s => s.2 = nI i ∧ Bm T.H (fun g => decide (0 < fb_ct (T.hs1 g) i)) s.1) (fun x => Bm T.H T.hs x) T.L (s := (0, 0)) (by
    rintro i ⟨x, _⟩ hi ⟨rfl, hx⟩
    dsimp only at hx
    have hho := h.W.hoH hi
    obtain ⟨y, hy, hb⟩ := M_couple h hi
    unfold f11_bright_L1
    dsimp only
    rw [cl_1, h.eL, if_neg (nI_ge hi (by omega)), hy, Option.bind_some, ldO_n _ (by omega) (by omega), h.eho hi]
    simp only [br_cp h.W hi h.ebr hb, Option.bind_some]
    cases z : T.snd i with
    | true =>
      rw [if_pos rfl, Option.bind_some, nI_1]
      refine ⟨_, rfl, rfl, (hx.or (Bm.one hho (by omega))).cong fun g hg => ?_⟩
      rw [fb_ct_succ]
      have : T.hs1 g i = decide (T.ho i = g) := by unfold TW.hs1; rw [z, Bool.and_true]
      rw [this]
      by_cases q : g = T.ho i
      · rw [decide_eq_true q, Bool.or_true, decide_eq_true q.symm]
        exact (decide_eq_true (by rw [if_pos rfl]; omega)).symm
      · rw [decide_eq_false q, Bool.or_false, decide_eq_false (show ¬ T.ho i = g from fun e => q e.symm)]
        rfl
    | false =>
      rw [if_neg (by decide), Option.bind_some, nI_1, or_0]
      refine ⟨_, rfl, rfl, hx.cong fun g hg => ?_⟩
      rw [fb_ct_succ]
      have : T.hs1 g i = false := by unfold TW.hs1; rw [z, Bool.and_false]
      rw [this]
      rfl) (by
    rintro ⟨x, _⟩ ⟨rfl, hx⟩
    refine ⟨x, ?_, hx⟩
    unfold f11_bright_L1
    dsimp only
    rw [cl_1, h.eL, if_pos (Int32.le_refl _)]) ⟨rfl, Bm.zero _⟩
  refine ⟨x, ?_, h2⟩
  unfold f11_bright
  rw [h1]
  rfl
theorem Q_fund (h : RcT T st) (h' : RmT T m) (hg : RcR r.1 r.2 sg) (t2 sx : St) (y : Int32) : Agr (f10_fund sx st t2 y) kfN (f11_fund m y) t2 (fun _ m' => QP r T m sg m') := by
  have hL := h.W.L12
  have hH := h.W.H8
  rcases lampCase h h'.s2 sx y with ⟨e1, e2⟩ | ⟨l, hl, rfl, e1, e2⟩
  · refine AgrX (m := m) 1 (by unfold f10_fund; rw [e1, xB_o]) ?_ ⟨hg, h'.s2k _, fr2k m _⟩
    unfold f11_fund
    rw [Option.bind_some, e2, Option.bind_some, if_pos zB_f]
    rfl
  obtain ⟨t1, a1, a2⟩ := C_copyFrom t2 st
  obtain ⟨t3, a3, a4⟩ := C_shatter (a2 T h) hl
  obtain ⟨x, b1, b2⟩ := lpw_bm (F := f10_fund_L4 st t3) (n := T.H) (p := fun g => T.hs g && !(T.sma l).hs g) (fun i x hi hx => ⟨_, by
    unfold f10_fund_L4
    dsimp only
    rw [h.eH, if_neg (nI_ge hi (by omega)), C_hasSoundLamp h (by omega), Option.bind_some, C_hasSoundLamp a4 (by omega), Option.bind_some]
    simp only [ifz]
    show _ = some (Sum.inl (if (T.hs i && !(T.sma l).hs i) = true then x ||| ((1 : Int32) <<< (nI i &&& 31)) else x, nI (i + 1)))
    rw [nI_1]
    cases T.hs i with
    | false => rfl
    | true =>
      cases (T.sma l).hs i with
      | false => rfl
      | true => rfl, hx.next (p := fun g => T.hs g && !(T.sma l).hs g) (by omega)⟩) (fun x => if_pos (by rw [h.eH]; exact Int32.le_refl _))
  obtain ⟨x1, c1, c2⟩ := M_bright h'.s2
  have g1 : RmT (T.sBr (fun k => T.br k || decide (k = l))) (sS (sS m 2 0) 30 ((sS m 2 0).1 30 ||| ((1 : Int32) <<< (nI l &&& 31)))) := h'.s2.sBr (h'.s2.ebr.or (Bm.one hl (by omega)))
  obtain ⟨x2, c3, c4⟩ := M_bright g1
  have hf : Fr sS1 sA1 (sS m 2 0) (sS (sS (sS m 2 0) 30 ((sS m 2 0).1 30 ||| ((1 : Int32) <<< (nI l &&& 31)))) 30 ((sS m 2 0).1 30)) := (Fr.sS _ 30 _ (by decide)).trans (Fr.sS _ 30 _ (by decide))
  have g2 : RmT T (sS (sS (sS m 2 0) 30 ((sS m 2 0).1 30 ||| ((1 : Int32) <<< (nI l &&& 31)))) 30 ((sS m 2 0).1 30)) := by rw [sS_sS, sS_self]; exact h'.s2
  refine ⟨x1 &&& (x2 ^^^ (-1)), _, ?_, .inl ⟨t3, ?_, z2 hf, hg, g2, fr2' hf⟩⟩
  · unfold f11_fund
    rw [Option.bind_some, e2, Option.bind_some, if_neg (by decide), c1, Option.bind_some, Option.bind_some, c3, Option.bind_some, Option.bind_some]
  · unfold f10_fund
    rw [e1, xB_i, a1, Option.bind_some, a3, Option.bind_some, b1, Option.bind_some, wI_s]
    rw [b2.uniq (c2.sub c4)]
theorem pw_nI : ∀ i, i < 5 → (1 : Int32) <<< (nI i &&& 31) = nI (2 ^ i) := by decide +kernel
theorem Q_signals (h : RcT T st) (h' : RmT T m) (hg : RcR r.1 r.2 sg) (sx : St) (y : Int32) : ∃ w m', f11_signals m y = some (w, m') ∧ QP r T m sg m' ∧ (f10_signals sx st y = some (.inl w) ∧ m'.1 2 = 0 ∨ ∃ j, f10_signals sx st y = some (.inr j) ∧ m'.1 2 = kfI j) := by
  have hL := h.W.L12
  obtain ⟨a, ha, hab⟩ := C_allLamps h
  have ea : a = (1 : Int32) <<< (nI T.L &&& 31) - 1 := hab.uniq (Bm.all hL)
  have eN : ∀ n, n < 13 → (1 : Int32) <<< (nI n &&& 31) - 1 = nI (2 ^ n - 1) := by decide +kernel
  have hp : 2 ^ T.L ≤ 4096 := Nat.pow_le_pow_right (by decide) hL
  have hp0 : 0 < 2 ^ T.L := Nat.pow_pos (by decide)
  have eI : f11_isIn y.toInt64 0 ((1 : Int32) <<< (nI T.L &&& 31) - 1).toInt64 = some (decide (y &&& (a ^^^ (-1)) = 0)) := by
    rw [show (0 : Int64) = (0 : Int32).toInt64 from by decide +kernel, isIn_w]
    congr 1
    refine decide_eq_decide.2 ?_
    rw [← ea]
    constructor
    · rintro ⟨h0, h1⟩
      obtain ⟨j, hj, rfl⟩ := nI_of (x := y) (fun z => (fa_of_lt z).2.1 h0)
      rw [ea, eN _ (by omega), nI_leI hj (by omega)] at h1
      have hB := Bm.of_num (n := T.L) (k := j) (by omega) (by omega)
      exact ((hB.sub hab).eq0 (by omega)).2 (fun i hi => by simp)
    · intro hz
      have hB : Bm T.L (bt y) y := fun i hi => by
        by_cases q : i < T.L
        · rw [decide_eq_true q, Bool.true_and]
        · rw [decide_eq_false q, Bool.false_and]
          have : bt (y &&& (a ^^^ (-1))) i = false := by rw [hz, b_0]
          rw [b_and, b_not a hi, hab.out (by omega) hi, Bool.not_false, Bool.and_true] at this
          exact this
      obtain ⟨j, h1, h2, h3⟩ := hB.num (by omega)
      rw [h2, ea, eN _ (by omega)]
      exact ⟨nI_pos' (by omega), nI_le (by omega) (by omega)⟩
  by_cases hz : y &&& (a ^^^ (-1)) = 0
  · rw [decide_eq_true hz] at eI
    have hB : Bm T.L (bt y) y := fun i hi => by
      by_cases q : i < T.L
      · rw [decide_eq_true q, Bool.true_and]
      · rw [decide_eq_false q, Bool.false_and]
        have : bt (y &&& (a ^^^ (-1))) i = false := by rw [hz, b_0]
        rw [b_and, b_not a hi, hab.out (by omega) hi, Bool.not_false, Bool.and_true] at this
        exact this
    have hc : fb_ct (bt y) T.L ≤ 12 := Nat.le_trans (fb_ct_le _ _) hL
    generalize hcc : fb_ct (bt y) T.L = c at hc
    have c1 : fJ6_bitCount y = some (nI c) := by rw [bitCount_Bm hB (by omega), hcc]
    have c2 : f11_bitsOf y = some (nI c) := by rw [bitsOf_Bm hB hL, hcc]
    have p24 : ∀ i, i < 5 → 2 ^ i ≤ 16 := by decide
    obtain ⟨w, d1, d2⟩ := lpw_E (F := f10_signals_L3 (nI c)) (fun i s => s = (nI i, nI (2 ^ i)) ∧ ∀ j, j < i → decide (c ≤ 2 ^ j) = false) (fun w => w = nI (fa_first (fun j => decide (c ≤ 2 ^ j)) 5)) 4 (fun i s hi hI => by
      obtain ⟨rfl, hI⟩ := hI
      have := p24 i (by omega)
      unfold f10_signals_L3
      dsimp only
      by_cases z : c ≤ 2 ^ i
      · right
        rw [if_pos (nI_le z (by omega))]
        exact ⟨_, rfl, by rw [fst_at (p := fun j => decide (c ≤ 2 ^ j)) (n := 5) (i := i) (by omega) (decide_eq_true z) hI]⟩
      · left
        rw [if_neg (nI_ge (by omega) (by omega)), show (2 : Int32) = nI 2 from rfl, pk_mul, nI_1]
        exact ⟨_, rfl, by rw [Nat.pow_succ], lt_snoc (p := fun j => decide (c ≤ 2 ^ j)) hI (decide_eq_false z)⟩) (fun s hI => by
      obtain ⟨rfl, hI⟩ := hI
      unfold f10_signals_L3
      dsimp only
      rw [if_pos (nI_le (by omega) (by decide))]
      exact ⟨_, rfl, by rw [fst_at (p := fun j => decide (c ≤ 2 ^ j)) (n := 5) (i := 4) (by omega) (decide_eq_true (by omega)) hI]⟩) (Nat.zero_le _) (s := (0, 1)) ⟨rfl, fun j hj => absurd hj (Nat.not_lt_zero j)⟩
    obtain ⟨w2, d3, d4⟩ := lpw_E (F := f11_signals_L3 y) (fun i s => s = nI i ∧ ∀ j, j < i → decide (c ≤ 2 ^ j) = false) (fun w => w = nI (fa_first (fun j => decide (c ≤ 2 ^ j)) 5)) 4 (fun i s hi hI => by
      obtain ⟨rfl, hI⟩ := hI
      have := p24 i (by omega)
      unfold f11_signals_L3
      rw [c2, Option.bind_some, pw_nI i (by omega)]
      by_cases z : c ≤ 2 ^ i
      · right
        rw [if_pos (nI_le z (by omega))]
        exact ⟨_, rfl, by rw [fst_at (p := fun j => decide (c ≤ 2 ^ j)) (n := 5) (i := i) (by omega) (decide_eq_true z) hI]⟩
      · left
        rw [if_neg (nI_ge (by omega) (by omega)), nI_1]
        exact ⟨_, rfl, rfl, lt_snoc (p := fun j => decide (c ≤ 2 ^ j)) hI (decide_eq_false z)⟩) (fun s hI => by
      obtain ⟨rfl, hI⟩ := hI
      unfold f11_signals_L3
      rw [c2, Option.bind_some, pw_nI 4 (by omega), if_pos (nI_le (by omega) (by decide))]
      exact ⟨_, rfl, by rw [fst_at (p := fun j => decide (c ≤ 2 ^ j)) (n := 5) (i := 4) (by omega) (decide_eq_true (by omega)) hI]⟩) (Nat.zero_le _) (s := 0) ⟨rfl, fun j hj => absurd hj (Nat.not_lt_zero j)⟩
    refine ⟨w2, sS m 2 0, ?_, QP0 hg h', .inl ⟨?_, sS_1e _ _ _⟩⟩
    · unfold f11_signals
      rw [Option.bind_some, cl_1, h'.s2.eL, eI, Option.bind_some, if_neg (by decide), d3, Option.bind_some]
    · unfold f10_signals
      rw [ha, Option.bind_some, if_pos hz, c1, Option.bind_some, d1, Option.bind_some, wI_s, d2, d4]
  · rw [decide_eq_false hz] at eI
    refine ⟨0, sS (sS m 2 0) 2 1, ?_, ⟨hg, h'.s2k _, fr2k m _⟩, .inr ⟨0, ?_, sS_1e _ _ _⟩⟩
    · unfold f11_signals
      rw [Option.bind_some, cl_1, h'.s2.eL, eI, Option.bind_some, if_pos zB_f]
      rfl
    · unfold f10_signals
      rw [ha, Option.bind_some, if_neg hz]
end
