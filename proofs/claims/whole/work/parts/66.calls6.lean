/-! joined, count -/
section
variable {r : RU} {T U : TW} {k : Nat} {hs : Nat → TW} {V : SV} {sx sr st sg sv m sp spt spv e : St} {sh sph : HSt}
theorem Q_joined (h : RcT T st) (h' : RmT T m) (hg : RcR r.1 r.2 sg) (sx : St) (y1 y2 : Int32) : ∃ w m', f11_joined m y1 y2 = some (w, m') ∧ QP r T m sg m' ∧ (f10_joined sx st y1 y2 = some (.inl w) ∧ m'.1 2 = 0 ∨ ∃ j, f10_joined sx st y1 y2 = some (.inr j) ∧ m'.1 2 = kfN j) := by
  have hH := h.W.H8
  rcases houseCase h h'.s2 sx y1 with ⟨e1, e2⟩ | ⟨a, ha, rfl, e1, e2⟩
  · refine ⟨0, sS (sS m 2 0) 2 1, ?_, ⟨hg, h'.s2k _, fr2k m _⟩, .inr ⟨1, by unfold f10_joined; rw [e1, xB_o], sS_1e _ _ _⟩⟩
    unfold f11_joined
    rw [Option.bind_some, e2, Option.bind_some, if_pos zB_f]
    rfl
  rcases houseCase h h'.s2 sx y2 with ⟨e3, e4⟩ | ⟨b, hb, rfl, e3, e4⟩
  · refine ⟨0, sS (sS m 2 0) 2 1, ?_, ⟨hg, h'.s2k _, fr2k m _⟩, .inr ⟨1, by unfold f10_joined; rw [e1, xB_i, e3, xB_o], sS_1e _ _ _⟩⟩
    unfold f11_joined
    rw [Option.bind_some, e2, Option.bind_some, if_neg (by decide), e4, Option.bind_some, if_pos zB_f]
    rfl
  obtain ⟨m', a1, a2, a3⟩ := M_tellWays h'.s2 ha
  have hf : Fr sS1 sA1 (sS m 2 0) m' := a2.mono (by decide) (by decide)
  refine ⟨fsA (fun n => rch T a n b) 8 0, m', ?_, ⟨hg, h'.s2.fr a2, fr2' hf⟩, .inl ⟨?_, z2 hf⟩⟩
  · unfold f11_joined
    rw [Option.bind_some, e2, Option.bind_some, if_neg (by decide), e4, Option.bind_some, if_neg (by decide), a1, Option.bind_some, ldO_n _ (by omega) (by omega), a3 b hb, Option.bind_some, Option.bind_some, ← wy_fs h.W ha hb]
    by_cases z : nI (wyN T a T.H b) = 100000
    · rw [if_pos z, if_pos z]
    · rw [if_neg z, if_neg z]
  · unfold f10_joined
    rw [e1, xB_i, e3, xB_i, C_fewest h ha hb]
    rfl
theorem A_count (h : Rel r T k hs V sx sr st sg sh sv m) (y : Int32) : ∃ w m', f11_count m y = some (w, m') ∧ QP r T m sg m' ∧ (f10_count sx st sh sv sr y = some (.inl w) ∧ m'.1 2 = 0 ∨ ∃ j, f10_count sx st sh sv sr y = some (.inr j) ∧ m'.1 2 = kfN j) := by
  have hL := h.W.L12
  have hoB := h.W.oB
  have h1 := h.mt.s2
  have qp := QP0 h.cr h.mt
  have fin : ∀ w, f11_count m y = some (w, sS m 2 0) → f10_count sx st sh sv sr y = some (.inl w) → ∃ w m', f11_count m y = some (w, m') ∧ QP r T m sg m' ∧ (f10_count sx st sh sv sr y = some (.inl w) ∧ m'.1 2 = 0 ∨ ∃ j, f10_count sx st sh sv sr y = some (.inr j) ∧ m'.1 2 = kfN j) := fun w q1 q2 => ⟨w, _, q1, qp, .inl ⟨q2, sS_1e _ _ _⟩⟩
  by_cases y0 : y = 0
  · subst y0
    refine fin (nI T.H) ?_ ?_
    · unfold f11_count
      rw [Option.bind_some, if_pos rfl, show ldO 8 ((sS m 2 0).2 3) 0 = some ((sS m 2 0).2 3 0) from ldO_n (i := 0) _ (by decide) (by decide), h1.eH, Option.bind_some]
    · unfold f10_count
      rw [if_pos rfl, h.ct.eH, wI_s]
  by_cases y1 : y = 1
  · subst y1
    refine fin (nI T.L) ?_ ?_
    · unfold f11_count
      rw [Option.bind_some, if_neg y0, if_pos rfl, show ldO 8 ((sS m 2 0).2 3) 1 = some ((sS m 2 0).2 3 1) from ldO_n (i := 1) _ (by decide) (by decide), h1.eL, Option.bind_some]
    · unfold f10_count
      rw [if_neg y0, if_pos rfl, h.ct.eL, wI_s]
  by_cases y2 : y = 2
  · subst y2
    obtain ⟨x, a1, a2⟩ := C_singletons h.ct
    have hal : aloneN T ≤ T.L := fb_ct_le _ _
    refine fin (nI ((T.L - aloneN T) / 2)) ?_ ?_
    · unfold f11_count
      rw [Option.bind_some, if_neg y0, if_neg y1, if_pos rfl, show ldO 8 ((sS m 2 0).2 3) 2 = some ((sS m 2 0).2 3 2) from ldO_n (i := 2) _ (by decide) (by decide), show (sS m 2 0).2 3 2 = _ from h.tws, Option.bind_some]
    · unfold f10_count
      rw [if_neg y0, if_neg y1, if_pos rfl, a1, Option.bind_some, bitCount_Bm a2 (by omega), Option.bind_some, h.ct.eL]
      show wI (some ((nI T.L - nI (aloneN T)) / 2)) = _
      rw [pk_sub hal, show (2 : Int32) = nI 2 from rfl, pk_div (by omega) (by decide) (by decide), wI_s]
  by_cases y3 : y = 3
  · subst y3
    refine fin (nI T.o) ?_ ?_
    · unfold f11_count
      rw [Option.bind_some, if_neg y0, if_neg y1, if_neg y2, if_pos rfl, h1.eo]
    · unfold f10_count
      rw [if_neg y0, if_neg y1, if_neg y2, if_pos rfl, h.ct.eo, wI_s]
  by_cases y4 : y = 4
  · subst y4
    refine fin (m.1 29) ?_ ?_
    · unfold f11_count
      rw [Option.bind_some, if_neg y0, if_neg y1, if_neg y2, if_neg y3, if_pos rfl]
      rfl
    · unfold f10_count
      rw [if_neg y0, if_neg y1, if_neg y2, if_neg y3, if_pos rfl, h.ct.eli.uniq h.mt.eli, wI_s]
  by_cases y5 : y = 5
  · subst y5
    refine fin (m.1 30) ?_ ?_
    · unfold f11_count
      rw [Option.bind_some, if_neg y0, if_neg y1, if_neg y2, if_neg y3, if_neg y4, if_pos rfl]
      rfl
    · unfold f10_count
      rw [if_neg y0, if_neg y1, if_neg y2, if_neg y3, if_neg y4, if_pos rfl, h.ct.ebr.uniq h.mt.ebr, wI_s]
  by_cases y6 : y = 6
  · subst y6
    refine fin (nI (fb_sm T.oi T.L)) ?_ ?_
    · unfold f11_count
      rw [Option.bind_some, if_neg y0, if_neg y1, if_neg y2, if_neg y3, if_neg y4, if_neg y5, if_pos rfl, M_allOil h1, Option.bind_some]
    · unfold f10_count
      rw [if_neg y0, if_neg y1, if_neg y2, if_neg y3, if_neg y4, if_neg y5, if_pos rfl, C_oilInAll h.ct, Option.bind_some, wI_s]
  by_cases y7 : y = 7
  · subst y7
    obtain ⟨x, a1, a2⟩ := C_singletons h.ct
    obtain ⟨x', b1, b2⟩ := M_alone h1
    refine fin x' ?_ ?_
    · unfold f11_count
      rw [Option.bind_some, if_neg y0, if_neg y1, if_neg y2, if_neg y3, if_neg y4, if_neg y5, if_neg y6, if_pos rfl, b1, Option.bind_some]
    · unfold f10_count
      rw [if_neg y0, if_neg y1, if_neg y2, if_neg y3, if_neg y4, if_neg y5, if_neg y6, if_pos rfl, a1, Option.bind_some, wI_s, a2.uniq b2]
  by_cases y8 : y = 8
  · subst y8
    obtain ⟨x, a1, a2⟩ := C_happyLamps h.ct
    obtain ⟨x', b1, b2⟩ := M_happy h1
    refine fin x' ?_ ?_
    · unfold f11_count
      rw [Option.bind_some, if_neg y0, if_neg y1, if_neg y2, if_neg y3, if_neg y4, if_neg y5, if_neg y6, if_neg y7, if_pos rfl, b1, Option.bind_some]
    · unfold f10_count
      rw [if_neg y0, if_neg y1, if_neg y2, if_neg y3, if_neg y4, if_neg y5, if_neg y6, if_neg y7, if_pos rfl, a1, Option.bind_some, wI_s, a2.uniq b2]
  by_cases y9 : y = 9
  · subst y9
    obtain ⟨m', b1, b2⟩ := M_groups h1
    have hf : Fr sS1 sA1 (sS m 2 0) m' := b2.mono (by decide) (by decide)
    refine ⟨nI (grN T), m', ?_, ⟨h.cr, h1.fr b2, fr2' hf⟩, .inl ⟨?_, z2 hf⟩⟩
    · unfold f11_count
      rw [Option.bind_some, if_neg y0, if_neg y1, if_neg y2, if_neg y3, if_neg y4, if_neg y5, if_neg y6, if_neg y7, if_neg y8, if_pos rfl, b1, Option.bind_some]
    · unfold f10_count
      rw [if_neg y0, if_neg y1, if_neg y2, if_neg y3, if_neg y4, if_neg y5, if_neg y6, if_neg y7, if_neg y8, if_pos rfl, C_groups h.ct, Option.bind_some, wI_s]
  by_cases y10 : y = 10
  · subst y10
    obtain ⟨x, a1, a2⟩ := C_awakeHouses h.ct (o := T.o % 24) (by omega)
    obtain ⟨x', b1, b2⟩ := M_awakeNow h1
    refine fin x' ?_ ?_
    · unfold f11_count
      rw [Option.bind_some, if_neg y0, if_neg y1, if_neg y2, if_neg y3, if_neg y4, if_neg y5, if_neg y6, if_neg y7, if_neg y8, if_neg y9, if_pos rfl, b1, Option.bind_some]
    · unfold f10_count
      rw [if_neg y0, if_neg y1, if_neg y2, if_neg y3, if_neg y4, if_neg y5, if_neg y6, if_neg y7, if_neg y8, if_neg y9, if_pos rfl, h.ct.eo, m24 (by omega), a1, Option.bind_some, wI_s, a2.uniq b2]
  by_cases y11 : y = 11
  · subst y11
    refine fin (nI k) ?_ ?_
    · unfold f11_count
      rw [Option.bind_some, if_neg y0, if_neg y1, if_neg y2, if_neg y3, if_neg y4, if_neg y5, if_neg y6, if_neg y7, if_neg y8, if_neg y9, if_neg y10, if_pos rfl, show (sS m 2 0).1 31 = nI k from h.mh.1]
    · unfold f10_count
      rw [if_neg y0, if_neg y1, if_neg y2, if_neg y3, if_neg y4, if_neg y5, if_neg y6, if_neg y7, if_neg y8, if_neg y9, if_neg y10, if_pos rfl, h.ch.2.1, wI_s]
  by_cases y12 : y = 12
  · subst y12
    refine fin (nI V.1) ?_ ?_
    · unfold f11_count
      rw [Option.bind_some, if_neg y0, if_neg y1, if_neg y2, if_neg y3, if_neg y4, if_neg y5, if_neg y6, if_neg y7, if_neg y8, if_neg y9, if_neg y10, if_neg y11, if_pos rfl, show (sS m 2 0).1 32 = nI V.1 from h.mv.1]
    · unfold f10_count
      rw [if_neg y0, if_neg y1, if_neg y2, if_neg y3, if_neg y4, if_neg y5, if_neg y6, if_neg y7, if_neg y8, if_neg y9, if_neg y10, if_neg y11, if_pos rfl, h.cv.2.1, wI_s]
  by_cases y13 : y = 13
  · subst y13
    obtain ⟨n, n1, n2, n3, n4⟩ := h.tape
    refine fin (nI n) ?_ ?_
    · unfold f11_count
      rw [Option.bind_some, if_neg y0, if_neg y1, if_neg y2, if_neg y3, if_neg y4, if_neg y5, if_neg y6, if_neg y7, if_neg y8, if_neg y9, if_neg y10, if_neg y11, if_neg y12, if_pos rfl, show (sS m 2 0).1 13 = nI n from n3]
    · unfold f10_count
      rw [if_neg y0, if_neg y1, if_neg y2, if_neg y3, if_neg y4, if_neg y5, if_neg y6, if_neg y7, if_neg y8, if_neg y9, if_neg y10, if_neg y11, if_neg y12, if_pos rfl, n2, wI_s]
  by_cases y14 : y = 14
  · subst y14
    refine fin (m.2 11 0) ?_ ?_
    · unfold f11_count
      rw [Option.bind_some, if_neg y0, if_neg y1, if_neg y2, if_neg y3, if_neg y4, if_neg y5, if_neg y6, if_neg y7, if_neg y8, if_neg y9, if_neg y10, if_neg y11, if_neg y12, if_neg y13, if_pos rfl, show (14 : Int32) - 14 = nI 0 from by decide +kernel, ldO_n _ (by decide) (by decide), Option.bind_some]
      rfl
    · unfold f10_count
      rw [if_neg y0, if_neg y1, if_neg y2, if_neg y3, if_neg y4, if_neg y5, if_neg y6, if_neg y7, if_neg y8, if_neg y9, if_neg y10, if_neg y11, if_neg y12, if_neg y13, if_pos rfl, cl_0, h.sta 0 (by decide), wI_s]
  by_cases y15 : y = 15
  · subst y15
    refine fin (m.2 11 1) ?_ ?_
    · unfold f11_count
      rw [Option.bind_some, if_neg y0, if_neg y1, if_neg y2, if_neg y3, if_neg y4, if_neg y5, if_neg y6, if_neg y7, if_neg y8, if_neg y9, if_neg y10, if_neg y11, if_neg y12, if_neg y13, if_neg y14, if_pos rfl, show (15 : Int32) - 14 = nI 1 from by decide +kernel, ldO_n _ (by decide) (by decide), Option.bind_some]
      rfl
    · unfold f10_count
      rw [if_neg y0, if_neg y1, if_neg y2, if_neg y3, if_neg y4, if_neg y5, if_neg y6, if_neg y7, if_neg y8, if_neg y9, if_neg y10, if_neg y11, if_neg y12, if_neg y13, if_neg y14, if_pos rfl, cl_1, h.sta 1 (by decide), wI_s]
  by_cases y16 : y = 16
  · subst y16
    refine fin (m.2 11 2) ?_ ?_
    · unfold f11_count
      rw [Option.bind_some, if_neg y0, if_neg y1, if_neg y2, if_neg y3, if_neg y4, if_neg y5, if_neg y6, if_neg y7, if_neg y8, if_neg y9, if_neg y10, if_neg y11, if_neg y12, if_neg y13, if_neg y14, if_neg y15, if_pos rfl, show (16 : Int32) - 14 = nI 2 from by decide +kernel, ldO_n _ (by decide) (by decide), Option.bind_some]
      rfl
    · unfold f10_count
      rw [if_neg y0, if_neg y1, if_neg y2, if_neg y3, if_neg y4, if_neg y5, if_neg y6, if_neg y7, if_neg y8, if_neg y9, if_neg y10, if_neg y11, if_neg y12, if_neg y13, if_neg y14, if_neg y15, if_pos rfl, cl_2, h.sta 2 (by decide), wI_s]
  refine ⟨0, sS (sS m 2 0) 2 1, ?_, ⟨h.cr, h.mt.s2k _, fr2k m _⟩, .inr ⟨1, ?_, sS_1e _ _ _⟩⟩
  · unfold f11_count
    rw [Option.bind_some, if_neg y0, if_neg y1, if_neg y2, if_neg y3, if_neg y4, if_neg y5, if_neg y6, if_neg y7, if_neg y8, if_neg y9, if_neg y10, if_neg y11, if_neg y12, if_neg y13, if_neg y14, if_neg y15, if_neg y16]
    rfl
  · unfold f10_count
    rw [if_neg y0, if_neg y1, if_neg y2, if_neg y3, if_neg y4, if_neg y5, if_neg y6, if_neg y7, if_neg y8, if_neg y9, if_neg y10, if_neg y11, if_neg y12, if_neg y13, if_neg y14, if_neg y15, if_neg y16]
end
