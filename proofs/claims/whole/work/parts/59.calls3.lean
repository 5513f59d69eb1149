/-! the busiest hour, winters: both answers -/
def wbA (r : RU) (T : TW) (o : Nat) : Nat := fb_ct (fun l => T.al l o && wn r T l o) T.L
def wiN (r : RU) (T : TW) (s : Int32) : Nat → Int32 × TW
  | 0 => (s, T)
  | i + 1 => ((bfT (wiN r T s i).1 (wiN r T s i).2).1, hrT r (bfT (wiN r T s i).1 (wiN r T s i).2).2)
section
variable {T U : TW} {t t2 m g e d sx : St} {r : RU}
theorem C_wanted (h : RcT T t) (hg : RcR r.1 r.2 g) (hok : okR r.1 r.2) (sx : St) {o : Nat} (ho : o < 24) : ∃ g', f10_wantedByAwake sx t g (nI o) = some (nI (wbA r T o), g') ∧ RcR r.1 r.2 g' := by
  have hL := h.W.L12
  obtain ⟨q, h1, h2, h3⟩ := lpw_R (F := f10_wantedByAwake_L1 t (nI o)) (fun i s => s.1 = nI (fb_ct (fun l => T.al l o && wn r T l o) i) ∧ s.2.1 = nI i ∧ RcR r.1 r.2 s.2.2) (fun q => q.1 = nI (wbA r T o) ∧ RcR r.1 r.2 q.2) T.L (s := (0, 0, g)) (by
    rintro i ⟨a, j, g⟩ hi ⟨rfl, rfl, hg⟩
    dsimp only at hg
    have hh := h.W.hoH hi
    unfold f10_wantedByAwake_L1
    dsimp only
    rw [h.eL, if_neg (nI_ge hi (by omega)), ldO_n _ (by omega) (by omega), h.eho hi, Option.bind_some, show f9_isAwake t (nI (T.ho i)) (nI o) = some (T.al i o) from C_isAwake h hh (by omega), Option.bind_some]
    simp only [ifz]
    rw [fb_ct_succ]
    cases hal : T.al i o with
    | false =>
      rw [if_neg (by decide), Option.bind_some, nI_1]
      exact ⟨_, rfl, rfl, rfl, hg⟩
    | true =>
      obtain ⟨g2, h6, h7⟩ := C_wants h hg hok hi ho
      rw [if_pos rfl, h6, Option.bind_some, Bool.true_and]
      dsimp only
      cases hw : wn r T i o with
      | false =>
        rw [if_neg (by decide), Option.bind_some, nI_1]
        exact ⟨_, rfl, rfl, rfl, h7⟩
      | true =>
        rw [if_pos rfl, Option.bind_some, nI_1, nI_1, if_pos rfl]
        exact ⟨_, rfl, rfl, rfl, h7⟩) (by
    rintro ⟨a, j, g⟩ ⟨rfl, rfl, hg⟩
    refine ⟨(nI (wbA r T o), g), ?_, rfl, hg⟩
    unfold f10_wantedByAwake_L1
    dsimp only
    rw [h.eL, if_pos (Int32.le_refl _)]
    rfl) ⟨rfl, rfl, hg⟩
  refine ⟨q.2, ?_, h3⟩
  unfold f10_wantedByAwake
  rw [h1, Option.bind_some, h2]
theorem wbA_12 (h : WfT T) (o : Nat) : wbA r T o ≤ 12 := Nat.le_trans (fb_ct_le _ _) h.L12
theorem Q_busiest (h : RcT T t) (h' : RmT T m) (hg : RcR r.1 r.2 g) (hR : RmR r.1 r.2 m) (hok : okR r.1 r.2) (sx : St) (y : Int32) : Agr (f10_busiest sx t g y) kfN (f11_busiest m y) g (fun s m' => QP r T m s m') := by
  have hL := h.W.L12
  obtain ⟨A, hA, hA0, hA1⟩ := amX_ex (wbA r T)
  have hA2 : ∀ i, (A i).2 ≤ 12 := fun i => by rw [hA]; exact amX_le _ (wbA_12 h.W) i
  have hA01 : (A 0).1 = none := by rw [hA0]
  have hA02 : (A 0).2 = 0 := by rw [hA0]
  obtain ⟨q, c1, c2, c3, c4⟩ := lpw_R (F := f10_busiest_L2 sx t) (fun i s => s.1 = eT (A i).1 ∧ s.2.1 = nI (A i).2 ∧ s.2.2.1 = nI i ∧ RcR r.1 r.2 s.2.2.2) (fun q => q.1 = eT (A 24).1 ∧ q.2.1 = nI (A 24).2 ∧ RcR r.1 r.2 q.2.2) 24 (s := (-1, 0, 0, g)) (by
    rintro i ⟨b, v, j, g⟩ hi ⟨rfl, rfl, rfl, hg⟩
    obtain ⟨g2, d1, d2⟩ := C_wanted h hg hok sx hi
    have b1 := wbA_12 (r := r) h.W i
    have b2 := hA2 i
    unfold f10_busiest_L2
    dsimp only
    rw [if_neg (show ¬ (24 : Int32) ≤ nI i from nI_ge hi (by decide)), d1, Option.bind_some]
    simp (disch := omega) only [nI_leI]
    by_cases z : (A i).2 < wbA r T i
    · rw [if_neg (by omega), Option.bind_some, nI_1]
      have e9 : A (i + 1) = (some i, wbA r T i) := (hA1 i).trans (if_pos z)
      rw [e9]
      exact ⟨_, rfl, rfl, rfl, rfl, d2⟩
    · rw [if_pos (by omega), Option.bind_some, nI_1]
      have e9 : A (i + 1) = A i := (hA1 i).trans (if_neg z)
      rw [e9]
      exact ⟨_, rfl, rfl, rfl, rfl, d2⟩) (by
    rintro ⟨b, v, j, g⟩ ⟨rfl, rfl, rfl, hg⟩
    exact ⟨_, if_pos (Int32.le_refl _), rfl, rfl, hg⟩) ⟨by rw [hA01]; rfl, by rw [hA02]; rfl, rfl, hg⟩
  obtain ⟨q2, a1, a2, a3, a4⟩ := lpw_R (F := f11_busiest_L3) (fun i s => s.1 = eT (A i).1 ∧ s.2.1 = nI (A i).2 ∧ s.2.2.1 = nI i ∧ Fr [] [33, 34] (sS m 2 0) s.2.2.2) (fun q => q.1 = eT (A 24).1 ∧ q.2.1 = nI (A 24).2 ∧ Fr [] [33, 34] (sS m 2 0) q.2.2) 24 (s := (-1, 0, 0, sS m 2 0)) (by
    rintro i ⟨b, v, j, q⟩ hi ⟨rfl, rfl, rfl, hf⟩
    dsimp only at hf
    have b1 := wbA_12 (r := r) h.W i
    have b2 := hA2 i
    obtain ⟨p, d1, d2, d3⟩ := lpw_R (F := f11_busiest_L5 (eT (A i).1, nI (A i).2, nI i, q)) (fun l s => s.1 = nI (fb_ct (fun l => T.al l i && wn r T l i) l) ∧ s.2.1 = nI l ∧ Fr [] [33, 34] (sS m 2 0) s.2.2) (fun p => p.1 = nI (wbA r T i) ∧ Fr [] [33, 34] (sS m 2 0) p.2) T.L (s := (0, 0, q)) (by
      rintro l ⟨a, j, q⟩ hl ⟨rfl, rfl, hf⟩
      dsimp only at hf
      have hq := h'.s2.fr hf
      have hh := h.W.hoH hl
      unfold f11_busiest_L5
      dsimp only
      rw [cl_1, hq.eL, if_neg (nI_ge hl (by omega)), ldO_n _ (by omega) (by omega), hq.eho hl, Option.bind_some, show f11_isAwake q (nI (T.ho l)) (nI i) = some (T.al l i) from M_isAwake hq hh (by omega), Option.bind_some]
      simp only [ifz]
      rw [fb_ct_succ]
      cases hal : T.al l i with
      | false =>
        rw [if_neg (by decide), Option.bind_some, nI_1, zB_nI, nI_add]
        exact ⟨_, rfl, rfl, rfl, hf⟩
      | true =>
        obtain ⟨q3, h6, h7⟩ := M_wants (r := r) hq (hR.s2.fr hf) hok hl hi
        rw [if_pos rfl, h6, Option.bind_some, Bool.true_and]
        dsimp only
        cases hw : wn r T l i with
        | false =>
          rw [if_neg (by decide), Option.bind_some, nI_1, zB_nI, nI_add]
          exact ⟨_, rfl, rfl, rfl, hf.trans h7⟩
        | true =>
          rw [if_pos rfl, Option.bind_some, nI_1, zB_nI, nI_add]
          exact ⟨_, rfl, rfl, rfl, hf.trans h7⟩) (by
      rintro ⟨a, j, q⟩ ⟨rfl, rfl, hf⟩
      refine ⟨(nI (wbA r T i), q), ?_, rfl, hf⟩
      unfold f11_busiest_L5
      dsimp only
      rw [cl_1, (h'.s2.fr hf).eL, if_pos (Int32.le_refl _)]
      rfl) ⟨rfl, rfl, hf⟩
    unfold f11_busiest_L3
    dsimp only
    rw [if_neg (show ¬ (24 : Int32) ≤ nI i from nI_ge hi (by decide)), d1, Option.bind_some, d2]
    simp (disch := omega) only [nI_ltI]
    by_cases z : (A i).2 < wbA r T i
    · rw [if_pos z, Option.bind_some, nI_1]
      have e9 : A (i + 1) = (some i, wbA r T i) := (hA1 i).trans (if_pos z)
      rw [e9]
      exact ⟨_, rfl, rfl, rfl, rfl, d3⟩
    · rw [if_neg z, Option.bind_some, nI_1]
      have e9 : A (i + 1) = A i := (hA1 i).trans (if_neg z)
      rw [e9]
      exact ⟨_, rfl, rfl, rfl, rfl, d3⟩) (by
    rintro ⟨b, v, j, q⟩ ⟨rfl, rfl, rfl, hf⟩
    exact ⟨_, if_pos (Int32.le_refl _), rfl, rfl, hf⟩) ⟨by rw [hA01]; rfl, by rw [hA02]; rfl, rfl, Fr.refl _ _ _⟩
  have hf1 : Fr sS1 sA1 (sS m 2 0) q2.2.2 := a4.mono (by decide) (by decide)
  by_cases y0 : y = 0
  · subst y0
    refine ⟨eT (A 24).1, q2.2.2, ?_, .inl ⟨q.2.2, ?_, z2 hf1, c4, h'.s2.fr a4, fr2' hf1⟩⟩
    · unfold f11_busiest
      rw [Option.bind_some, if_neg (by decide), if_pos (by decide), a1, Option.bind_some, if_pos rfl, a2]
    · unfold f10_busiest f10_needHourOrMany
      rw [if_pos rfl, wI_s, xB_i, c1, Option.bind_some, if_pos rfl, wI_s, c2]
  · by_cases y1 : y = 1
    · subst y1
      refine ⟨nI (A 24).2, q2.2.2, ?_, .inl ⟨q.2.2, ?_, z2 hf1, c4, h'.s2.fr a4, fr2' hf1⟩⟩
      · unfold f11_busiest
        rw [Option.bind_some, if_neg (by decide), if_pos (by decide), a1, Option.bind_some, if_neg (by decide), a3]
      · unfold f10_busiest f10_needHourOrMany
        rw [if_neg (by decide), if_pos rfl, wI_s, xB_i, c1, Option.bind_some, if_neg (by decide), wI_s, c3]
    · refine AgrX (m := m) 1 (by unfold f10_busiest f10_needHourOrMany; rw [if_neg y0, if_neg y1, xB_o]) ?_ ⟨hg, h'.s2k _, fr2k m _⟩
      unfold f11_busiest
      rw [Option.bind_some]
      by_cases z : y < 0
      · rw [if_pos z]
        rfl
      · rw [if_neg z, if_neg ?_]
        · rfl
        · intro z2
          rcases pk_ix y (n := 2) (by decide) with q | q | ⟨j, q, rfl⟩
          · exact z q
          · have h1 := (fa_le _ _).1 z2
            have h2 := (fa_le _ _).1 q
            rw [show (nI 2).toInt = 2 from by decide +kernel] at h2
            rw [show (1 : Int32).toInt = 1 from by decide +kernel] at h1
            omega
          · match j, q with
            | 0, _ => exact y0 rfl
            | 1, _ => exact y1 rfl
            | j + 2, q => omega
theorem wi_ok (h : WfT T) (hli : LiO T) (s : Int32) (i : Nat) : (wiN r T s i).2.H = T.H ∧ (wiN r T s i).2.L = T.L ∧ (wiN r T s i).2.ki = T.ki ∧ (wiN r T s i).2.tw = T.tw ∧ (wiN r T s i).2.ho = T.ho ∧ (wiN r T s i).2.o = T.o + i ∧ LiO (wiN r T s i).2 := by
  induction i with
  | zero => exact ⟨rfl, rfl, rfl, rfl, rfl, rfl, hli⟩
  | succ i ih =>
    obtain ⟨a1, a2, a3, a4, a5, a6, a7⟩ := ih
    obtain ⟨b1, b2, b3, b4, b5, b6⟩ := bf_st (T := (wiN r T s i).2) (wiN r T s i).1
    refine ⟨b1.trans a1, b2.trans a2, b3.trans a3, b4.trans a4, b6.trans a5, ?_, LiO_hr (LiO_bf a7 _)⟩
    show (bfT (wiN r T s i).1 (wiN r T s i).2).2.o + 1 = _
    rw [b5, a6]
    omega
theorem Q_winter (h : RcT T t) (h' : RmT T m) (hg : RcR r.1 r.2 g) (hR : RmR r.1 r.2 m) (hok : okR r.1 r.2) (hli : LiO T) (ho : T.o < 10000) (t2 e d sx : St) (y1 y2 y3 : Int32) : Agr (f10_winter sx t t2 e g d y1 y2 y3) kfN (f11_winter m y1 y2 y3) (t2, e, g, d) (fun s m' => QP r T m s.2.2.1 m') := by
  have hL := h.W.L12
  rcases rangeCase 0 2 (by decide) (by decide) y3 with ⟨e1, e2⟩ | ⟨w, w1, w2, rfl, e1⟩
  · refine AgrX (m := m) 1 ?_ ?_ ⟨hg, h'.s2k _, fr2k m _⟩
    · unfold f10_winter
      rcases e2 with e2 | ⟨e2, e3⟩
      · exact if_pos e2
      · rw [if_neg (show ¬ y3 < 0 from e2), if_neg (show ¬ y3 ≤ 2 from e3)]
    · unfold f11_winter
      rw [Option.bind_some, show f11_isIn y3.toInt64 0 2 = some false from e1, Option.bind_some, if_pos zB_f]
      rfl
  · have w3 : ¬ nI w < 0 := nI_pos (by omega)
    have w4 : nI w ≤ 2 := nI_le (b := 2) w2 (by decide)
    rcases aheadCase y2 with ⟨e3, e4⟩ | ⟨n, hn, rfl, e3, e4⟩
    · refine AgrX (m := m) 0 (by unfold f10_winter; rw [if_neg w3, if_pos w4, e3, xB_o]) ?_ ⟨hg, h'.s2k _, fr2k m _⟩
      unfold f11_winter
      rw [Option.bind_some, show f11_isIn (nI w).toInt64 0 2 = some true from e1, Option.bind_some, if_neg (by decide), e4, Option.bind_some, if_pos zB_f]
      rfl
    · obtain ⟨t1, c1, c2⟩ := C_copyFrom t2 t
      have hok2 := fun i => wi_ok (r := r) h.W hli y1 i
      obtain ⟨q, c3, c4, c5, c6⟩ := lpw_R (F := f10_winter_L4 (nI n)) (fun i s => s.1 = nI (fb_sm (fun i => fb_ct (cMp r (bfT (wiN r T y1 i).1 (wiN r T y1 i).2).2) T.L) i) ∧ s.2.1 = nI i ∧ RcT (wiN r T y1 i).2 s.2.2.1 ∧ RcR r.1 r.2 s.2.2.2.2.1 ∧ s.2.2.2.2.2.1 0 = (wiN r T y1 i).1) (fun q => q.1 = nI (fb_sm (fun i => fb_ct (cMp r (bfT (wiN r T y1 i).1 (wiN r T y1 i).2).2) T.L) n) ∧ RcT (wiN r T y1 n).2 q.2.1 ∧ RcR r.1 r.2 q.2.2.2.1) n (s := (0, 0, t1, e, g, sS d 0 y1)) (by
        rintro i ⟨a, j, t, e, g, d⟩ hi ⟨rfl, rfl, ht, hg, hd⟩
        dsimp only at ht hg hd
        obtain ⟨d', t', d1, d2, d3⟩ := C_befall ht d
        obtain ⟨a1, a2, a3, a4, a5, a6, a7⟩ := hok2 i
        obtain ⟨b1, b2, b3, b4, b5, b6⟩ := bf_st (T := (wiN r T y1 i).2) (wiN r T y1 i).1
        rw [hd] at d2 d3
        obtain ⟨e', g', t3, f1, f2, f3, f4, f5, f6⟩ := C_passHour (e := e) d3 (LiO_bf a7 _) hg hok (by rw [b5, a6]; omega)
        rw [b2, a2] at f5
        unfold f10_winter_L4
        dsimp only
        rw [if_neg (nI_ge hi (by omega)), d1, Option.bind_some, f1, Option.bind_some, bitCount_Bm f5 (by omega), Option.bind_some, nI_add, nI_1]
        exact ⟨_, rfl, rfl, rfl, f3, f2, d2⟩) (by
        rintro ⟨a, j, t, e, g, d⟩ ⟨rfl, rfl, ht, hg, hd⟩
        exact ⟨_, if_pos (Int32.le_refl _), rfl, ht, hg⟩) ⟨rfl, rfl, c2 T h, hg, rfl⟩
      obtain ⟨f, p1, p2, p3⟩ := M_trial h'.s2
      have hRf : RmR r.1 r.2 (sA (sS m 2 0) 39 f) := (hR.s2).fr (Fr.sA (S := []) (A := [39]) _ 39 f (by decide))
      obtain ⟨q2, a1, a2, a3, a4⟩ := lpw_R (F := f11_winter_L6 (nI n)) (fun i s => s.1 = nI (fb_sm (fun i => fb_ct (cMp r (bfT (wiN r T y1 i).1 (wiN r T y1 i).2).2) T.L) i) ∧ s.2.1 = nI i ∧ RmT (wiN r T y1 i).2 s.2.2 ∧ Fr [28, 29, 30, 35, 36, 48] [23, 33, 34, 37] (sA (sS m 2 0) 39 f) s.2.2 ∧ s.2.2.1 48 = (wiN r T y1 i).1) (fun q => q.1 = nI (fb_sm (fun i => fb_ct (cMp r (bfT (wiN r T y1 i).1 (wiN r T y1 i).2).2) T.L) n) ∧ RmT (wiN r T y1 n).2 q.2 ∧ Fr [28, 29, 30, 35, 36, 48] [23, 33, 34, 37] (sA (sS m 2 0) 39 f) q.2) n (s := (0, 0, sS (sA (sS m 2 0) 39 f) 48 y1)) (by
        rintro i ⟨a, j, q⟩ hi ⟨rfl, rfl, ht, hf, hd⟩
        dsimp only at ht hf hd
        obtain ⟨q3, d1, d2, d3, d4⟩ := M_something ht
        obtain ⟨a1, a2, a3, a4, a5, a6, a7⟩ := hok2 i
        obtain ⟨b1, b2, b3, b4, b5, b6⟩ := bf_st (T := (wiN r T y1 i).2) (wiN r T y1 i).1
        rw [hd] at d2 d3
        have hf2 : Fr [28, 29, 30, 35, 36, 48] [23, 33, 34, 37] (sA (sS m 2 0) 39 f) q3 := hf.trans (d4.mono (by decide) (by decide))
        obtain ⟨q4, f1, f2, f3, f4, f5, f6⟩ := M_anHour (r := r) d3 (LiO_bf a7 _) (hRf.fr hf2) hok (by rw [b5, a6]; omega)
        have hf3 := hf2.trans (f2.mono (S' := [28, 29, 30, 35, 36, 48]) (A' := [23, 33, 34, 37]) (by decide) (by decide))
        have f7 := M_allGrief f3 (p := cMp r (bfT (wiN r T y1 i).1 (wiN r T y1 i).2).2) f6
        have f8 : f11_allGrief q4 = some (nI (fb_ct (cMp r (bfT (wiN r T y1 i).1 (wiN r T y1 i).2).2) T.L)) := by
          rw [f7]
          show some (nI (fb_ct _ (bfT (wiN r T y1 i).1 (wiN r T y1 i).2).2.L)) = _
          rw [b2, a2]
        unfold f11_winter_L6
        dsimp only
        rw [if_neg (nI_ge hi (by omega)), d1, Option.bind_some, f1, Option.bind_some, f8, Option.bind_some, nI_add, nI_1]
        exact ⟨_, rfl, rfl, rfl, f3, hf3, (f2.1 48 (by decide)).trans d2⟩) (by
        rintro ⟨a, j, q⟩ ⟨rfl, rfl, ht, hf, hd⟩
        exact ⟨_, if_pos (Int32.le_refl _), rfl, ht, hf⟩) ⟨rfl, rfl, p2.fr (Fr.sS (S := [48]) (A := []) _ 48 y1 (by decide)), Fr.sS _ 48 y1 (by decide), rfl⟩
      obtain ⟨a1', a2', a3', a4', a5', a6', a7'⟩ := hok2 n
      obtain ⟨m3, g1, g2, g3, g4⟩ := p3 _ q2.2 a3 ⟨a1', a2', a3', a4'⟩ a4
      have hb1 : fJ6_bitCount (q.2.1.1 3) = some (nI (fb_ct (wiN r T y1 n).2.li T.L)) := by
        have := c5.eli
        rw [a2'] at this
        exact bitCount_Bm this (by omega)
      have hb2 : fJ6_bitCount (q.2.1.1 4) = some (nI (fb_ct (wiN r T y1 n).2.br T.L)) := by
        have := c5.ebr
        rw [a2'] at this
        exact bitCount_Bm this (by omega)
      have hm1 : f11_bitsOf (q2.2.1 29) = some (nI (fb_ct (wiN r T y1 n).2.li T.L)) := by
        have := a3.eli
        rw [a2'] at this
        exact bitsOf_Bm this (by omega)
      have hm2 : f11_bitsOf (q2.2.1 30) = some (nI (fb_ct (wiN r T y1 n).2.br T.L)) := by
        have := a3.ebr
        rw [a2'] at this
        exact bitsOf_Bm this (by omega)
      have hw : w = 0 ∨ w = 1 ∨ w = 2 := by omega
      refine ⟨if w = 0 then q2.1 else if w = 1 then nI (fb_ct (wiN r T y1 n).2.li T.L) else nI (fb_ct (wiN r T y1 n).2.br T.L), m3, ?_, .inl ⟨(q.2.1, q.2.2.1, q.2.2.2.1, q.2.2.2.2), ?_, z2 g3, c6, g2, fr2' g3⟩⟩
      · unfold f11_winter
        rw [Option.bind_some, show f11_isIn (nI w).toInt64 0 2 = some true from e1, Option.bind_some, if_neg (by decide), e4, Option.bind_some, if_neg (by decide), p1, Option.bind_some, Option.bind_some, a1, Option.bind_some, hm1, hm2]
        clear c3 c4 c5 c6 hb1 hb2 hm1 hm2 a1 a2 a3 a4 e1
        rcases hw with rfl | rfl | rfl
        · rw [if_pos (by decide), if_pos rfl, Option.bind_some, g1, Option.bind_some]
        · rw [if_neg (by decide), if_pos (by decide), if_neg (by decide), if_pos rfl, Option.bind_some, Option.bind_some, g1, Option.bind_some]
        · rw [if_neg (by decide), if_neg (by decide), if_neg (by decide), if_neg (by decide), Option.bind_some, Option.bind_some, g1, Option.bind_some]
      · unfold f10_winter
        rw [if_neg w3, if_pos w4, e3, xB_i, c1, Option.bind_some, Option.bind_some, c3, Option.bind_some]
        clear c3 c5 c6 hm1 hm2 a1 a3 a4 e1
        rcases hw with rfl | rfl | rfl
        · rw [if_pos (by decide), if_pos rfl, wI_s, a2, c4]
        · rw [if_neg (by decide), if_pos (by decide), if_neg (by decide), if_pos rfl, Option.bind_some, hb1, Option.bind_some, wI_s]
        · rw [if_neg (by decide), if_neg (by decide), if_neg (by decide), if_neg (by decide), Option.bind_some, hb2, Option.bind_some, wI_s]
end
