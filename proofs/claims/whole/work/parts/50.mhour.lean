/-! the reference's hour -/
section
variable {T : TW} {m : St} {r : RU}
theorem wn_li (f : Nat → Bool) (l o : Nat) : wn r (T.sLi f) l o = wn r T l o := rfl
theorem M_flickAll (h : RmT T m) (hR : RmR r.1 r.2 m) (hok : okR r.1 r.2) {o : Nat} (ho : o < 24) : ∃ m', f11_flickAll m (nI o) = some m' ∧ Fr [29, 35] [33, 34] m m' ∧ m'.1 35 = nI (T.flN (fun l => wn r T l o) o T.L).2.2 ∧ RmT (T.sLi (T.flN (fun l => wn r T l o) o T.L).1) m' := by
  have hL := h.W.L12
  obtain ⟨q, h1, h2⟩ := lpw_R (F := f11_flickAll_L2 (nI o)) (fun i s => Bm T.L (T.flN (fun l => wn r T l o) o i).2.1 s.1 ∧ s.2.1 = nI i ∧ Fr [29, 35] [33, 34] m s.2.2 ∧ s.2.2.1 35 = nI (T.flN (fun l => wn r T l o) o i).2.2 ∧ RmT (T.sLi (T.flN (fun l => wn r T l o) o i).1) s.2.2) (fun q => Fr [29, 35] [33, 34] m q ∧ q.1 35 = nI (T.flN (fun l => wn r T l o) o T.L).2.2 ∧ RmT (T.sLi (T.flN (fun l => wn r T l o) o T.L).1) q) T.L (s := (0, 0, sS m 35 0)) (by
    rintro i ⟨f, j, m1⟩ hi ⟨hf, rfl, hfr, a5, ht⟩
    dsimp only at hf hfr a5 ht
    generalize hw : (fun l => wn r T l o) = w at *
    have hwi : wn r (T.sLi (T.flN w o i).1) i o = w i := by rw [← hw]; rfl
    have hi' : i < (T.sLi (T.flN w o i).1).L := hi
    have hh := h.W.hoH hi
    have hS : T.flN w o (i + 1) = T.fl1 w o (T.flN w o i) i := rfl
    have hRm : RmR r.1 r.2 m1 := hR.fr hfr
    obtain ⟨m2, hm2, hfr2⟩ := M_wants (r := r) ht hRm hok hi' ho
    have ht2 := ht.fr hfr2
    have hfr3 : Fr [29, 35] [33, 34] m m2 := hfr.trans (hfr2.mono (by decide) (by decide))
    have a52 : m2.1 35 = nI (T.flN w o i).2.2 := (hfr2.1 35 (by decide)).trans a5
    unfold f11_flickAll_L2
    dsimp only
    rw [cl_1, (show m1.2 3 1 = nI T.L from ht.eL), if_neg (nI_ge hi (by omega)), hm2, Option.bind_some, ldO_n _ (by omega) (by omega), ht2.eho hi', Option.bind_some]
    have haw : f11_isAwake m2 (nI ((T.sLi (T.flN w o i).1).ho i)) (nI o) = some (T.al i o) := M_isAwake ht2 (k := T.ho i) hh (by omega)
    rw [haw, Option.bind_some, hwi]
    simp only [ifz]
    cases hal : T.al i o with
    | false =>
      rw [if_neg (by decide), Option.bind_some, nI_1]
      have : T.fl1 w o (T.flN w o i) i = T.flN w o i := by unfold TW.fl1; rw [hal]; rfl
      rw [hS, this]
      exact ⟨_, rfl, hf, rfl, hfr3, a52, ht2⟩
    | true =>
      have hlit : f11_isOf (m2.1 29) (nI i) = some ((T.flN w o i).1 i) := M_isOf ht2.eli (by show T.L ≤ 32; omega) hi'
      rw [if_pos rfl, hlit, Option.bind_some]
      simp only [zB_e]
      by_cases hq : w i = (T.flN w o i).1 i
      · have : T.fl1 w o (T.flN w o i) i = T.flN w o i := by
          unfold TW.fl1
          rw [hal, hq]
          simp
        rw [hS, this, if_pos hq, Option.bind_some, nI_1]
        exact ⟨_, rfl, hf, rfl, hfr3, a52, ht2⟩
      · rw [if_neg hq]
        have hcl := fun k hk j e => flN_cl h.W w o i (by omega) k j hk e
        have body : ∀ (m3 : St) (g : Nat → Bool), RmT (T.sLi g) m3 → Fr [29] [] m2 m3 → T.fl1 w o (T.flN w o i) i = (g, fun k => (T.flN w o i).2.1 k || T.cp i k, if (T.flN w o i).2.1 i = true then (T.flN w o i).2.2 + 1 else (T.flN w o i).2.2) → ∃ s' : Int32 × Int32 × St, ((f11_couple m3 (nI i)).bind fun q10 => ((if (f &&& q10) = 0 then some m3 else (some (sS m3 35 ((m3.1 35) + 1))).bind fun s12 => some s12 : Option St)).bind fun q11 => (f11_couple q11 (nI i)).bind fun q13 => some ((f ||| q13), q11)).bind (fun q7 => some (Sum.inl (q7.1, nI i + 1, q7.2) : (Int32 × Int32 × St) ⊕ St)) = some (Sum.inl s') ∧ Bm T.L (T.flN w o (i + 1)).2.1 s'.1 ∧ s'.2.1 = nI (i + 1) ∧ Fr [29, 35] [33, 34] m s'.2.2 ∧ s'.2.2.1 35 = nI (T.flN w o (i + 1)).2.2 ∧ RmT (T.sLi (T.flN w o (i + 1)).1) s'.2.2 := by
          intro m3 g hg hfr4 hstep
          obtain ⟨x, hx, hxb⟩ := M_couple hg (show i < (T.sLi g).L from hi)
          have hxb : Bm T.L (T.cp i) x := hxb
          have a53 : m3.1 35 = nI (T.flN w o i).2.2 := (hfr4.1 35 (by decide)).trans a52
          have hz : (f &&& x = 0) ↔ (T.flN w o i).2.1 i = false := by
            rw [(hf.and hxb).eq0 (by omega)]
            constructor
            · intro z
              have := z i hi
              rw [cp_self, Bool.and_true] at this
              exact this
            · intro z k hk
              by_cases e1 : k = i
              · rw [e1, z]; rfl
              · by_cases e2 : T.tw i = some k
                · rw [← hcl i hi k e2, z]; rfl
                · have : T.cp i k = false := by simp [TW.cp, e1, e2]
                  rw [this, Bool.and_false]
          rw [hS, hstep]
          cases hb : (T.flN w o i).2.1 i with
          | false =>
            rw [hx, Option.bind_some, if_pos (hz.2 hb), Option.bind_some, hx, Option.bind_some, Option.bind_some, nI_1]
            exact ⟨_, rfl, hf.or hxb, rfl, hfr3.trans (hfr4.mono (by decide) (by decide)), a53, hg⟩
          | true =>
            have hg2 : RmT (T.sLi g) (sS m3 35 ((m3.1 35) + 1)) := hg.fr (Fr.sS (S := [35]) (A := []) m3 35 _ (by decide))
            obtain ⟨y, hy, hyb⟩ := M_couple hg2 (show i < (T.sLi g).L from hi)
            rw [hx, Option.bind_some, if_neg (fun z => by have := hz.1 z; rw [hb] at this; cases this), Option.bind_some, Option.bind_some, hy, Option.bind_some, Option.bind_some, nI_1]
            refine ⟨_, rfl, hf.or hyb, rfl, (hfr3.trans (hfr4.mono (by decide) (by decide))).trans (Fr.sS m3 35 _ (by decide)), ?_, hg2⟩
            show m3.1 35 + 1 = nI ((T.flN w o i).2.2 + 1)
            rw [a53, nI_1]
        cases hwb : w i with
        | false =>
          obtain ⟨x, hx, hr3⟩ := M_be ht2 hi' false
          rw [if_neg (by decide), hx, Option.bind_some]
          refine body _ _ hr3 (Fr.sS m2 29 x (by decide)) ?_
          unfold TW.fl1
          rw [if_pos (by rw [hal, hwb]; rw [hwb] at hq; cases hz : (T.flN w o i).1 i with | false => exact absurd hz.symm hq | true => rfl), fl1_put w o _ hwb]
          rfl
        | true =>
          rw [if_pos rfl, show f11_canBurn m2 (nI i) = some (T.can i) from M_canBurn ht2 hi', Option.bind_some]
          cases hc : T.can i with
          | false =>
            have : T.fl1 w o (T.flN w o i) i = T.flN w o i := by
              unfold TW.fl1
              rw [hal, hc, hwb]
              simp
            rw [hS, this, if_neg (by decide), Option.bind_some, nI_1]
            exact ⟨_, rfl, hf, rfl, hfr3, a52, ht2⟩
          | true =>
            obtain ⟨x, hx, hr3⟩ := M_be ht2 hi' true
            rw [if_pos rfl, hx, Option.bind_some]
            refine body _ _ hr3 (Fr.sS m2 29 x (by decide)) ?_
            unfold TW.fl1
            rw [if_pos (by rw [hal, hwb, hc]; rw [hwb] at hq; cases hz : (T.flN w o i).1 i with | true => exact absurd hz.symm hq | false => rfl), fl1_lit w o _ hwb]
            rfl) (by
    rintro ⟨f, j, m1⟩ ⟨hf, rfl, hfr, a5, ht⟩
    refine ⟨m1, ?_, hfr, a5, ht⟩
    unfold f11_flickAll_L2
    dsimp only
    rw [cl_1, (show m1.2 3 1 = nI T.L from ht.eL), if_pos (Int32.le_refl _)]) ⟨Bm.zero _, rfl, Fr.sS m 35 0 (by decide), rfl, h.fr (Fr.sS (S := [35]) (A := []) m 35 0 (by decide))⟩
  refine ⟨q, ?_, h2⟩
  unfold f11_flickAll
  rw [Option.bind_some, h1, Option.bind_some]
/-- lit, when the first i have been looked at -/
def TW.l2i (T : TW) (f : Nat → Bool) (i k : Nat) : Bool := f k && !decide (0 < fb_ct (T.sp1 f k) i)
theorem M_burn (h : RmT T m) (hli : LiO T) : ∃ m', f11_burn m = some m' ∧ Fr [29] [23] m m' ∧ RmT ((T.sOi (T.bi T.li T.L)).sLi (T.l2 T.li)) m' := by
  have hL := h.W.L12
  obtain ⟨q, h1, h2⟩ := lpw_R (F := f11_burn_L1 m) (fun i s => s.1 = nI i ∧ Fr [] [23] m s.2 ∧ RmT (T.sOi (T.bi T.li i)) s.2) (fun q => Fr [] [23] m q ∧ RmT (T.sOi (T.bi T.li T.L)) q) T.L (s := (0, m)) (by
    rintro i ⟨j, m1⟩ hi ⟨rfl, hfr, ht⟩
    dsimp only at hfr ht
    have hi' : i < (T.sOi (T.bi T.li i)).L := hi
    have hoi := ht.eoi hi'
    have h99 := h.W.oi99 hi
    have hbi : (T.sOi (T.bi T.li i)).oi i = T.oi i := by show T.bi T.li i i = T.oi i; unfold TW.bi; rw [if_neg (fun z => Nat.lt_irrefl _ z.1)]
    rw [hbi] at hoi
    unfold f11_burn_L1
    dsimp only
    rw [cl_1, (show m1.2 3 1 = nI T.L from ht.eL), if_neg (nI_ge hi (by omega)), ldO_n _ (by omega) (by omega), hoi, Option.bind_some, M_isOf h.eli (by omega) hi, Option.bind_some]
    simp only [ifz, ifb, Option.bind_some]
    rw [stS_n _ _ _ (by omega) (by omega), Option.bind_some, nI_1]
    refine ⟨_, rfl, rfl, hfr.trans (Fr.sA m1 23 _ (by decide)), ht.sOi (fun k hk => ?_) (bi_99 h.W _ _)⟩
    by_cases q : k = i
    · subst q
      rw [upd_e]
      unfold TW.bi
      cases hl : T.li k with
      | true =>
        have := hli k hi hl
        rw [if_pos ⟨by omega, rfl⟩]
        obtain ⟨d, hd⟩ : ∃ d, T.oi k = d + 1 := ⟨T.oi k - 1, by omega⟩
        rw [hd, zB_t, nI_pred]
        rfl
      | false =>
        rw [if_neg (fun z => by cases z.2), zB_f, Int32.sub_zero]
    · rw [upd_n _ _ q, ht.eoi hk]
      show nI (T.bi T.li i k) = _
      unfold TW.bi
      have : (k < i + 1) = (k < i) := propext ⟨fun z => by omega, fun z => by omega⟩
      simp only [this]) (by
    rintro ⟨j, m1⟩ ⟨rfl, hfr, ht⟩
    refine ⟨m1, ?_, hfr, ht⟩
    unfold f11_burn_L1
    dsimp only
    rw [cl_1, (show m1.2 3 1 = nI T.L from ht.eL), if_pos (Int32.le_refl _)]) ⟨rfl, Fr.refl _ _ _, by
    have : T.bi T.li 0 = T.oi := funext fun k => by unfold TW.bi; rw [if_neg (fun z => Nat.not_lt_zero _ z.1)]
    show RmT (T.sOi (T.bi T.li 0)) m
    rw [this]
    exact h⟩
  obtain ⟨q2, h3, h4⟩ := lpw_R (F := f11_burn_L7 m) (fun i s => s.1 = nI i ∧ Fr [29] [23] m s.2 ∧ RmT ((T.sOi (T.bi T.li T.L)).sLi (T.l2i T.li i)) s.2) (fun q => Fr [29] [23] m q ∧ RmT ((T.sOi (T.bi T.li T.L)).sLi (T.l2i T.li T.L)) q) T.L (s := (0, q)) (by
    rintro i ⟨j, m1⟩ hi ⟨rfl, hfr, ht⟩
    dsimp only at hfr ht
    have hi' : i < ((T.sOi (T.bi T.li T.L)).sLi (T.l2i T.li i)).L := hi
    have h99 := h.W.oi99 hi
    have hoi : m1.2 23 i = nI (T.bo T.li i) := by
      rw [ht.eoi hi']
      show nI (T.bi T.li T.L i) = _
      rw [bi_bo _ hi]
    unfold f11_burn_L7
    dsimp only
    rw [cl_1, (show m1.2 3 1 = nI T.L from ht.eL), if_neg (nI_ge hi (by omega)), M_isOf h.eli (by omega) hi, Option.bind_some]
    simp only [ifz]
    have hnext : (∀ k, T.sp1 T.li k i = false) → T.l2i T.li (i + 1) = T.l2i T.li i := fun z => funext fun k => by
      unfold TW.l2i
      rw [fb_ct_succ, z k]
      rfl
    cases hl : T.li i with
    | false =>
      rw [if_neg (by decide), Option.bind_some, nI_1, hnext (fun k => by unfold TW.sp1; rw [hl]; rfl)]
      exact ⟨_, rfl, rfl, hfr, ht⟩
    | true =>
      have ho1 := hli i hi hl
      have hbo : T.bo T.li i = T.oi i - 1 := by unfold TW.bo; rw [if_pos hl]
      rw [if_pos rfl, ldO_n _ (by omega) (by omega), hoi, Option.bind_some, hbo]
      by_cases hz : T.oi i - 1 = 0
      · obtain ⟨x, hx, hr3⟩ := M_be ht hi' false
        rw [if_pos (by rw [hz]; rfl), hx, Option.bind_some, Option.bind_some, nI_1]
        refine ⟨_, rfl, rfl, hfr.trans (Fr.sS m1 29 x (by decide)), ?_⟩
        have e : T.l2i T.li (i + 1) = fun k => T.l2i T.li i k && !T.cp i k := funext fun k => by
          unfold TW.l2i
          rw [fb_ct_succ]
          have : T.sp1 T.li k i = T.cp i k := by unfold TW.sp1; rw [hl, decide_eq_true hz]; rfl
          rw [this]
          cases T.cp i k with
          | true =>
            rw [if_pos rfl, decide_eq_true (show 0 < fb_ct (T.sp1 T.li k) i + 1 by omega)]
            simp
          | false => simp
        rw [e]
        exact hr3
      · rw [if_neg (nI_ne0 (by omega) (by omega)), Option.bind_some, nI_1, hnext (fun k => by unfold TW.sp1; rw [decide_eq_false hz]; simp)]
        exact ⟨_, rfl, rfl, hfr, ht⟩) (by
    rintro ⟨j, m1⟩ ⟨rfl, hfr, ht⟩
    refine ⟨m1, ?_, hfr, ht⟩
    unfold f11_burn_L7
    dsimp only
    rw [cl_1, (show m1.2 3 1 = nI T.L from ht.eL), if_pos (Int32.le_refl _)]) ⟨rfl, h2.1.mono (by decide) (by decide), by
    have : T.l2i T.li 0 = T.li := funext fun k => by unfold TW.l2i; show (T.li k && !decide (0 < 0)) = _; simp
    show RmT ((T.sOi (T.bi T.li T.L)).sLi (T.l2i T.li 0)) q
    rw [this]
    exact h2.2⟩
  refine ⟨q2, ?_, h4⟩
  unfold f11_burn
  rw [h1, Option.bind_some, h3, Option.bind_some]
theorem M_anHour (h : RmT T m) (hli : LiO T) (hR : RmR r.1 r.2 m) (hok : okR r.1 r.2) (ho : T.o + 1 < 100000) : ∃ m', f11_anHour m = some m' ∧ Fr [28, 29, 35, 36] [23, 33, 34, 37] m m' ∧ RmT (hrT r T) m' ∧ Bm T.L (lNn r T) (m'.1 36) ∧ m'.1 35 = nI (qRl r T) ∧ ∀ k, k < T.H → m'.2 37 k = nI (fb_ct (fun l => cMp r T l && decide (T.ho l = k)) T.L) := by
  have hL := h.W.L12
  have hH := h.W.H8
  have ho24 : T.o % 24 < 24 := by omega
  obtain ⟨m1, h1, f1, h2, h3⟩ := M_flickAll h hR hok ho24
  have h3 : RmT (T.sLi (lNn r T)) m1 := h3
  have h2 : m1.1 35 = nI (qRl r T) := h2
  have g3 : RmT (T.sLi (lNn r T)) (sS m1 36 (m1.1 29)) := h3.fr (Fr.sS (S := [36]) (A := []) m1 36 _ (by decide))
  obtain ⟨m2, h4, f2, h5⟩ := lpw_R (F := f11_anHour_L3) (fun i s => s.1 = nI i ∧ Fr [] [37] (sS m1 36 (m1.1 29)) s.2 ∧ ∀ k, k < i → s.2.2 37 k = 0) (fun q => Fr [] [37] (sS m1 36 (m1.1 29)) q ∧ ∀ k, k < T.H → q.2 37 k = 0) T.H (s := (0, sS m1 36 (m1.1 29))) (by
    rintro i ⟨j, q⟩ hi ⟨rfl, hfr, hz⟩
    dsimp only at hfr hz
    have hq := g3.fr hfr
    unfold f11_anHour_L3
    dsimp only
    rw [cl_0, (show q.2 3 0 = nI T.H from hq.eH), if_neg (nI_ge hi (by omega)), stS_n _ _ _ (by omega) (by omega), Option.bind_some, nI_1]
    refine ⟨_, rfl, rfl, hfr.trans (Fr.sA q 37 _ (by decide)), fun k hk => ?_⟩
    show upd (q.2 37) i 0 k = 0
    by_cases e : k = i
    · rw [e, upd_e]
    · rw [upd_n _ _ e]; exact hz k (by omega)) (by
    rintro ⟨j, q⟩ ⟨rfl, hfr, hz⟩
    refine ⟨q, ?_, hfr, hz⟩
    unfold f11_anHour_L3
    dsimp only
    rw [cl_0, (show q.2 3 0 = nI T.H from (g3.fr hfr).eH), if_pos (Int32.le_refl _)]) ⟨rfl, Fr.refl _ _ _, fun k hk => absurd hk (Nat.not_lt_zero k)⟩
  have g4 := g3.fr f2
  have f12 : Fr [28, 29, 35, 36] [23, 33, 34, 37] m m2 := (f1.mono (by decide) (by decide)).trans ((Fr.sS m1 36 _ (by decide)).trans (f2.mono (by decide) (by decide)))
  obtain ⟨m3, h6, f3, h7⟩ := lpw_R (F := f11_anHour_L6 m) (fun i s => s.1 = nI i ∧ Fr [] [33, 34, 37] m2 s.2 ∧ ∀ k, k < T.H → s.2.2 37 k = nI (fb_ct (fun l => cMp r T l && decide (T.ho l = k)) i)) (fun q => Fr [] [33, 34, 37] m2 q ∧ ∀ k, k < T.H → q.2 37 k = nI (fb_ct (fun l => cMp r T l && decide (T.ho l = k)) T.L)) T.L (s := (0, m2)) (by
    rintro i ⟨j, q⟩ hi ⟨rfl, hfr, hz⟩
    dsimp only at hfr hz
    have hq := g4.fr hfr
    have hh := h.W.hoH hi
    have hi' : i < (T.sLi (lNn r T)).L := hi
    have hoB := h.W.oB
    unfold f11_anHour_L6
    dsimp only
    rw [cl_1, (show q.2 3 1 = nI T.L from hq.eL), if_neg (nI_ge hi (by omega)), ldO_n _ (by omega) (by omega), hq.eho hi', Option.bind_some]
    rw [show (T.sLi (lNn r T)).ho i = T.ho i from rfl, ldO_n _ (by omega) (by omega), hz _ hh, Option.bind_some, Option.bind_some, h.eo, m24 (by omega), show f11_isAwake q (nI (T.ho i)) (nI (T.o % 24)) = some (T.al i (T.o % 24)) from M_isAwake hq hh (by omega), Option.bind_some]
    simp only [ifz]
    have fin : ∀ (b : Bool) (q2 : St), b = cMp r T i → Fr [] [33, 34] q q2 → ∃ s' : Int32 × St, (some (b, q2) : Option (Bool × St)).bind (fun q12 => (stS 8 q12.2 37 (nI (T.ho i)) (nI (fb_ct (fun l => cMp r T l && decide (T.ho l = T.ho i)) i) + (zB q12.1))).bind fun s15 => some (Sum.inl (nI i + 1, s15) : (Int32 × St) ⊕ St)) = some (Sum.inl s') ∧ s'.1 = nI (i + 1) ∧ Fr [] [33, 34, 37] m2 s'.2 ∧ ∀ k, k < T.H → s'.2.2 37 k = nI (fb_ct (fun l => cMp r T l && decide (T.ho l = k)) (i + 1)) := by
      intro b q2 hb hf2
      rw [Option.bind_some, stS_n _ _ _ (by omega) (by omega), Option.bind_some, nI_1]
      refine ⟨_, rfl, rfl, hfr.trans ((hf2.mono (by decide) (by decide)).trans (Fr.sA q2 37 _ (by decide))), fun k hk => ?_⟩
      show upd (q2.2 37) (T.ho i) _ k = _
      rw [hf2.2 37 (by decide), fb_ct_succ]
      by_cases e : k = T.ho i
      · subst e
        rw [upd_e, zB_nI, nI_add, hb, decide_eq_true rfl, Bool.and_true]
      · rw [upd_n _ _ e, hz k hk, decide_eq_false (fun z => e z.symm), Bool.and_false]
        rfl
    cases hal : T.al i (T.o % 24) with
    | false =>
      rw [if_neg (by decide)]
      exact fin false q (by unfold cMp; rw [hal]; rfl) (Fr.refl _ _ _)
    | true =>
      have hRq : RmR r.1 r.2 q := (hR.fr f12).fr hfr
      obtain ⟨q2, h8, f4⟩ := M_wants (r := r) hq hRq hok hi' ho24
      have hw : wn r (T.sLi (lNn r T)) i (T.o % 24) = wN0 r T i := rfl
      have hl : f11_isOf (q2.1 29) (nI i) = some (lNn r T i) := M_isOf (hq.fr f4).eli (by show T.L ≤ 32; omega) hi'
      rw [if_pos rfl, h8, Option.bind_some, hw, hl, Option.bind_some]
      simp only [zB_e]
      by_cases e : wN0 r T i = lNn r T i
      · rw [if_pos e]
        exact fin false q2 (by unfold cMp; rw [hal, e]; simp) f4
      · rw [if_neg e]
        exact fin true q2 (by unfold cMp; rw [hal]; simp [e]) f4) (by
    rintro ⟨j, q⟩ ⟨rfl, hfr, hz⟩
    refine ⟨q, ?_, hfr, hz⟩
    unfold f11_anHour_L6
    dsimp only
    rw [cl_1, (show q.2 3 1 = nI T.L from (g4.fr hfr).eL), if_pos (Int32.le_refl _)]) ⟨rfl, Fr.refl _ _ _, fun k hk => by rw [h5 k hk]; rfl⟩
  have g5 := g4.fr f3
  obtain ⟨m4, h8, f4, h9⟩ := M_burn g5 (flN_ok h.W hli _ _ _)
  have h9' : RmT ((T.sLi (T.l2 (lNn r T))).sOi (T.bo (lNn r T))) m4 := oi_congM (T := T.sLi (T.l2 (lNn r T))) (fun k hk => bi_bo (lNn r T) hk) h9
  have f34 : Fr [29] [23, 33, 34, 37] m2 m4 := (f3.mono (by decide) (by decide)).trans (f4.mono (by decide) (by decide))
  refine ⟨sS m4 28 (m4.1 28 + 1), ?_, (f12.trans (f34.mono (by decide) (by decide))).trans (Fr.sS m4 28 _ (by decide)), h9'.sO ho (by rw [h9'.eo]; exact nI_1 _), ?_, ?_, ?_⟩
  · have hoB := h.W.oB
    unfold f11_anHour
    rw [h.eo, m24 (by omega), h1, Option.bind_some, Option.bind_some, h4, Option.bind_some, h6, Option.bind_some, h8, Option.bind_some, Option.bind_some]
  · show Bm T.L (lNn r T) (m4.1 36)
    rw [f34.1 36 (by decide), f2.1 36 (by decide)]
    exact h3.eli
  · show m4.1 35 = _
    rw [f34.1 35 (by decide), f2.1 35 (by decide)]
    exact h2
  · intro k hk
    show m4.2 37 k = _
    rw [f4.2 37 (by decide)]
    exact h7 k hk
end
