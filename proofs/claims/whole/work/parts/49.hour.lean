/-! an hour -/
def TW.fl1 (T : TW) (w : Nat → Bool) (o : Nat) (s : (Nat → Bool) × (Nat → Bool) × Nat) (l : Nat) : (Nat → Bool) × (Nat → Bool) × Nat :=
  if (T.al l o && (w l != s.1 l) && (!w l || T.can l)) = true then (fun k => if T.cp l k = true then w l else s.1 k, fun k => s.2.1 k || T.cp l k, if s.2.1 l = true then s.2.2 + 1 else s.2.2) else s
def TW.flN (T : TW) (w : Nat → Bool) (o : Nat) : Nat → (Nat → Bool) × (Nat → Bool) × Nat
  | 0 => (T.li, fun _ => false, 0)
  | i + 1 => T.fl1 w o (T.flN w o i) i
def TW.bo (T : TW) (f : Nat → Bool) (k : Nat) : Nat := if f k = true then T.oi k - 1 else T.oi k
def TW.sp1 (T : TW) (f : Nat → Bool) (k l : Nat) : Bool := f l && decide (T.oi l - 1 = 0) && T.cp l k
def TW.l2 (T : TW) (f : Nat → Bool) (k : Nat) : Bool := f k && !decide (0 < fb_ct (T.sp1 f k) T.L)
def wN0 (r : RU) (T : TW) (l : Nat) : Bool := wn r T l (T.o % 24)
def flR (r : RU) (T : TW) : (Nat → Bool) × (Nat → Bool) × Nat := T.flN (wN0 r T) (T.o % 24) T.L
/-- lit in the hour, complaints, quarrels -/
def lNn (r : RU) (T : TW) : Nat → Bool := (flR r T).1
def qRl (r : RU) (T : TW) : Nat := (flR r T).2.2
def cMp (r : RU) (T : TW) (l : Nat) : Bool := T.al l (T.o % 24) && (wN0 r T l != lNn r T l)
def hrT (r : RU) (T : TW) : TW := ((T.sLi (T.l2 (lNn r T))).sOi (T.bo (lNn r T))).sO (T.o + 1)
section
variable {T : TW} {t m g e : St} {r : RU}
theorem cp_sym (h : WfT T) {l k j : Nat} (hl : l < T.L) (hk : k < T.L) (e : T.tw k = some j) : T.cp l k = T.cp l j := by
  have h1 := h.twI hk e
  refine bool_ext ?_
  unfold TW.cp
  simp only [Bool.or_eq_true, decide_eq_true_eq]
  constructor
  · rintro (q | q)
    · subst q; exact .inr e
    · have := (h.twI hl q).2.2
      rw [e] at this
      exact .inl (Option.some.inj this)
  · rintro (q | q)
    · subst q; exact .inr h1.2.2
    · have := (h.twI hl q).2.2
      rw [h1.2.2] at this
      exact .inl (Option.some.inj this)
theorem cp_self (l : Nat) : T.cp l l = true := by simp [TW.cp]
theorem flN_cl (h : WfT T) (w : Nat → Bool) (o : Nat) : ∀ i, i ≤ T.L → ∀ k j, k < T.L → T.tw k = some j → (T.flN w o i).2.1 k = (T.flN w o i).2.1 j := by
  intro i
  induction i with
  | zero => intro _ k j _ _; rfl
  | succ i ih =>
    intro hi k j hk e
    have := ih (by omega) k j hk e
    show (T.fl1 w o (T.flN w o i) i).2.1 k = (T.fl1 w o (T.flN w o i) i).2.1 j
    unfold TW.fl1
    by_cases q : (T.al i o && (w i != (T.flN w o i).1 i) && (!w i || T.can i)) = true
    · rw [if_pos q]
      show ((T.flN w o i).2.1 k || T.cp i k) = ((T.flN w o i).2.1 j || T.cp i j)
      rw [this, cp_sym h (by omega) hk e]
    · rw [if_neg q]; exact this
theorem fl1_put (w : Nat → Bool) (o : Nat) (s : (Nat → Bool) × (Nat → Bool) × Nat) {l : Nat} (hw : w l = false) : (fun k => if T.cp l k = true then w l else s.1 k) = (fun k => s.1 k && !T.cp l k) := funext fun k => by
  rw [hw]
  cases T.cp l k <;> simp
theorem fl1_lit (w : Nat → Bool) (o : Nat) (s : (Nat → Bool) × (Nat → Bool) × Nat) {l : Nat} (hw : w l = true) : (fun k => if T.cp l k = true then w l else s.1 k) = (fun k => s.1 k || T.cp l k) := funext fun k => by
  rw [hw]
  cases T.cp l k <;> simp
theorem flN_ok (h : WfT T) (hli : LiO T) (w : Nat → Bool) (o : Nat) : ∀ i, ∀ k, k < T.L → (T.flN w o i).1 k = true → 0 < T.oi k := by
  intro i
  induction i with
  | zero => exact hli
  | succ i ih =>
    intro k hk e
    change (T.fl1 w o (T.flN w o i) i).1 k = true at e
    unfold TW.fl1 at e
    by_cases q : (T.al i o && (w i != (T.flN w o i).1 i) && (!w i || T.can i)) = true
    · rw [if_pos q] at e
      have e : (if T.cp i k = true then w i else (T.flN w o i).1 k) = true := e
      by_cases z : T.cp i k = true
      · rw [if_pos z] at e
        rw [e] at q
        have : T.can i = true := by
          cases hc : T.can i with
          | true => rfl
          | false => rw [hc] at q; simp at q
        exact can_oil this k z
      · rw [if_neg z] at e
        exact ih k hk e
    · rw [if_neg q] at e
      exact ih k hk e
/-- the class's flicks -/
theorem C_flickAll (h : RcT T t) (w : Nat → Bool) (o : Nat) (ha : Bm T.L (fun l => T.al l o) (e.1 3)) (hw : Bm T.L (fun l => T.al l o && w l) (e.1 4)) : ∃ e' t', f2_flickAll e t = some (e', t') ∧ e'.1 3 = e.1 3 ∧ e'.1 4 = e.1 4 ∧ e'.1 2 = nI (T.flN w o T.L).2.2 ∧ RcT (T.sLi (T.flN w o T.L).1) t' := by
  have hL := h.W.L12
  obtain ⟨r, h1, h2⟩ := lpw_R (F := f2_flickAll_L2) (fun i s => Bm T.L (T.flN w o i).2.1 s.1 ∧ s.2.1 = nI i ∧ (s.2.2.1.1 3 = e.1 3 ∧ s.2.2.1.1 4 = e.1 4 ∧ s.2.2.1.1 2 = nI (T.flN w o i).2.2) ∧ RcT (T.sLi (T.flN w o i).1) s.2.2.2) (fun r => (r.1.1 3 = e.1 3 ∧ r.1.1 4 = e.1 4 ∧ r.1.1 2 = nI (T.flN w o T.L).2.2) ∧ RcT (T.sLi (T.flN w o T.L).1) r.2) T.L (s := (0, 0, sS e 2 0, t)) (by
    rintro i ⟨f, j, e1, t1⟩ hi ⟨hf, rfl, ⟨a3, a4, a2⟩, ht⟩
    dsimp only at hf a3 a4 a2 ht
    have hi' : i < (T.sLi (T.flN w o i).1).L := hi
    have hS : T.flN w o (i + 1) = T.fl1 w o (T.flN w o i) i := rfl
    have b3 : ((e1.1 3 >>> (nI i &&& 31)) &&& 1 = 1) = (T.al i o = true) := by
      rw [a3, bs _ (by omega), ha.at hi (by omega), zB_1]
    have b4 : ((e1.1 4 >>> (nI i &&& 31)) &&& 1 = 1) = ((T.al i o && w i) = true) := by
      rw [a4, bs _ (by omega), hw.at hi (by omega), zB_1]
    have b0 : (f >>> (nI i &&& 31)) &&& 1 = zB ((T.flN w o i).2.1 i) := by rw [bs _ (by omega), hf.at hi (by omega)]
    unfold f2_flickAll_L2
    dsimp only
    rw [show t1.1 1 = nI T.L from ht.eL, if_neg (nI_ge hi (by omega)), C_isLit ht hi']
    simp only [b3, b4, b0, ifb, ifdn, Option.bind_some, zB_e, ifz]
    cases hal : T.al i o with
    | false =>
      rw [if_neg (by decide), Option.bind_some, nI_1]
      refine ⟨_, rfl, ?_⟩
      have : T.fl1 w o (T.flN w o i) i = T.flN w o i := by unfold TW.fl1; rw [hal]; rfl
      rw [hS, this]
      exact ⟨hf, rfl, ⟨a3, a4, a2⟩, ht⟩
    | true =>
      rw [if_pos rfl]
      simp only [Bool.true_and]
      by_cases hq : (T.flN w o i).1 i = w i
      · have : T.fl1 w o (T.flN w o i) i = T.flN w o i := by
          unfold TW.fl1
          rw [hal, hq]
          simp
        rw [hS, this]
        have hq' : (T.sLi (T.flN w o i).1).li i = w i := hq
        rw [hq']
        simp only [decide_true, Bool.not_true, Bool.false_eq_true, if_false, Option.bind_some, nI_1, Bool.and_true]
        refine ⟨_, rfl, hf, rfl, ⟨a3, a4, a2⟩, ht⟩
      · have hq' : ¬ (T.sLi (T.flN w o i).1).li i = w i := hq
        rw [decide_eq_false hq', Bool.not_false, if_pos rfl]
        cases hwi : w i with
        | false =>
          obtain ⟨t2, ht2, hr2⟩ := C_putOut ht hi'
          obtain ⟨x, hx, hxb⟩ := C_couple hr2 (show i < ((T.sLi (T.flN w o i).1).put i).L from hi)
          simp only [Bool.false_eq_true, if_false, ht2, Option.bind_some, hx, nI_1]
          have : T.fl1 w o (T.flN w o i) i = (fun k => (T.flN w o i).1 k && !T.cp i k, fun k => (T.flN w o i).2.1 k || T.cp i k, if (T.flN w o i).2.1 i = true then (T.flN w o i).2.2 + 1 else (T.flN w o i).2.2) := by
            unfold TW.fl1
            rw [if_pos (by rw [hal, hwi]; rw [hwi] at hq; cases hz : (T.flN w o i).1 i with | false => exact absurd hz hq | true => rfl), fl1_put w o _ hwi]
          rw [hS, this]
          refine ⟨_, rfl, hf.or hxb, rfl, ⟨a3, a4, ?_⟩, hr2⟩
          show e1.1 2 + zB ((T.flN w o i).2.1 i) = nI (if (T.flN w o i).2.1 i = true then (T.flN w o i).2.2 + 1 else (T.flN w o i).2.2)
          rw [a2, zB_nI, nI_add]
          cases (T.flN w o i).2.1 i <;> rfl
        | true =>
          rw [if_pos rfl, C_canBeLit ht hi', Option.bind_some]
          simp only [if_true]
          have hcan : (T.sLi (T.flN w o i).1).can i = T.can i := rfl
          rw [hcan]
          cases hc : T.can i with
          | false =>
            have : T.fl1 w o (T.flN w o i) i = T.flN w o i := by
              unfold TW.fl1
              rw [hal, hc, hwi]
              simp
            rw [hS, this]
            simp only [Bool.false_eq_true, if_false, Option.bind_some, nI_1]
            exact ⟨_, rfl, hf, rfl, ⟨a3, a4, a2⟩, ht⟩
          | true =>
            obtain ⟨t2, ht2, hr2⟩ := C_light ht hi'
            obtain ⟨x, hx, hxb⟩ := C_couple hr2 (show i < ((T.sLi (T.flN w o i).1).lit i).L from hi)
            simp only [if_true, ht2, Option.bind_some, hx, nI_1]
            have : T.fl1 w o (T.flN w o i) i = (fun k => (T.flN w o i).1 k || T.cp i k, fun k => (T.flN w o i).2.1 k || T.cp i k, if (T.flN w o i).2.1 i = true then (T.flN w o i).2.2 + 1 else (T.flN w o i).2.2) := by
              unfold TW.fl1
              rw [if_pos (by rw [hal, hwi, hc]; rw [hwi] at hq; cases hz : (T.flN w o i).1 i with | true => exact absurd hz hq | false => rfl), fl1_lit w o _ hwi]
            rw [hS, this]
            refine ⟨_, rfl, hf.or hxb, rfl, ⟨a3, a4, ?_⟩, hr2⟩
            show e1.1 2 + zB ((T.flN w o i).2.1 i) = nI (if (T.flN w o i).2.1 i = true then (T.flN w o i).2.2 + 1 else (T.flN w o i).2.2)
            rw [a2, zB_nI, nI_add]
            cases (T.flN w o i).2.1 i <;> rfl) (by
    rintro ⟨f, j, e1, t1⟩ ⟨hf, rfl, ⟨a3, a4, a2⟩, ht⟩
    refine ⟨(e1, t1), ?_, ⟨a3, a4, a2⟩, ht⟩
    unfold f2_flickAll_L2
    dsimp only
    rw [show t1.1 1 = nI T.L from ht.eL, if_pos (Int32.le_refl _)]) ⟨Bm.zero _, rfl, ⟨rfl, rfl, rfl⟩, h⟩
  refine ⟨r.1, r.2, ?_, h2.1.1, h2.1.2.1, h2.1.2.2, h2.2⟩
  unfold f2_flickAll
  rw [Option.bind_some, h1, Option.bind_some]
theorem WfT.sOi {f : Nat → Nat} (h : WfT T) (hf : ∀ k, k < T.L → f k ≤ 99) : WfT (T.sOi f) := ⟨h.1, h.2.1, h.2.2.1, h.2.2.2.1, fun k hk => ⟨h.hoH hk, hf k hk, fun _ e => h.twI hk e⟩⟩
theorem RcT.sOi {f : Nat → Nat} {x : Nat → Int32} (h : RcT T t) (hx : ∀ k, k < T.L → x k = nI (f k)) (hf : ∀ k, k < T.L → f k ≤ 99) : RcT (T.sOi f) (sA t 9 x) := ⟨h.W.sOi hf, h.eH, h.eL, h.eo, h.eli, h.ebr, h.2.2.2.2.2.2.1, fun k hk => ⟨h.eho hk, hx k hk, h.etw hk⟩⟩
theorem RmT.sOi {f : Nat → Nat} {x : Nat → Int32} (h : RmT T t) (hx : ∀ k, k < T.L → x k = nI (f k)) (hf : ∀ k, k < T.L → f k ≤ 99) : RmT (T.sOi f) (sA t 23 x) := ⟨h.W.sOi hf, h.eH, h.eL, h.eo, h.eli, h.ebr, h.2.2.2.2.2.2.1, fun k hk => ⟨h.eho hk, hx k hk, h.etw hk⟩⟩
theorem WfT.sO {x : Nat} (h : WfT T) (hx : x < 100000) : WfT (T.sO x) := ⟨h.1, h.2.1, hx, h.2.2.2.1, h.2.2.2.2⟩
theorem RcT.sO {x : Nat} {y : Int32} (h : RcT T t) (hx : x < 100000) (hy : y = nI x) : RcT (T.sO x) (sS t 2 y) := ⟨h.W.sO hx, h.eH, h.eL, hy, h.eli, h.ebr, h.2.2.2.2.2.2.1, h.2.2.2.2.2.2.2⟩
theorem RmT.sO {x : Nat} {y : Int32} (h : RmT T t) (hx : x < 100000) (hy : y = nI x) : RmT (T.sO x) (sS t 28 y) := ⟨h.W.sO hx, h.eH, h.eL, hy, h.eli, h.ebr, h.2.2.2.2.2.2.1, h.2.2.2.2.2.2.2⟩
/-- what is burnt of the first i -/
def TW.bi (T : TW) (f : Nat → Bool) (i k : Nat) : Nat := if k < i ∧ f k = true then T.oi k - 1 else T.oi k
theorem bi_99 (h : WfT T) (f : Nat → Bool) (i : Nat) : ∀ k, k < T.L → T.bi f i k ≤ 99 := fun k hk => by
  have := h.oi99 hk
  unfold TW.bi
  split <;> omega
theorem bi_same (f : Nat → Bool) {i : Nat} (h : f i = false) : T.bi f (i + 1) = T.bi f i := funext fun k => by
  unfold TW.bi
  by_cases e : k = i
  · subst e; rw [h]; simp
  · have : (k < i + 1) = (k < i) := propext ⟨fun z => by omega, fun z => by omega⟩
    simp only [this]
theorem bi_bo (f : Nat → Bool) {k : Nat} (hk : k < T.L) : T.bi f T.L k = T.bo f k := by
  unfold TW.bi TW.bo
  by_cases h : f k = true
  · rw [if_pos ⟨hk, h⟩, if_pos h]
  · rw [if_neg (fun z => h z.2), if_neg h]
theorem C_burn (h : RcT T t) (hli : LiO T) : ∃ t', f2_burn t = some t' ∧ RcT ((T.sOi (T.bi T.li T.L)).sLi (T.l2 T.li)) t' := by
  have hL := h.W.L12
  obtain ⟨r, h1, h2⟩ := lpw_R (F := f2_burn_L1) (fun i s => Bm T.L (fun k => decide (0 < fb_ct (T.sp1 T.li k) i)) s.1 ∧ s.2.1 = nI i ∧ RcT (T.sOi (T.bi T.li i)) s.2.2) (fun r => Bm T.L (fun k => decide (0 < fb_ct (T.sp1 T.li k) T.L)) r.1 ∧ RcT (T.sOi (T.bi T.li T.L)) r.2) T.L (s := (0, 0, t)) (by
    rintro i ⟨s, j, t1⟩ hi ⟨hs, rfl, ht⟩
    dsimp only at hs ht
    have hi' : i < (T.sOi (T.bi T.li i)).L := hi
    have hoi := ht.eoi hi'
    have h99 := h.W.oi99 hi
    have hbi : (T.sOi (T.bi T.li i)).oi i = T.oi i := by show T.bi T.li i i = T.oi i; unfold TW.bi; rw [if_neg (fun z => Nat.lt_irrefl _ z.1)]
    rw [hbi] at hoi
    unfold f2_burn_L1
    dsimp only
    rw [show t1.1 1 = nI T.L from ht.eL, if_neg (nI_ge hi (by omega)), C_isLit ht hi']
    simp only [Option.bind_some, ifz]
    have hlt : (T.sOi (T.bi T.li i)).li i = T.li i := rfl
    rw [hlt]
    cases hl : T.li i with
    | false =>
      rw [if_neg (by decide), Option.bind_some, nI_1]
      refine ⟨_, rfl, hs.cong fun k _ => ?_, rfl, by rw [bi_same _ hl]; exact ht⟩
      rw [fb_ct_succ]
      have : T.sp1 T.li k i = false := by unfold TW.sp1; rw [hl]; rfl
      rw [this]; rfl
    | true =>
      have ho1 := hli i hi hl
      rw [if_pos rfl, ldO_n _ (by omega) (by omega), hoi, Option.bind_some]
      obtain ⟨d, hd⟩ : ∃ d, T.oi i = d + 1 := ⟨T.oi i - 1, by omega⟩
      rw [hd, nI_pred, stS_n _ _ _ (by omega) (by omega), Option.bind_some, sA_2e, ldO_n _ (by omega) (by omega), upd_e, Option.bind_some]
      have hn : RcT (T.sOi (T.bi T.li (i + 1))) (sA t1 9 (upd (t1.2 9) i (nI d))) := ht.sOi (fun k hk => by
        by_cases q : k = i
        · subst q
          rw [upd_e]
          unfold TW.bi
          rw [if_pos ⟨by omega, hl⟩, hd]
          rfl
        · rw [upd_n _ _ q, ht.eoi hk]
          show nI (T.bi T.li i k) = _
          unfold TW.bi
          have : (k < i + 1) = (k < i) := propext ⟨fun z => by omega, fun z => by omega⟩
          simp only [this]) (bi_99 h.W _ _)
      by_cases hd0 : d = 0
      · subst hd0
        obtain ⟨x, hx, hxb⟩ := C_couple hn (show i < (T.sOi (T.bi T.li (i + 1))).L from hi)
        rw [if_neg (by decide +kernel), hx, Option.bind_some, Option.bind_some, nI_1]
        refine ⟨_, rfl, (hs.or hxb).cong fun k _ => ?_, rfl, hn⟩
        rw [fb_ct_succ]
        have : T.sp1 T.li k i = T.cp i k := by unfold TW.sp1; rw [hl, hd]; rfl
        rw [this]
        show (decide (0 < fb_ct (T.sp1 T.li k) i) || T.cp i k) = _
        cases T.cp i k with
        | true => rw [Bool.or_true]; exact (decide_eq_true (by rw [if_pos rfl]; omega)).symm
        | false => rw [Bool.or_false]; rfl
      · rw [if_pos (show (0 : Int32) < nI d from nI_lt (a := 0) (by omega) (by omega)), Option.bind_some, nI_1]
        refine ⟨_, rfl, hs.cong fun k _ => ?_, rfl, hn⟩
        rw [fb_ct_succ]
        have : T.sp1 T.li k i = false := by unfold TW.sp1; rw [hd]; simp [hd0]
        rw [this]; rfl) (by
    rintro ⟨s, j, t1⟩ ⟨hs, rfl, ht⟩
    refine ⟨(s, t1), ?_, hs, ht⟩
    unfold f2_burn_L1
    dsimp only
    rw [show t1.1 1 = nI T.L from ht.eL, if_pos (Int32.le_refl _)]) ⟨Bm.zero _, rfl, (by
    have : T.bi T.li 0 = T.oi := funext fun k => by unfold TW.bi; rw [if_neg (fun z => Nat.not_lt_zero _ z.1)]
    show RcT (T.sOi (T.bi T.li 0)) t
    rw [this]
    exact h)⟩
  refine ⟨_, ?_, h2.2.sLi (f := T.l2 T.li) (h2.2.eli.sub h2.1)⟩
  unfold f2_burn
  rw [h1, Option.bind_some]
  rfl
theorem oi_cong {T : TW} {f g : Nat → Nat} (h : ∀ k, k < T.L → f k = g k) (hR : RcT (T.sOi f) t) : RcT (T.sOi g) t := ⟨⟨hR.W.H8, hR.W.L12, hR.W.oB, hR.1.2.2.2.1, fun k hk => by
    have := hR.1.2.2.2.2 k hk
    exact ⟨this.1, by have := this.2.1; show g k ≤ 99; rw [← h k hk]; exact this, this.2.2⟩⟩, hR.eH, hR.eL, hR.eo, hR.eli, hR.ebr, hR.2.2.2.2.2.2.1, fun k hk => ⟨hR.eho hk, by rw [hR.eoi hk]; show nI (f k) = nI (g k); rw [h k hk], hR.etw hk⟩⟩
theorem oi_congM {T : TW} {f g : Nat → Nat} (h : ∀ k, k < T.L → f k = g k) (hR : RmT (T.sOi f) t) : RmT (T.sOi g) t := ⟨⟨hR.W.H8, hR.W.L12, hR.W.oB, hR.1.2.2.2.1, fun k hk => by
    have := hR.1.2.2.2.2 k hk
    exact ⟨this.1, by have := this.2.1; show g k ≤ 99; rw [← h k hk]; exact this, this.2.2⟩⟩, hR.eH, hR.eL, hR.eo, hR.eli, hR.ebr, hR.2.2.2.2.2.2.1, fun k hk => ⟨hR.eho hk, by rw [hR.eoi hk]; show nI (f k) = nI (g k); rw [h k hk], hR.etw hk⟩⟩
/-- the class's hour -/
theorem C_passHour (h : RcT T t) (hli : LiO T) (hg : RcR r.1 r.2 g) (hok : okR r.1 r.2) (ho : T.o + 1 < 100000) : ∃ e' g' t', f2_passHour e g t = some (e', g', t') ∧ RcR r.1 r.2 g' ∧ RcT (hrT r T) t' ∧ Bm T.L (lNn r T) (e'.1 0) ∧ Bm T.L (cMp r T) (e'.1 1) ∧ e'.1 2 = nI (qRl r T) := by
  have hL := h.W.L12
  obtain ⟨x, hx, hxb⟩ := C_awakeLamps h
  obtain ⟨q, h1, h2⟩ := lpw_R (F := f2_passHour_L4 t) (fun i s => s.1 = nI i ∧ Bm T.L (fun l => T.al l (T.o % 24)) (s.2.1.1 3) ∧ Bm i (fun l => T.al l (T.o % 24) && wN0 r T l) (s.2.1.1 4) ∧ RcR r.1 r.2 s.2.2) (fun q => Bm T.L (fun l => T.al l (T.o % 24)) (q.1.1 3) ∧ Bm T.L (fun l => T.al l (T.o % 24) && wN0 r T l) (q.1.1 4) ∧ RcR r.1 r.2 q.2) T.L (s := (0, sS (sS e 3 x) 4 0, g)) (by
    rintro i ⟨j, e1, g1⟩ hi ⟨rfl, a3, a4, hg1⟩
    dsimp only at a3 a4 hg1
    have b3 : ((e1.1 3 >>> (nI i &&& 31)) &&& 1 = 1) = (T.al i (T.o % 24) = true) := by
      rw [bs _ (by omega), a3.at hi (by omega), zB_1]
    have hoB := h.W.oB
    unfold f2_passHour_L4
    dsimp only
    rw [h.eL, if_neg (nI_ge hi (by omega)), h.eo, m24 (by omega)]
    simp only [b3]
    cases hal : T.al i (T.o % 24) with
    | false =>
      rw [if_neg (by decide), Option.bind_some, nI_1]
      exact ⟨_, rfl, rfl, a3, a4.no (by rw [hal]; rfl), hg1⟩
    | true =>
      obtain ⟨g2, h6, h7⟩ := C_wants h hg1 hok hi (show T.o % 24 < 24 by omega)
      rw [if_pos rfl, h6, Option.bind_some]
      simp only [ifz]
      cases hw : wn r T i (T.o % 24) with
      | false =>
        rw [if_neg (by decide), Option.bind_some, nI_1]
        exact ⟨_, rfl, rfl, a3, a4.no (by rw [hal]; exact hw), h7⟩
      | true =>
        rw [if_pos rfl, Option.bind_some, Option.bind_some, nI_1]
        exact ⟨_, rfl, rfl, a3, a4.yes (by omega) (by rw [hal]; exact hw), h7⟩) (by
    rintro ⟨j, e1, g1⟩ ⟨rfl, a3, a4, hg1⟩
    refine ⟨(e1, g1), ?_, a3, a4, hg1⟩
    unfold f2_passHour_L4
    dsimp only
    rw [h.eL, if_pos (Int32.le_refl _)]) ⟨rfl, hxb, Bm.zero0 _, hg⟩
  obtain ⟨h3, h4, h5⟩ := h2
  obtain ⟨e2, t2, h6, h7, h8, h9, h10⟩ := C_flickAll h (wN0 r T) (T.o % 24) h3 h4
  have hli2 : LiO (T.sLi (lNn r T)) := flN_ok h.W hli _ _ _
  obtain ⟨t3, h11, h12⟩ := C_burn h10 hli2
  have h12' : RcT ((T.sLi (T.l2 (lNn r T))).sOi (T.bo (lNn r T))) t3 := oi_cong (T := T.sLi (T.l2 (lNn r T))) (fun k hk => bi_bo (lNn r T) hk) h12
  refine ⟨sS (sS e2 0 (t2.1 3)) 1 (((sS e2 0 (t2.1 3)).1 3) &&& (((sS e2 0 (t2.1 3)).1 4) ^^^ ((sS e2 0 (t2.1 3)).1 0))), q.2, _, ?_, h5, h12'.sO ho (y := t3.1 2 + 1) (by rw [h12'.eo]; exact nI_1 _), ?_⟩
  · unfold f2_passHour
    rw [hx, Option.bind_some, Option.bind_some, Option.bind_some, h1, Option.bind_some, h6, Option.bind_some, Option.bind_some, Option.bind_some, h11, Option.bind_some, Option.bind_some]
  · refine ⟨h10.eli, ?_, h9⟩
    show Bm T.L (cMp r T) (e2.1 3 &&& (e2.1 4 ^^^ t2.1 3))
    rw [h7, h8]
    refine (h3.and (h4.xor h10.eli)).cong fun l _ => ?_
    show (T.al l (T.o % 24) && ((T.al l (T.o % 24) && wN0 r T l) ^^ lNn r T l)) = _
    unfold cMp
    cases T.al l (T.o % 24) <;> cases wN0 r T l <;> cases lNn r T l <;> rfl
end
