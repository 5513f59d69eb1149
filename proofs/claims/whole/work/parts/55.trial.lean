/-! hours that go by on trial -/
theorem sm_part {p : Nat → Bool} {f : Nat → Nat} {H : Nat} : ∀ n, (∀ l, l < n → f l < H) → fb_sm (fun h => fb_ct (fun l => p l && decide (f l = h)) n) H = fb_ct p n := by
  intro n
  induction n with
  | zero => intro _; exact (fb_sm_cong (g := fun _ => 0) (fun _ _ => rfl)).trans ((fb_sm_const 0 H).trans (Nat.mul_zero H))
  | succ n ih =>
    intro hf
    have h1 := ih (fun l hl => hf l (by omega))
    have h2 : fb_sm (fun h => fb_ct (fun l => p l && decide (f l = h)) (n + 1)) H = fb_sm (fun h => fb_ct (fun l => p l && decide (f l = h)) n) H + fb_sm (fun h => if (p n && decide (f n = h)) = true then 1 else 0) H := fb_sm_add _ _ H
    have h3 : fb_sm (fun h => if (p n && decide (f n = h)) = true then 1 else 0) H = if p n = true then 1 else 0 := by
      cases hp : p n with
      | false => exact (fb_sm_cong (g := fun _ => 0) (fun _ _ => rfl)).trans ((fb_sm_const 0 H).trans (Nat.mul_zero H))
      | true =>
        have hfn := hf n (by omega)
        have := fb_sm_upd (fun _ => 0) 1 hfn
        rw [fb_sm_const] at this
        rw [if_pos rfl]
        refine Eq.trans (fb_sm_cong (g := fun k => if k = f n then 1 else 0) (fun k _ => ?_)) (by simpa using this)
        by_cases z : k = f n
        · rw [if_pos z, if_pos (by rw [Bool.true_and]; exact decide_eq_true z.symm)]
        · rw [if_neg z, if_neg (by rw [Bool.true_and]; simp only [decide_eq_true_eq]; exact fun q => z q.symm)]
    rw [h2, h1, h3, fb_ct_succ]
section
variable {T U : TW} {t m g e : St} {r : RU}
def HcI (r : RU) (T : TW) (i : Nat) (t g : St) : Prop := RcT (hrN r T i) t ∧ RcR r.1 r.2 g
theorem C_step (hli : LiO T) (hok : okR r.1 r.2) {i : Nat} (h : HcI r T i t g) (ho : T.o + i + 1 < 100000) (e : St) : ∃ e' g' t', f2_passHour e g t = some (e', g', t') ∧ HcI r T (i + 1) t' g' ∧ Bm T.L (lNn r (hrN r T i)) (e'.1 0) ∧ Bm T.L (cMp r (hrN r T i)) (e'.1 1) ∧ e'.1 2 = nI (qRl r (hrN r T i)) := by
  obtain ⟨e', g', t', h1, h2, h3, h4, h5, h6⟩ := C_passHour (e := e) h.1 (hrN_LiO hli i) h.2 hok (by rw [hrN_o]; omega)
  rw [(hrN_st i).2.1] at h4 h5
  exact ⟨e', g', t', h1, ⟨h3, h2⟩, h4, h5, h6⟩
def HmI (r : RU) (T : TW) (i : Nat) (m0 m : St) : Prop := RmT (hrN r T i) m ∧ Fr [28, 29, 35, 36] [23, 33, 34, 37] m0 m
theorem M_step (hli : LiO T) (hok : okR r.1 r.2) {m0 : St} (hR : RmR r.1 r.2 m0) {i : Nat} (h : HmI r T i m0 m) (ho : T.o + i + 1 < 100000) : ∃ m', f11_anHour m = some m' ∧ HmI r T (i + 1) m0 m' ∧ Bm T.L (lNn r (hrN r T i)) (m'.1 36) ∧ m'.1 35 = nI (qRl r (hrN r T i)) ∧ ∀ k, k < T.H → m'.2 37 k = nI (fb_ct (fun l => cMp r (hrN r T i) l && decide (T.ho l = k)) T.L) := by
  obtain ⟨m', h1, h2, h3, h4, h5, h6⟩ := M_anHour h.1 (hrN_LiO hli i) (hR.fr h.2) hok (by rw [hrN_o]; omega)
  have e := hrN_st (r := r) (T := T) i
  rw [e.2.1] at h4
  refine ⟨m', h1, ⟨h3, h.2.trans h2⟩, h4, h5, fun k hk => ?_⟩
  have := h6 k (by rw [e.1]; exact hk)
  rw [e.2.1, e.2.2.2.2.2.2.1] at this
  exact this
theorem M_allGrief (h : RmT T m) {p : Nat → Bool} (hg : ∀ k, k < T.H → m.2 37 k = nI (fb_ct (fun l => p l && decide (T.ho l = k)) T.L)) : f11_allGrief m = some (nI (fb_ct p T.L)) := by
  have hH := h.W.H8
  have e1 : lpw (f11_allGrief_L1 m) (0, 0) = some (nI (fb_sm (fun k => fb_ct (fun l => p l && decide (T.ho l = k)) T.L) T.H)) := by
    refine lpw_S (fun i => (nI (fb_sm (fun k => fb_ct (fun l => p l && decide (T.ho l = k)) T.L) i), nI i)) T.H (fun i hi => ?_) (if_pos (by rw [cl_0, h.eH]; exact Int32.le_refl _))
    unfold f11_allGrief_L1
    dsimp only
    rw [cl_0, h.eH, if_neg (nI_ge hi (by omega)), ldO_n _ (by omega) (by omega), hg i hi, Option.bind_some, nI_add, nI_1, fb_sm_succ]
  unfold f11_allGrief
  rw [e1, sm_part T.L (fun l hl => h.W.hoH hl)]
  rfl
/-- a trial: what was packed comes back -/
theorem M_pack39 (h : RmT T m) : ∃ f, f11_pack_39 m (0 : Int32) = some (sA m 39 f) ∧ PK T f 0 := by
  obtain ⟨f, h1, h2, -⟩ := M_pack_39 h (b := 0) (by decide)
  exact ⟨f, h1, h2⟩
theorem M_unpack39 (h : RmT U m) (hS : Same U T) (hT : WfT T) (hp : PK T (m.2 39) 0) : ∃ m', f11_unpack_39 m (0 : Int32) = some m' ∧ Fr [28, 29, 30] [23, 24, 25, 26] m m' ∧ RmT T m' := M_unpack_39 h hS hT (b := 0) (by decide) hp
theorem M_pack46 (h : RmT T m) : ∃ f, f11_pack_46 m (0 : Int32) = some (sA m 46 f) ∧ PK T f 0 := by
  obtain ⟨f, h1, h2, -⟩ := M_pack_46 h (b := 0) (by decide)
  exact ⟨f, h1, h2⟩
theorem M_unpack46 (h : RmT U m) (hS : Same U T) (hT : WfT T) (hp : PK T (m.2 46) 0) : ∃ m', f11_unpack_46 m (0 : Int32) = some m' ∧ Fr [28, 29, 30] [23, 24, 25, 26] m m' ∧ RmT T m' := M_unpack_46 h hS hT (b := 0) (by decide) hp
theorem same_hr (i : Nat) : Same (hrN r T i) T := by
  have e := hrN_st (r := r) (T := T) i
  exact ⟨e.1, e.2.1, e.2.2.1, e.2.2.2.1⟩
theorem HmI.zero (h : RmT T m) : HmI r T 0 m m := ⟨h, Fr.refl _ _ _⟩
theorem HcI.zero (h : RcT T t) (hg : RcR r.1 r.2 g) : HcI r T 0 t g := ⟨h, hg⟩
/-- scratch of the reference -/
def sS1 : List Nat := [14, 15, 16, 17, 18, 19, 20, 21, 28, 29, 30, 35, 36, 48]
def sA1 : List Nat := [5, 6, 7, 8, 9, 23, 24, 25, 26, 33, 34, 37, 38, 39, 40, 41, 42, 46, 47]
/-- the frame of a whole trial -/
theorem M_trial (h : RmT T m) : ∃ f, f11_pack_39 m (0 : Int32) = some (sA m 39 f) ∧ RmT T (sA m 39 f) ∧ ∀ (U : TW) (m' : St), RmT U m' → Same U T → Fr [28, 29, 30, 35, 36, 48] [23, 33, 34, 37] (sA m 39 f) m' → ∃ m2, f11_unpack_39 m' (0 : Int32) = some m2 ∧ RmT T m2 ∧ Fr sS1 sA1 m m2 ∧ Fr [28, 29, 30] [23, 24, 25, 26] m' m2 := by
  obtain ⟨f, h1, h2⟩ := M_pack39 h
  refine ⟨f, h1, h.fr (Fr.sA (S := []) (A := [39]) m 39 f (by decide)), fun U m' hU hS hf => ?_⟩
  obtain ⟨m2, h3, h4, h5⟩ := M_unpack39 hU hS h.W (by rw [hf.2 39 (by decide)]; exact h2)
  exact ⟨m2, h3, h5, ((Fr.sA m 39 f (by decide)).trans (hf.mono (by decide) (by decide))).trans (h4.mono (by decide) (by decide)), h4⟩
end
def sS2 : List Nat := 2 :: sS1
/-! guards -/
theorem xB_i {α β : Type} (v : α) (k : α → Option (β ⊕ Nat)) : xB (some (.inl v)) k = k v := rfl
theorem xB_o {α β : Type} (n : Nat) (k : α → Option (β ⊕ Nat)) : xB (some (.inr n)) k = some (.inr n) := rfl
theorem wI_s {α : Type} (v : α) : wI (some v) = some (.inl v) := rfl
theorem lgc_lt (x y : Int64) : (lg_cmp x y < 0) = (x < y) := by
  unfold lg_cmp
  refine propext ?_
  by_cases h : x > y
  · rw [if_pos h]
    have h : y.toInt < x.toInt := (fa_lt64 _ _).1 h
    exact ⟨fun z => absurd z (by decide), fun z => by have := (fa_lt64 _ _).1 z; omega⟩
  · rw [if_neg h]
    by_cases e : x = y
    · rw [if_pos e, e]
      exact ⟨fun z => absurd z (by decide), fun z => by have := (fa_lt64 _ _).1 z; omega⟩
    · rw [if_neg e]
      refine ⟨fun _ => (fa_lt64 _ _).2 ?_, fun _ => by decide⟩
      have h1 : ¬ y.toInt < x.toInt := fun z => h ((fa_lt64 _ _).2 z)
      have h2 : ¬ x.toInt = y.toInt := fun z => e ((fa_eq64 _ _).2 z)
      omega
theorem lgc_gt (x y : Int64) : (0 < lg_cmp x y) = (y < x) := by
  unfold lg_cmp
  refine propext ?_
  by_cases h : x > y
  · rw [if_pos h]
    exact ⟨fun _ => h, fun _ => by decide⟩
  · rw [if_neg h]
    by_cases e : x = y
    · rw [if_pos e, e]
      exact ⟨fun z => absurd z (by decide), fun z => by have := (fa_lt64 _ _).1 z; omega⟩
    · rw [if_neg e]
      exact ⟨fun z => absurd z (by decide), fun z => absurd z h⟩
theorem isIn_e (x a b : Int64) : f11_isIn x a b = some (decide (a ≤ x ∧ x ≤ b)) := by
  unfold f11_isIn
  simp only [lgc_lt, lgc_gt]
  by_cases h : x < a
  · rw [if_pos h, decide_eq_false]
    intro z
    have h1 := (fa_lt64 _ _).1 h
    have h2 := (fa_le64 _ _).1 z.1
    omega
  · rw [if_neg h]
    have h1 : ¬ x.toInt < a.toInt := fun z => h ((fa_lt64 _ _).2 z)
    by_cases g : b < x
    · rw [if_pos g, decide_eq_false]
      intro z
      have h1 := (fa_lt64 _ _).1 g
      have h2 := (fa_le64 _ _).1 z.2
      omega
    · rw [if_neg g, decide_eq_true]
      have h2 : ¬ b.toInt < x.toInt := fun z => g ((fa_lt64 _ _).2 z)
      exact ⟨(fa_le64 _ _).2 (by omega), (fa_le64 _ _).2 (by omega)⟩
theorem isIn_w (x a b : Int32) : f11_isIn x.toInt64 a.toInt64 b.toInt64 = some (decide (a ≤ x ∧ x ≤ b)) := by
  rw [isIn_e]
  have : (a.toInt64 ≤ x.toInt64 ∧ x.toInt64 ≤ b.toInt64) ↔ (a ≤ x ∧ x ≤ b) := by rw [fa_wide_le, fa_wide_le]
  by_cases h : a ≤ x ∧ x ≤ b
  · rw [decide_eq_true h, decide_eq_true (this.2 h)]
  · rw [decide_eq_false h, decide_eq_false (fun z => h (this.1 z))]
theorem in_pred {x : Int32} {n : Nat} (hn : n < 2147483648) : (0 ≤ x ∧ x ≤ nI n - 1) ↔ (¬ x < 0 ∧ x < nI n) := by
  have h0 := nI_toInt (n := n) hn
  have h1 : (nI n - 1).toInt = (n : Int) - 1 := by
    have h3 : (1 : Int32).toInt = 1 := by decide +kernel
    rw [fb_subI (by rw [h0, h3]; omega) (by rw [h0, h3]; omega), h0, h3]
  have h2 : (0 : Int32).toInt = 0 := by decide +kernel
  rw [fa_le, fa_le, fa_lt, fa_lt, h1, h0, h2]
  omega
section
variable {T : TW} {t m x : St} {r : RU}
theorem lampCase (h : RcT T t) (h' : RmT T m) (sx : St) (y : Int32) : (f10_needLamp sx t y = some (.inr 1) ∧ f11_isLamp m y = some false) ∨ ∃ j, j < T.L ∧ y = nI j ∧ f10_needLamp sx t y = some (.inl ()) ∧ f11_isLamp m y = some true := by
  have hL := h.W.L12
  have e : f11_isLamp m y = some (decide (¬ y < 0 ∧ y < nI T.L)) := by
    unfold f11_isLamp
    rw [cl_1, h'.eL, show (0 : Int64) = (0 : Int32).toInt64 from by decide +kernel, isIn_w, Option.bind_some]
    congr 1
    exact decide_eq_decide.2 (in_pred (by omega))
  unfold f10_needLamp
  rw [h.eL, e]
  rcases pk_ix y (n := T.L) (by omega) with q | q | ⟨j, q, rfl⟩
  · exact .inl ⟨if_pos q, by rw [decide_eq_false (fun z => z.1 q)]⟩
  · left
    have hq : ¬ y < nI T.L := fun z => (fa_of_lt z).2.1 q
    refine ⟨?_, by rw [decide_eq_false (fun z => hq z.2)]⟩
    by_cases z : y < 0
    · rw [if_pos z]
    · rw [if_neg z, if_neg hq]
  · refine .inr ⟨j, q, rfl, ?_, ?_⟩
    · rw [if_neg (nI_pos (by omega)), if_pos (nI_lt q (by omega))]; rfl
    · rw [decide_eq_true ⟨nI_pos (by omega), nI_lt q (by omega)⟩]
theorem houseCase (h : RcT T t) (h' : RmT T m) (sx : St) (y : Int32) : (f10_needHouse sx t y = some (.inr 1) ∧ f11_isHouse m y = some false) ∨ ∃ j, j < T.H ∧ y = nI j ∧ f10_needHouse sx t y = some (.inl ()) ∧ f11_isHouse m y = some true := by
  have hH := h.W.H8
  have e : f11_isHouse m y = some (decide (¬ y < 0 ∧ y < nI T.H)) := by
    unfold f11_isHouse
    rw [cl_0, h'.eH, show (0 : Int64) = (0 : Int32).toInt64 from by decide +kernel, isIn_w, Option.bind_some]
    congr 1
    exact decide_eq_decide.2 (in_pred (by omega))
  unfold f10_needHouse
  rw [h.eH, e]
  rcases pk_ix y (n := T.H) (by omega) with q | q | ⟨j, q, rfl⟩
  · exact .inl ⟨if_pos q, by rw [decide_eq_false (fun z => z.1 q)]⟩
  · left
    have hq : ¬ y < nI T.H := fun z => (fa_of_lt z).2.1 q
    refine ⟨?_, by rw [decide_eq_false (fun z => hq z.2)]⟩
    by_cases z : y < 0
    · rw [if_pos z]
    · rw [if_neg z, if_neg hq]
  · refine .inr ⟨j, q, rfl, ?_, ?_⟩
    · rw [if_neg (nI_pos (by omega)), if_pos (nI_lt q (by omega))]; rfl
    · rw [decide_eq_true ⟨nI_pos (by omega), nI_lt q (by omega)⟩]
theorem le_nI {n : Nat} {x : Int32} (hn : n + 1 < 2147483648) (h : ¬ x < 0) : (x ≤ nI n) ∨ nI (n + 1) ≤ x := by
  rcases pk_ix x (n := n + 1) hn with q | q | ⟨j, q, rfl⟩
  · exact absurd q h
  · exact .inr q
  · exact .inl (nI_le (by omega) (by omega))
theorem aheadCase (y : Int32) : (f10_needAhead y = some (.inr 0) ∧ f11_isIn y.toInt64 (0 : Int64) (96 : Int64) = some false) ∨ ∃ j, j ≤ 96 ∧ y = nI j ∧ f10_needAhead y = some (.inl ()) ∧ f11_isIn y.toInt64 (0 : Int64) (96 : Int64) = some true := by
  unfold f10_needAhead
  rw [show (0 : Int64) = (0 : Int32).toInt64 from by decide +kernel, show (96 : Int64) = (96 : Int32).toInt64 from by decide +kernel, isIn_w]
  rcases pk_ix y (n := 97) (by omega) with q | q | ⟨j, q, rfl⟩
  · exact .inl ⟨if_pos q, by rw [decide_eq_false (fun z => (fa_of_lt q).2.1 z.1)]⟩
  · have hq : ¬ y ≤ 96 := fun z => by
      have h1 := (fa_le _ _).1 z
      have h2 := (fa_le _ _).1 q
      rw [show (nI 97).toInt = 97 from by decide +kernel] at h2
      rw [show (96 : Int32).toInt = 96 from by decide +kernel] at h1
      omega
    left
    refine ⟨?_, by rw [decide_eq_false (fun z => hq z.2)]⟩
    by_cases z : y < 0
    · rw [if_pos z]
    · rw [if_neg z, if_neg hq]
  · refine .inr ⟨j, by omega, rfl, ?_, ?_⟩
    · rw [if_neg (nI_pos (by omega)), if_pos (show nI j ≤ 96 from nI_le (b := 96) (by omega) (by decide))]; rfl
    · rw [decide_eq_true ⟨nI_pos' (by omega), show nI j ≤ 96 from nI_le (b := 96) (by omega) (by decide)⟩]
end
/-! both answers agree: c the class's, a the reference's; kf what is thrown, as the reference counts it -/
def kfN (j : Nat) : Int32 := if j = 1 then 1 else 2
def kfI (j : Nat) : Int32 := if j = 0 then 1 else 2
def Agr {S : Type} (c : Option ((Int32 × S) ⊕ Nat)) (kf : Nat → Int32) (a : Option (Int32 × St)) (s0 : S) (P : S → St → Prop) : Prop := ∃ w m', a = some (w, m') ∧ ((∃ s, c = some (.inl (w, s)) ∧ m'.1 2 = 0 ∧ P s m') ∨ ∃ j, c = some (.inr j) ∧ m'.1 2 = kf j ∧ P s0 m')
