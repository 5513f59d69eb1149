/-! hours that go by on trial -/
theorem sm_part {p : Nat → Bool} {f : Nat → Nat} {H : Nat} : ∀ n, (∀ l, l < n → f l < H) → fb_sm (fun h => fb_ct (fun l => p l && decide (f l = h)) n) H = fb_ct p n := by
  intro n
  induction n with
  | zero => intro _; exact (fb_sm_cong (g := fun _ => 0) (fun _ _ => rfl)).trans ((fb_sm_const 0 H).trans (Nat.mul_zero H))
  | succ n ih =>
    intro hf
    have h1 := ih (fun l hl => hf l (by omega))
    have h2 : fb_sm (fun h => fb_ct (fun l => p l && decide (f l = h)) (n + 1)) H = fb_sm (fun h => fb_ct (fun l => p l && decide (f l = h)) n) H + fb_sm (fun h => if (p n && decide (f n = h)) = true then 1 else 0) H := fb_sm_add _ _ H
    have h3 : fb_sm (fun h => if (p n && decide (f n = h)) = true then 1 else 0) H = if p n = true then 1 else 0 := by
      cases hp : p n with
      | false => exact (fb_sm_cong (g := fun _ => 0) (fun _ _ => rfl)).trans ((fb_sm_const 0 H).trans (Nat.mul_zero H))
      | true =>
        have hfn := hf n (by omega)
        have := fb_sm_upd (fun _ => 0) 1 hfn
        rw [fb_sm_const] at this
        rw [if_pos rfl]
        refine Eq.trans (fb_sm_cong (g := fun k => if k = f n then 1 else 0) (fun k _ => ?_)) (by simpa using this)
        by_cases z : k = f n
        · rw [if_pos z, if_pos (by rw [Bool.true_and]; exact decide_eq_true z.symm)]
        · rw [if_neg z, if_neg (by rw [Bool.true_and]; simp only [decide_eq_true_eq]; exact fun q => z q.symm)]
    rw [h2, h1, h3, fb_ct_succ]
section
variable {T U : TW} {t m g e : St} {r : RU}
def HcI (r : RU) (T : TW) (i : Nat) (t g : St) : Prop := RcT (hrN r T i) t ∧ RcR r.1 r.2 g
theorem C_step (hli : LiO T) (hok : okR r.1 r.2) {i : Nat} (h : HcI r T i t g) (ho : T.o + i + 1 < 100000) (e : St) : ∃ e' g' t', f2_passHour e g t = some (e', g', t') ∧ HcI r T (i + 1) t' g' ∧ Bm T.L (lNn r (hrN r T i)) (e'.1 0) ∧ Bm T.L (cMp r (hrN r T i)) (e'.1 1) ∧ e'.1 2 = nI (qRl r (hrN r T i)) := by
  obtain ⟨e', g', t', h1, h2, h3, h4, h5, h6⟩ := C_passHour (e := e) h.1 (hrN_LiO hli i) h.2 hok (by rw [hrN_o]; omega)
  rw [(hrN_st i).2.1] at h4 h5
  exact ⟨e', g', t', h1, ⟨h3, h2⟩, h4, h5, h6⟩
def HmI (r : RU) (T : TW) (i : Nat) (m0 m : St) : Prop := RmT (hrN r T i) m ∧ Fr [28, 29, 35, 36] [23, 33, 34, 37] m0 m
theorem M_step (hli : LiO T) (hok : okR r.1 r.2) {m0 : St} (hR : RmR r.1 r.2 m0) {i : Nat} (h : HmI r T i m0 m) (ho : T.o + i + 1 < 100000) : ∃ m', f11_anHour m = some m' ∧ HmI r T (i + 1) m0 m' ∧ Bm T.L (lNn r (hrN r T i)) (m'.1 36) ∧ m'.1 35 = nI (qRl r (hrN r T i)) ∧ ∀ k, k < T.H → m'.2 37 k = nI (fb_ct (fun l => cMp r (hrN r T i) l && decide (T.ho l = k)) T.L) := by
  obtain ⟨m', h1, h2, h3, h4, h5, h6⟩ := M_anHour h.1 (hrN_LiO hli i) (hR.fr h.2) hok (by rw [hrN_o]; omega)
  have e := hrN_st (r := r) (T := T) i
  rw [e.2.1] at h4
  refine ⟨m', h1, ⟨h3, h.2.trans h2⟩, h4, h5, fun k hk => ?_⟩
  have := h6 k (by rw [e.1]; exact hk)
  rw [e.2.1, e.2.2.2.2.2.2.1] at this
  exact this
theorem M_allGrief (h : RmT T m) {p : Nat → Bool} (hg : ∀ k, k < T.H → m.2 37 k = nI (fb_ct (fun l => p l && decide (T.ho l = k)) T.L)) : f11_allGrief m = some (nI (fb_ct p T.L)) := by
  have hH := h.W.H8
  have e1 : lpw (f11_allGrief_L1 m) (0, 0) = some (nI (fb_sm (fun k => fb_ct (fun l => p l && decide (T.ho l = k)) T.L) T.H)) := by
    refine lpw_S (fun i => (nI (fb_sm (fun k => fb_ct (fun l => p l && decide (T.ho l = k)) T.L) i), nI i)) T.H (fun i hi => ?_) (if_pos (by rw [cl_0, h.eH]; exact Int32.le_refl _))
    unfold f11_allGrief_L1
    dsimp only
    rw [cl_0, h.eH, if_neg (nI_ge hi (by omega)), ldO_n _ (by omega) (by omega), hg i hi, Option.bind_some, nI_add, nI_1, fb_sm_succ]
  unfold f11_allGrief
  rw [e1, sm_part T.L (fun l hl => h.W.hoH hl)]
  rfl
/-- a trial: what was packed comes back -/
theorem M_pack39 (h : RmT T m) : ∃ f, f11_pack_39 m (0 : Int32) = some (sA m 39 f) ∧ PK T f 0 := by
  obtain ⟨f, h1, h2, -⟩ := M_pack_39 h (b := 0) (by decide)
  exact ⟨f, h1, h2⟩
theorem M_unpack39 (h : RmT U m) (hS : Same U T) (hT : WfT T) (hp : PK T (m.2 39) 0) : ∃ m', f11_unpack_39 m (0 : Int32) = some m' ∧ Fr [28, 29, 30] [23, 24, 25, 26] m m' ∧ RmT T m' := M_unpack_39 h hS hT (b := 0) (by decide) hp
theorem M_pack46 (h : RmT T m) : ∃ f, f11_pack_46 m (0 : Int32) = some (sA m 46 f) ∧ PK T f 0 := by
  obtain ⟨f, h1, h2, -⟩ := M_pack_46 h (b := 0) (by decide)
  exact ⟨f, h1, h2⟩
theorem M_unpack46 (h : RmT U m) (hS : Same U T) (hT : WfT T) (hp : PK T (m.2 46) 0) : ∃ m', f11_unpack_46 m (0 : Int32) = some m' ∧ Fr [28, 29, 30] [23, 24, 25, 26] m m' ∧ RmT T m' := M_unpack_46 h hS hT (b := 0) (by decide) hp
theorem same_hr (i : Nat) : Same (hrN r T i) T := by
  have e := hrN_st (r := r) (T := T) i
  exact ⟨e.1, e.2.1, e.2.2.1, e.2.2.2.1⟩
theorem HmI.zero (h : RmT T m) : HmI r T 0 m m := ⟨h, Fr.refl _ _ _⟩
theorem HcI.zero (h : RcT T t) (hg : RcR r.1 r.2 g) : HcI r T 0 t g := ⟨h, hg⟩
/-- scratch of the reference -/
def sS1 : List Nat := [2, 14, 15, 16, 17, 18, 19, 20, 21, 28, 29, 30, 35, 36, 48]
def sA1 : List Nat := [5, 6, 7, 8, 9, 23, 24, 25, 26, 33, 34, 37, 38, 39, 40, 41, 42, 46, 47]
/-- the frame of a whole trial -/
theorem M_trial (h : RmT T m) : ∃ f, f11_pack_39 m (0 : Int32) = some (sA m 39 f) ∧ RmT T (sA m 39 f) ∧ ∀ (U : TW) (m' : St), RmT U m' → Same U T → Fr [28, 29, 30, 35, 36, 48] [23, 33, 34, 37] (sA m 39 f) m' → ∃ m2, f11_unpack_39 m' (0 : Int32) = some m2 ∧ RmT T m2 ∧ Fr sS1 sA1 m m2 ∧ Fr [28, 29, 30] [23, 24, 25, 26] m' m2 := by
  obtain ⟨f, h1, h2⟩ := M_pack39 h
  refine ⟨f, h1, h.fr (Fr.sA (S := []) (A := [39]) m 39 f (by decide)), fun U m' hU hS hf => ?_⟩
  obtain ⟨m2, h3, h4, h5⟩ := M_unpack39 hU hS h.W (by rw [hf.2 39 (by decide)]; exact h2)
  exact ⟨m2, h3, h5, ((Fr.sA m 39 f (by decide)).trans (hf.mono (by decide) (by decide))).trans (h4.mono (by decide) (by decide)), h4⟩
end
