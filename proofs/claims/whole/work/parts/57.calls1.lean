/-! what will be, if only hours go by: both answers -/
section
variable {T U : TW} {t t2 m g e sx : St} {r : RU}
theorem rangeCase (lo hi : Nat) (hl : lo ≤ hi) (hh : hi < 1000) (y : Int32) : (f11_isIn y.toInt64 (lN lo) (lN hi) = some false ∧ (y < nI lo ∨ ¬ y < nI lo ∧ ¬ y ≤ nI hi)) ∨ ∃ j, lo ≤ j ∧ j ≤ hi ∧ y = nI j ∧ f11_isIn y.toInt64 (lN lo) (lN hi) = some true := by
  have a1 := nI_toInt (n := lo) (by omega)
  have a2 := nI_toInt (n := hi) (by omega)
  rw [← nI_l (n := lo) (by omega), ← nI_l (n := hi) (by omega), isIn_w]
  by_cases h1 : y < nI lo
  · exact .inl ⟨by rw [decide_eq_false (fun z => (fa_of_lt h1).2.1 z.1)], .inl h1⟩
  · by_cases h2 : y ≤ nI hi
    · right
      have b1 : ¬ y.toInt < (nI lo).toInt := fun z => h1 ((fa_lt _ _).2 z)
      have b2 : y.toInt ≤ (nI hi).toInt := (fa_le _ _).1 h2
      have b3 : ¬ y < 0 := fun z => by
        have := (fa_lt _ _).1 z
        rw [show (0 : Int32).toInt = 0 from by decide +kernel] at this
        omega
      obtain ⟨j, hj, rfl⟩ := nI_of b3
      have b4 := nI_toInt (n := j) hj
      refine ⟨j, by omega, by omega, rfl, by rw [decide_eq_true]; exact ⟨(fa_le _ _).2 (by omega), h2⟩⟩
    · exact .inl ⟨by rw [decide_eq_false (fun z => h2 z.2)], .inr ⟨h1, h2⟩⟩
/-- the class's trials -/
theorem C_trialA {F : Int32 × St × St × St → Option ((Int32 × St × St × St) ⊕ (St × St × St))} {n : Nat} (h : RcT T t) (hg : RcR r.1 r.2 g) (hli : LiO T) (hok : okR r.1 r.2) (ho : T.o + n < 100000) (hF : ∀ i t e g, i < n → F (nI i, t, e, g) = (f2_passHour e g t).bind fun q => some (.inl (nI i + 1, q.2.2, q.1, q.2.1))) (hX : ∀ t e g, F (nI n, t, e, g) = some (.inr (t, e, g))) (t2 e : St) : ∃ t1 t' e' g', f9_copyFrom t2 t = some t1 ∧ lpw F (0, t1, e, g) = some (t', e', g') ∧ RcR r.1 r.2 g' ∧ RcT (hrN r T n) t' ∧ ∀ k, n = k + 1 → Bm T.L (lNn r (hrN r T k)) (e'.1 0) := by
  obtain ⟨t1, h1, h2⟩ := C_copyFrom t2 t
  obtain ⟨t', e', g', h3, h4, h5⟩ := C_loopA hli hok ho hF hX (HcI.zero (h2 T h) hg) e
  exact ⟨t1, t', e', g', h1, h3, h4.2, h4.1, h5⟩
theorem C_trialB {F : Int32 × Int32 × St × St × St → Option ((Int32 × Int32 × St × St × St) ⊕ (Int32 × St × St × St))} {n : Nat} (D : St × St × St → Option Int32) (δ : Nat → Nat) (h : RcT T t) (hg : RcR r.1 r.2 g) (hli : LiO T) (hok : okR r.1 r.2) (ho : T.o + n < 100000) (hF : ∀ i a t e g, i < n → F (a, nI i, t, e, g) = (f2_passHour e g t).bind fun q => (D q).bind fun d => some (.inl (a + d, nI i + 1, q.2.2, q.1, q.2.1))) (hX : ∀ a t e g, F (a, nI n, t, e, g) = some (.inr (a, t, e, g))) (hD : ∀ i e' g' t', i < n → Bm T.L (lNn r (hrN r T i)) (e'.1 0) → Bm T.L (cMp r (hrN r T i)) (e'.1 1) → e'.1 2 = nI (qRl r (hrN r T i)) → D (e', g', t') = some (nI (δ i))) (t2 e : St) : ∃ t1 t' e' g', f9_copyFrom t2 t = some t1 ∧ lpw F (0, 0, t1, e, g) = some (nI (fb_sm δ n), t', e', g') ∧ RcR r.1 r.2 g' := by
  obtain ⟨t1, h1, h2⟩ := C_copyFrom t2 t
  obtain ⟨t', e', g', h3, h4⟩ := C_loopB D δ hli hok ho hF hX hD (HcI.zero (h2 T h) hg) e
  exact ⟨t1, t', e', g', h1, h3, h4.2⟩
/-- the reference's -/
theorem M_trialA {F : Int32 × St → Option ((Int32 × St) ⊕ St)} {n : Nat} (h : RmT T m) (hR : RmR r.1 r.2 m) (hli : LiO T) (hok : okR r.1 r.2) (ho : T.o + n < 100000) (hF : ∀ i q, i < n → F (nI i, q) = (f11_anHour q).bind fun q => some (.inl (nI i + 1, q))) (hX : ∀ q, F (nI n, q) = some (.inr q)) : ∃ m1 m2 m3, f11_pack_39 m (0 : Int32) = some m1 ∧ lpw F (0, m1) = some m2 ∧ f11_unpack_39 m2 (0 : Int32) = some m3 ∧ RmT T m3 ∧ Fr sS1 sA1 m m3 ∧ m3.1 36 = m2.1 36 ∧ RmT T m1 ∧ RmT (hrN r T n) m2 ∧ ∀ k, n = k + 1 → Bm T.L (lNn r (hrN r T k)) (m2.1 36) := by
  obtain ⟨f, p1, p2, p3⟩ := M_trial h
  obtain ⟨m2, h1, h2, h3⟩ := M_loopA hli hok (hR.fr (Fr.sA (S := []) (A := [39]) m 39 f (by decide))) ho hF hX p2
  obtain ⟨m3, h4, h5, h6, h7⟩ := p3 _ m2 h2.1 (same_hr n) (h2.2.mono (by decide) (by decide))
  exact ⟨_, m2, m3, p1, h1, h4, h5, h6, h7.1 36 (by decide), p2, h2.1, h3⟩
theorem M_trialB {F : Int32 × Int32 × St → Option ((Int32 × Int32 × St) ⊕ (Int32 × St))} {n : Nat} (D : St → Option Int32) (δ : Nat → Nat) (h : RmT T m) (hR : RmR r.1 r.2 m) (hli : LiO T) (hok : okR r.1 r.2) (ho : T.o + n < 100000) (hF : ∀ i a q, i < n → F (a, nI i, q) = (f11_anHour q).bind fun q => (D q).bind fun d => some (.inl (a + d, nI i + 1, q))) (hX : ∀ a q, F (a, nI n, q) = some (.inr (a, q))) (hD : ∀ i m', i < n → RmT (hrN r T (i + 1)) m' → Bm T.L (lNn r (hrN r T i)) (m'.1 36) → m'.1 35 = nI (qRl r (hrN r T i)) → (∀ k, k < T.H → m'.2 37 k = nI (fb_ct (fun l => cMp r (hrN r T i) l && decide (T.ho l = k)) T.L)) → D m' = some (nI (δ i))) : ∃ m1 m2 m3, f11_pack_39 m (0 : Int32) = some m1 ∧ lpw F (0, 0, m1) = some (nI (fb_sm δ n), m2) ∧ f11_unpack_39 m2 (0 : Int32) = some m3 ∧ RmT T m3 ∧ Fr sS1 sA1 m m3 := by
  obtain ⟨f, p1, p2, p3⟩ := M_trial h
  obtain ⟨m2, h1, h2⟩ := M_loopB D δ hli hok (hR.fr (Fr.sA (S := []) (A := [39]) m 39 f (by decide))) ho hF hX (fun i m' hi a => hD i m' hi a.1) p2
  obtain ⟨m3, h4, h5, h6, h7⟩ := p3 _ m2 h2.1 (same_hr n) (h2.2.mono (by decide) (by decide))
  exact ⟨_, m2, m3, p1, h1, h4, h5, h6⟩
/-- what a question leaves -/
def QP (r : RU) (T : TW) (m : St) (g' m' : St) : Prop := RcR r.1 r.2 g' ∧ RmT T m' ∧ Fr sS2 sA1 m m'
theorem fr2 (m : St) : Fr [2] [] m (sS m 2 0) := Fr.sS m 2 0 (by decide)
theorem fr2' {m' : St} (h : Fr sS1 sA1 (sS m 2 0) m') : Fr sS2 sA1 m m' := ((fr2 m).mono (by decide) (by decide)).trans (h.mono (by decide) (by decide))
theorem z2 {m' : St} (h : Fr sS1 sA1 (sS m 2 0) m') : m'.1 2 = 0 := (h.1 2 (by decide)).trans (sS_1e _ _ _)
theorem fr2k (m : St) (k : Int32) : Fr sS2 sA1 m (sS (sS m 2 0) 2 k) := (Fr.sS m 2 0 (by decide)).trans (Fr.sS _ 2 k (by decide))
theorem RmT.s2 (h : RmT T m) : RmT T (sS m 2 0) := h.fr (fr2 m)
theorem RmT.s2k (h : RmT T m) (k : Int32) : RmT T (sS (sS m 2 0) 2 k) := h.fr ((fr2 m).trans (Fr.sS _ 2 k (by decide)))
theorem RmR.s2 {n : Nat} {c : Nat → Nat} (h : RmR n c m) : RmR n c (sS m 2 0) := h.fr (fr2 m)
theorem fail_e (m : St) (k : Int32) : f11_fail m k = some (0, sS m 2 k) := rfl
/-- thrown -/
theorem AgrX {S : Type} {c : Option ((Int32 × S) ⊕ Nat)} {kf : Nat → Int32} {a : Option (Int32 × St)} {s0 : S} {P : S → St → Prop} (j : Nat) (hc : c = some (.inr j)) (ha : a = some (0, sS (sS m 2 0) 2 (kf j))) (hP : P s0 (sS (sS m 2 0) 2 (kf j))) : Agr c kf a s0 P := ⟨_, _, ha, .inr ⟨j, hc, sS_1e _ _ _, hP⟩⟩
theorem Q_then (h : RcT T t) (h' : RmT T m) (hg : RcR r.1 r.2 g) (hR : RmR r.1 r.2 m) (hok : okR r.1 r.2) (hli : LiO T) (ho : T.o < 10000) (t2 e sx : St) (y : Int32) : Agr (f10_then sx t t2 e g y) kfI (f11_then m y) (t2, e, g) (fun s m' => QP r T m s.2.2 m') := by
  have key := rangeCase 1 96 (by decide) (by decide) y
  rcases key with ⟨e1, e2⟩ | ⟨j, j1, j2, rfl, e1⟩
  · refine AgrX (m := m) 0 ?_ ?_ ⟨hg, h'.s2k _, fr2k m _⟩
    · unfold f10_then
      rcases e2 with e2 | ⟨e2, e3⟩
      · exact if_pos e2
      · rw [if_neg (show ¬ y < 1 from e2), if_neg (show ¬ y ≤ 96 from e3)]
    · unfold f11_then
      rw [Option.bind_some, show f11_isIn y.toInt64 1 96 = some false from e1, Option.bind_some, if_pos zB_f]
      rfl
  · obtain ⟨k, rfl⟩ : ∃ k, j = k + 1 := ⟨j - 1, by omega⟩
    obtain ⟨t1, t', e', g', c1, c2, c3, -, c4⟩ := C_trialA (F := f10_then_L2 (nI (k + 1))) (n := k + 1) h hg hli hok (by omega) (fun i t e g hi => by
      unfold f10_then_L2
      dsimp only
      rw [if_neg (nI_ge hi (by omega))]) (fun t e g => if_pos (Int32.le_refl _)) t2 e
    obtain ⟨m1, m2, m3, a1, a2, a3, a4, a5, a6, -, -, a7⟩ := M_trialA (F := f11_then_L4 (nI (k + 1))) (n := k + 1) h'.s2 hR.s2 hli hok (by omega) (fun i q hi => by
      unfold f11_then_L4
      dsimp only
      rw [if_neg (nI_ge hi (by omega))]) (fun q => if_pos (Int32.le_refl _))
    refine ⟨m3.1 36, m3, ?_, .inl ⟨(t', e', g'), ?_, z2 a5, c3, a4, fr2' a5⟩⟩
    · unfold f11_then
      rw [Option.bind_some, show f11_isIn (nI (k + 1)).toInt64 1 96 = some true from e1, Option.bind_some, if_neg (by decide), a1, Option.bind_some, a2, Option.bind_some, a3, Option.bind_some]
    · unfold f10_then
      rw [if_neg (show ¬ nI (k + 1) < 1 from nI_nlt (b := 1) (by omega) (by omega)), if_pos (show nI (k + 1) ≤ 96 from nI_le (b := 96) (by omega) (by decide)), c1, Option.bind_some, c2, Option.bind_some, wI_s]
      rw [a6, (c4 k rfl).uniq (a7 k rfl)]
theorem Q_burnt (h : RcT T t) (h' : RmT T m) (hg : RcR r.1 r.2 g) (hR : RmR r.1 r.2 m) (hok : okR r.1 r.2) (hli : LiO T) (ho : T.o < 10000) (t2 e sx : St) (y1 y2 : Int32) : Agr (f10_burnt sx t t2 e g y1 y2) kfN (f11_burnt m y1 y2) (t2, e, g) (fun s m' => QP r T m s.2.2 m') := by
  have hL := h.W.L12
  rcases lampCase h h'.s2 sx y1 with ⟨e1, e2⟩ | ⟨l, hl, rfl, e1, e2⟩
  · refine AgrX (m := m) 1 (by unfold f10_burnt; rw [e1, xB_o]) ?_ ⟨hg, h'.s2k _, fr2k m _⟩
    unfold f11_burnt
    rw [Option.bind_some, e2, Option.bind_some, if_pos zB_f]
    rfl
  · rcases aheadCase y2 with ⟨e3, e4⟩ | ⟨n, hn, rfl, e3, e4⟩
    · refine AgrX (m := m) 0 (by unfold f10_burnt; rw [e1, xB_i, e3, xB_o]) ?_ ⟨hg, h'.s2k _, fr2k m _⟩
      unfold f11_burnt
      rw [Option.bind_some, e2, Option.bind_some, if_neg (by decide), e4, Option.bind_some, if_pos zB_f]
      rfl
    · obtain ⟨t1, t', e', g', c1, c2, c3, c5, c4⟩ := C_trialA (F := f10_burnt_L4 (nI n)) (n := n) h hg hli hok (by omega) (fun i t e g hi => by
        unfold f10_burnt_L4
        dsimp only
        rw [if_neg (nI_ge hi (by omega))]) (fun t e g => if_pos (Int32.le_refl _)) t2 e
      obtain ⟨m1, m2, m3, a1, a2, a3, a4, a5, a6, a8, a9, a7⟩ := M_trialA (F := f11_burnt_L6 (nI n)) (n := n) h'.s2 hR.s2 hli hok (by omega) (fun i q hi => by
        unfold f11_burnt_L6
        dsimp only
        rw [if_neg (nI_ge hi (by omega))]) (fun q => if_pos (Int32.le_refl _))
      have hl' : l < (hrN r T n).L := by rw [(hrN_st n).2.1]; exact hl
      refine ⟨nI (T.oi l) - nI ((hrN r T n).oi l), m3, ?_, .inl ⟨(t', e', g'), ?_, z2 a5, c3, a4, fr2' a5⟩⟩
      · unfold f11_burnt
        rw [Option.bind_some, e2, Option.bind_some, if_neg (by decide), e4, Option.bind_some, if_neg (by decide), a1, Option.bind_some, ldO_n _ (by omega) (by omega), a8.eoi hl, Option.bind_some, a2, Option.bind_some, ldO_n _ (by omega) (by omega), a9.eoi hl', Option.bind_some, a3, Option.bind_some]
      · unfold f10_burnt
        rw [e1, xB_i, e3, xB_i, c1, Option.bind_some, c2, Option.bind_some, ldO_n _ (by omega) (by omega), h.eoi hl, Option.bind_some, ldO_n _ (by omega) (by omega), c5.eoi hl', Option.bind_some, wI_s]
theorem Q_shining (h : RcT T t) (h' : RmT T m) (hg : RcR r.1 r.2 g) (hR : RmR r.1 r.2 m) (hok : okR r.1 r.2) (hli : LiO T) (ho : T.o < 10000) (t2 e sx : St) (y1 y2 : Int32) : Agr (f10_shining sx t t2 e g y1 y2) kfN (f11_shining m y1 y2) (t2, e, g) (fun s m' => QP r T m s.2.2 m') := by
  have hL := h.W.L12
  rcases lampCase h h'.s2 sx y1 with ⟨e1, e2⟩ | ⟨l, hl, rfl, e1, e2⟩
  · refine AgrX (m := m) 1 (by unfold f10_shining; rw [e1, xB_o]) ?_ ⟨hg, h'.s2k _, fr2k m _⟩
    unfold f11_shining
    rw [Option.bind_some, e2, Option.bind_some, if_pos zB_f]
    rfl
  · rcases aheadCase y2 with ⟨e3, e4⟩ | ⟨n, hn, rfl, e3, e4⟩
    · refine AgrX (m := m) 0 (by unfold f10_shining; rw [e1, xB_i, e3, xB_o]) ?_ ⟨hg, h'.s2k _, fr2k m _⟩
      unfold f11_shining
      rw [Option.bind_some, e2, Option.bind_some, if_neg (by decide), e4, Option.bind_some, if_pos zB_f]
      rfl
    · obtain ⟨t1, t', e', g', c1, c2, c3⟩ := C_trialB (F := f10_shining_L4 (nI l) (nI n)) (n := n) (fun q => some (((q.1.1 0) >>> (nI l &&& 31)) &&& 1)) (fun i => if lNn r (hrN r T i) l = true then 1 else 0) h hg hli hok (by omega) (fun i a t e g hi => by
        unfold f10_shining_L4
        dsimp only
        rw [if_neg (nI_ge hi (by omega))]
        rfl) (fun a t e g => if_pos (Int32.le_refl _)) (fun i e' g' t' hi b1 b2 b3 => by
        dsimp only
        rw [bs _ (by omega), b1.at hl (by omega), zB_nI]) t2 e
      obtain ⟨m1, m2, m3, a1, a2, a3, a4, a5⟩ := M_trialB (F := f11_shining_L5 (nI l) (nI n)) (n := n) (fun q => some (((q.1 36) >>> (nI l &&& 31)) &&& 1)) (fun i => if lNn r (hrN r T i) l = true then 1 else 0) h'.s2 hR.s2 hli hok (by omega) (fun i a q hi => by
        unfold f11_shining_L5
        dsimp only
        rw [if_neg (nI_ge hi (by omega))]
        rfl) (fun a q => if_pos (Int32.le_refl _)) (fun i m' hi b0 b1 b2 b3 => by
        rw [bs _ (by omega), b1.at hl (by omega), zB_nI])
      refine ⟨nI (fb_sm (fun i => if lNn r (hrN r T i) l = true then 1 else 0) n), m3, ?_, .inl ⟨(t', e', g'), ?_, z2 a5, c3, a4, fr2' a5⟩⟩
      rotate_left
      · unfold f10_shining
        rw [e1, xB_i, e3, xB_i, c1, Option.bind_some, c2, Option.bind_some, wI_s]
      · unfold f11_shining
        rw [Option.bind_some, e2, Option.bind_some, if_neg (by decide), e4, Option.bind_some, if_neg (by decide), a1, Option.bind_some, a2, Option.bind_some, a3, Option.bind_some]
theorem Q_quarrels (h : RcT T t) (h' : RmT T m) (hg : RcR r.1 r.2 g) (hR : RmR r.1 r.2 m) (hok : okR r.1 r.2) (hli : LiO T) (ho : T.o < 10000) (t2 e sx : St) (y : Int32) : Agr (f10_quarrels sx t t2 e g y) kfI (f11_quarrels m y) (t2, e, g) (fun s m' => QP r T m s.2.2 m') := by
  rcases aheadCase y with ⟨e3, e4⟩ | ⟨n, hn, rfl, e3, e4⟩
  · refine AgrX (m := m) 0 (by unfold f10_quarrels; rw [e3, xB_o]) ?_ ⟨hg, h'.s2k _, fr2k m _⟩
    unfold f11_quarrels
    rw [Option.bind_some, e4, Option.bind_some, if_pos zB_f]
    rfl
  · obtain ⟨t1, t', e', g', c1, c2, c3⟩ := C_trialB (F := f10_quarrels_L3 (nI n)) (n := n) (fun q => some (q.1.1 2)) (fun i => qRl r (hrN r T i)) h hg hli hok (by omega) (fun i a t e g hi => by
      unfold f10_quarrels_L3
      dsimp only
      rw [if_neg (nI_ge hi (by omega))]
      rfl) (fun a t e g => if_pos (Int32.le_refl _)) (fun i e' g' t' hi b1 b2 b3 => by dsimp only; rw [b3]) t2 e
    obtain ⟨m1, m2, m3, a1, a2, a3, a4, a5⟩ := M_trialB (F := f11_quarrels_L4 (nI n)) (n := n) (fun q => some (q.1 35)) (fun i => qRl r (hrN r T i)) h'.s2 hR.s2 hli hok (by omega) (fun i a q hi => by
      unfold f11_quarrels_L4
      dsimp only
      rw [if_neg (nI_ge hi (by omega))]
      rfl) (fun a q => if_pos (Int32.le_refl _)) (fun i m' hi b0 b1 b2 b3 => by rw [b2])
    refine ⟨nI (fb_sm (fun i => qRl r (hrN r T i)) n), m3, ?_, .inl ⟨(t', e', g'), ?_, z2 a5, c3, a4, fr2' a5⟩⟩
    · unfold f11_quarrels
      rw [Option.bind_some, e4, Option.bind_some, if_neg (by decide), a1, Option.bind_some, a2, Option.bind_some, a3, Option.bind_some]
    · unfold f10_quarrels
      rw [e3, xB_i, c1, Option.bind_some, c2, Option.bind_some, wI_s]
theorem Q_grief (h : RcT T t) (h' : RmT T m) (hg : RcR r.1 r.2 g) (hR : RmR r.1 r.2 m) (hok : okR r.1 r.2) (hli : LiO T) (ho : T.o < 10000) (t2 e sx : St) (y1 y2 : Int32) : Agr (f10_grief sx t t2 e g y1 y2) kfN (f11_grief m y1 y2) (t2, e, g) (fun s m' => QP r T m s.2.2 m') := by
  have hL := h.W.L12
  have hH := h.W.H8
  rcases houseCase h h'.s2 sx y1 with ⟨e1, e2⟩ | ⟨a, ha, rfl, e1, e2⟩
  · refine AgrX (m := m) 1 (by unfold f10_grief; rw [e1, xB_o]) ?_ ⟨hg, h'.s2k _, fr2k m _⟩
    unfold f11_grief
    rw [Option.bind_some, e2, Option.bind_some, if_pos zB_f]
    rfl
  · rcases aheadCase y2 with ⟨e3, e4⟩ | ⟨n, hn, rfl, e3, e4⟩
    · refine AgrX (m := m) 0 (by unfold f10_grief; rw [e1, xB_i, e3, xB_o]) ?_ ⟨hg, h'.s2k _, fr2k m _⟩
      unfold f11_grief
      rw [Option.bind_some, e2, Option.bind_some, if_neg (by decide), e4, Option.bind_some, if_pos zB_f]
      rfl
    · obtain ⟨x, hx, hxb⟩ := C_lampsOf h (g := a) (by omega)
      obtain ⟨t1, t', e', g', c1, c2, c3⟩ := C_trialB (F := f10_grief_L5 (nI n) x) (n := n) (fun q => fJ6_bitCount ((q.1.1 1) &&& x)) (fun i => fb_ct (fun l => cMp r (hrN r T i) l && decide (T.ho l = a)) T.L) h hg hli hok (by omega) (fun i b t e g hi => by
        unfold f10_grief_L5
        dsimp only
        rw [if_neg (nI_ge hi (by omega))]) (fun a t e g => if_pos (Int32.le_refl _)) (fun i e' g' t' hi b1 b2 b3 => by
        dsimp only
        rw [bitCount_Bm (b2.and hxb) (by omega)]) t2 e
      obtain ⟨m1, m2, m3, a1, a2, a3, a4, a5⟩ := M_trialB (F := f11_grief_L5 (nI a) (nI n)) (n := n) (fun q => ldO 8 (q.2 37) (nI a)) (fun i => fb_ct (fun l => cMp r (hrN r T i) l && decide (T.ho l = a)) T.L) h'.s2 hR.s2 hli hok (by omega) (fun i b q hi => by
        unfold f11_grief_L5
        dsimp only
        rw [if_neg (nI_ge hi (by omega))]) (fun a q => if_pos (Int32.le_refl _)) (fun i m' hi b0 b1 b2 b3 => by
        rw [ldO_n _ (by omega) (by omega), b3 a ha])
      refine ⟨nI (fb_sm (fun i => fb_ct (fun l => cMp r (hrN r T i) l && decide (T.ho l = a)) T.L) n), m3, ?_, .inl ⟨(t', e', g'), ?_, z2 a5, c3, a4, fr2' a5⟩⟩
      · unfold f11_grief
        rw [Option.bind_some, e2, Option.bind_some, if_neg (by decide), e4, Option.bind_some, if_neg (by decide), a1, Option.bind_some, a2, Option.bind_some, a3, Option.bind_some]
      · unfold f10_grief
        rw [e1, xB_i, e3, xB_i, c1, Option.bind_some, hx, Option.bind_some, c2, Option.bind_some, wI_s]
end
