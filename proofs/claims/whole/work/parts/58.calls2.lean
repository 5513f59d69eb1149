/-! a treaty, the soonest, how long it lasts, the busiest hour, winters: both answers -/
def TW.sSl (T : TW) (a s : Nat) : TW := T.sWS T.wa (fun k => if k = a then s else T.sl k)
def gdN (r : RU) (T : TW) (n : Nat) : Nat := fb_sm (fun i => fb_ct (cMp r (hrN r T i)) T.L) n
section
variable {T U : TW} {t t2 m g e d sx : St} {r : RU}
theorem sSl_self (a : Nat) : T.sSl a (T.sl a) = T := by
  have : (fun k => if k = a then T.sl a else T.sl k) = T.sl := funext fun k => by
    by_cases h : k = a
    · rw [if_pos h, h]
    · rw [if_neg h]
  unfold TW.sSl
  rw [this]
  rfl
theorem sSl_sSl (a s s' : Nat) : (T.sSl a s).sSl a s' = T.sSl a s' := by
  show T.sWS T.wa (fun k => if k = a then s' else (if k = a then s else T.sl k)) = T.sWS T.wa (fun k => if k = a then s' else T.sl k)
  congr 1
  funext k
  by_cases h : k = a
  · rw [if_pos h, if_pos h]
  · rw [if_neg h, if_neg h, if_neg h]
theorem sSl_W (h : WfT T) {a s : Nat} (hs : s < 24) : WfT (T.sSl a s) := ⟨h.1, h.2.1, h.2.2.1, fun k hk => ⟨h.ki4 hk, h.wa24 hk, by
    show (if k = a then s else T.sl k) < 24
    split
    · exact hs
    · exact h.sl24 hk⟩, h.2.2.2.2⟩
theorem upd_sl {f : Nat → Int32} {a s : Nat} (h : ∀ k, k < T.H → f k = nI (T.sl k)) : ∀ k, k < T.H → upd f a (nI s) k = nI (if k = a then s else T.sl k) := fun k hk => by
  by_cases e : k = a
  · rw [e, upd_e, if_pos rfl]
  · rw [upd_n _ _ e, if_neg e, h k hk]
theorem RcT.sSl (h : RcT T t) {a s : Nat} (hs : s < 24) : RcT (T.sSl a s) (sA t 7 (upd (t.2 7) a (nI s))) := ⟨sSl_W h.W hs, h.eH, h.eL, h.eo, h.eli, h.ebr, fun k hk => ⟨h.eki hk, h.ewa hk, upd_sl (fun k hk => h.esl hk) k hk⟩, h.2.2.2.2.2.2.2⟩
theorem RmT.sSl (h : RmT T m) {a s : Nat} (hs : s < 24) : RmT (T.sSl a s) (sA m 26 (upd (m.2 26) a (nI s))) := ⟨sSl_W h.W hs, h.eH, h.eL, h.eo, h.eli, h.ebr, fun k hk => ⟨h.eki hk, h.ewa hk, upd_sl (fun k hk => h.esl hk) k hk⟩, h.2.2.2.2.2.2.2⟩
theorem gdN_lt (hW : WfT T) (n : Nat) (hn : n ≤ 100) : gdN r T n ≤ 1200 := by
  have := hW.L12
  have h1 : gdN r T n ≤ n * 12 := fb_sm_bound fun k hk => Nat.le_trans (fb_ct_le _ _) this
  omega
theorem C_day (h : RcT T t) (hg : RcR r.1 r.2 g) (hok : okR r.1 r.2) (hli : LiO T) (ho : T.o < 10000) (sx t2 e : St) {a s : Nat} (ha : a < T.H) (hs : s < 24) : ∃ t' e' g', f10_complaintsOfADay sx t t2 e g (nI a) (nI s) = some (nI (gdN r (T.sSl a s) 24), t', e', g') ∧ RcR r.1 r.2 g' := by
  have hH := h.W.H8
  have hL := h.W.L12
  obtain ⟨t1, h1, h2⟩ := C_copyFrom t2 t
  have h3 := (h2 T h).sSl (a := a) hs
  obtain ⟨t', e', g', h4, h5⟩ := C_loopB (F := f10_complaintsOfADay_L3) (n := 24) (T := T.sSl a s) (r := r) (fun q => fJ6_bitCount (q.1.1 1)) (fun i => fb_ct (cMp r (hrN r (T.sSl a s) i)) T.L) hli hok (by show T.o + 24 < _; omega) (fun i b t e g hi => by
    unfold f10_complaintsOfADay_L3
    dsimp only
    rw [if_neg (show ¬ (24 : Int32) ≤ nI i from nI_ge hi (by decide))]) (fun a t e g => if_pos (Int32.le_refl _)) (fun i e' g' t' hi b1 b2 b3 => by
    have b2 : Bm T.L _ _ := b2
    rw [bitCount_Bm b2 (by omega)]) (HcI.zero h3 hg) e
  refine ⟨t', e', g', ?_, h5.2⟩
  unfold f10_complaintsOfADay
  rw [h1, Option.bind_some, stS_n _ _ _ (by omega) (by omega), Option.bind_some, h4, Option.bind_some]
  rfl
theorem M_day (h : RmT T m) (hR : RmR r.1 r.2 m) (hok : okR r.1 r.2) (hli : LiO T) (ho : T.o < 10000) : ∃ m', f11_griefIn m (24 : Int32) = some (nI (gdN r T 24), m') ∧ RmT T m' ∧ Fr sS1 sA1 m m' := by
  have hL := h.W.L12
  obtain ⟨m1, m2, m3, a1, a2, a3, a4, a5⟩ := M_trialB (F := f11_griefIn_L2 (24 : Int32)) (n := 24) (fun q => f11_allGrief q) (fun i => fb_ct (cMp r (hrN r T i)) T.L) h hR hli hok (by omega) (fun i b q hi => by
    unfold f11_griefIn_L2
    dsimp only
    rw [if_neg (show ¬ (24 : Int32) ≤ nI i from nI_ge hi (by decide))]) (fun a q => if_pos (Int32.le_refl _)) (fun i m' hi b0 b1 b2 b3 => by
    have e := hrN_st (r := r) (T := T) (i + 1)
    have := M_allGrief b0 (p := cMp r (hrN r T i)) (fun k hk => by rw [e.1] at hk; rw [e.2.1, e.2.2.2.2.2.2.1]; exact b3 k hk)
    rw [e.2.1] at this
    exact this)
  refine ⟨m3, ?_, a4, a5⟩
  unfold f11_griefIn
  rw [a1, Option.bind_some, a2, Option.bind_some, a3, Option.bind_some]
  rfl
theorem Q_treaty (h : RcT T t) (h' : RmT T m) (hg : RcR r.1 r.2 g) (hR : RmR r.1 r.2 m) (hok : okR r.1 r.2) (hli : LiO T) (ho : T.o < 10000) (t2 e sx : St) (y : Int32) : Agr (f10_treaty sx t t2 e g y) kfN (f11_treaty m y) (t2, e, g) (fun s m' => QP r T m s.2.2 m') := by
  have hL := h.W.L12
  have hH := h.W.H8
  rcases houseCase h h'.s2 sx y with ⟨e1, e2⟩ | ⟨a, ha, rfl, e1, e2⟩
  · refine AgrX (m := m) 1 (by unfold f10_treaty; rw [e1, xB_o]) ?_ ⟨hg, h'.s2k _, fr2k m _⟩
    unfold f11_treaty
    rw [Option.bind_some, e2, Option.bind_some, if_pos zB_f]
    rfl
  · have hs0 := h.W.sl24 ha
    obtain ⟨t1, e', g', c1, c2⟩ := C_day h hg hok hli ho sx t2 e ha hs0
    rw [sSl_self] at c1
    have hB : ∀ s, s < 24 → gdN r (T.sSl a s) 24 ≤ 1200 := fun s hs => gdN_lt (sSl_W h.W hs) 24 (by decide)
    have hV : gdN r T 24 ≤ 1200 := gdN_lt h.W 24 (by decide)
    obtain ⟨A, hA0, hA1, hA2⟩ := amN_ex (fun s => gdN r (T.sSl a s) 24) (gdN r T 24)
    have hN : ∀ i, (A i).2 ≤ 1200 := fun i => Nat.le_trans (hA2 i) hV
    have hA01 : (A 0).1 = none := by rw [hA0]
    have hA02 : (A 0).2 = gdN r T 24 := by rw [hA0]
    obtain ⟨q, c3, c4, c5⟩ := lpw_R (F := f10_treaty_L4 sx t (nI a)) (fun i s => s.1 = nI (A i).2 ∧ s.2.1 = eT (A i).1 ∧ s.2.2.1 = nI i ∧ RcR r.1 r.2 s.2.2.2.2.2) (fun q => q.1 = eT (A 24).1 ∧ RcR r.1 r.2 q.2.2.2) 24 (s := (nI (gdN r T 24), -1, 0, t1, e', g')) (by
      rintro i ⟨v, b, j, t1, e1, g1⟩ hi ⟨rfl, rfl, rfl, hg1⟩
      obtain ⟨t3, e3, g3, d1, d2⟩ := C_day h hg1 hok hli ho sx t1 e1 ha hi
      have b1 := hB i hi
      have b2 := hN i
      unfold f10_treaty_L4
      dsimp only
      rw [if_neg (show ¬ (24 : Int32) ≤ nI i from nI_ge hi (by decide)), d1, Option.bind_some]
      simp (disch := omega) only [nI_leI]
      by_cases z : gdN r (T.sSl a i) 24 < (A i).2
      · rw [if_neg (by omega), Option.bind_some, nI_1]
        have e9 : A (i + 1) = (some i, gdN r (T.sSl a i) 24) := (hA1 i).trans (if_pos z)
        rw [e9]
        exact ⟨_, rfl, rfl, rfl, rfl, d2⟩
      · rw [if_pos (by omega), Option.bind_some, nI_1]
        have e9 : A (i + 1) = A i := (hA1 i).trans (if_neg z)
        rw [e9]
        exact ⟨_, rfl, rfl, rfl, rfl, d2⟩) (by
      rintro ⟨v, b, j, t1, e1, g1⟩ ⟨rfl, rfl, rfl, hg1⟩
      exact ⟨_, if_pos (Int32.le_refl _), rfl, hg1⟩) ⟨by rw [hA02], by rw [hA01]; rfl, rfl, c2⟩
    obtain ⟨m1, a1, a2, a3⟩ := M_day h'.s2 hR.s2 hok hli ho
    have hR1 : ∀ m', Fr sS1 sA1 (sS m 2 0) m' → RmR r.1 r.2 m' := fun m' f => (hR.s2).fr f
    obtain ⟨q2, a4, a5, a6, a7⟩ := lpw_R (F := f11_treaty_L5 (nI a)) (fun i s => s.1 = nI (A i).2 ∧ s.2.1 = eT (A i).1 ∧ s.2.2.1 = nI i ∧ Fr sS1 sA1 (sS m 2 0) s.2.2.2 ∧ ∃ u, u < 24 ∧ RmT (T.sSl a u) s.2.2.2) (fun q => q.1 = eT (A 24).1 ∧ Fr sS1 sA1 (sS m 2 0) q.2 ∧ ∃ u, u < 24 ∧ RmT (T.sSl a u) q.2) 24 (s := (nI (gdN r T 24), -1, 0, m1)) (by
      rintro i ⟨v, b, j, q⟩ hi ⟨rfl, rfl, rfl, hf, u, hu, hq⟩
      have hq1 := hq.sSl (a := a) hi
      rw [sSl_sSl] at hq1
      have hf1 : Fr sS1 sA1 (sS m 2 0) (sA q 26 (upd (q.2 26) a (nI i))) := hf.trans (Fr.sA q 26 _ (by decide))
      obtain ⟨m3, d1, d2, d3⟩ := M_day hq1 (hR1 _ hf1) hok (T := T.sSl a i) hli ho
      have b1 := hB i hi
      have b2 := hN i
      unfold f11_treaty_L5
      dsimp only
      rw [if_neg (show ¬ (24 : Int32) ≤ nI i from nI_ge hi (by decide)), stS_n _ _ _ (by omega) (by omega), Option.bind_some, d1, Option.bind_some]
      simp (disch := omega) only [nI_ltI]
      by_cases z : gdN r (T.sSl a i) 24 < (A i).2
      · rw [if_pos z, Option.bind_some, nI_1]
        have e9 : A (i + 1) = (some i, gdN r (T.sSl a i) 24) := (hA1 i).trans (if_pos z)
        rw [e9]
        exact ⟨_, rfl, rfl, rfl, rfl, hf1.trans d3, i, hi, d2⟩
      · rw [if_neg z, Option.bind_some, nI_1]
        have e9 : A (i + 1) = A i := (hA1 i).trans (if_neg z)
        rw [e9]
        exact ⟨_, rfl, rfl, rfl, rfl, hf1.trans d3, i, hi, d2⟩) (by
      rintro ⟨v, b, j, q⟩ ⟨rfl, rfl, rfl, hf, hq⟩
      exact ⟨_, if_pos (Int32.le_refl _), rfl, hf, hq⟩) ⟨by rw [hA02], by rw [hA01]; rfl, rfl, a3, T.sl a, hs0, by rw [sSl_self]; exact a2⟩
    obtain ⟨u, hu, hq⟩ := a7
    have hq1 := hq.sSl (a := a) hs0
    rw [sSl_sSl, sSl_self] at hq1
    have hf1 : Fr sS1 sA1 (sS m 2 0) (sA q2.2 26 (upd (q2.2.2 26) a (nI (T.sl a)))) := a6.trans (Fr.sA q2.2 26 _ (by decide))
    refine ⟨q2.1, _, ?_, .inl ⟨(q.2.1, q.2.2.1, q.2.2.2), ?_, z2 hf1, c5, hq1, fr2' hf1⟩⟩
    · unfold f11_treaty
      rw [Option.bind_some, e2, Option.bind_some, if_neg (by decide), ldO_n _ (by omega) (by omega), h'.s2.esl ha, Option.bind_some, a1, Option.bind_some]
      dsimp only
      rw [a4, Option.bind_some, stS_n _ _ _ (by omega) (by omega), Option.bind_some]
    · unfold f10_treaty
      rw [e1, xB_i, ldO_n _ (by omega) (by omega), h.esl ha, Option.bind_some, c1, Option.bind_some]
      dsimp only
      rw [c3, Option.bind_some, wI_s, a5, ← c4]
theorem Q_soonest (h : RcT T t) (h' : RmT T m) (hg : RcR r.1 r.2 g) (hR : RmR r.1 r.2 m) (hok : okR r.1 r.2) (hli : LiO T) (ho : T.o < 10000) (t2 e sx : St) (y : Int32) : Agr (f10_soonest sx t t2 e g y) kfN (f11_soonest m y) (t2, e, g) (fun s m' => QP r T m s.2.2 m') := by
  have hL := h.W.L12
  rcases lampCase h h'.s2 sx y with ⟨e1, e2⟩ | ⟨l, hl, rfl, e1, e2⟩
  · refine AgrX (m := m) 1 (by unfold f10_soonest; rw [e1, xB_o]) ?_ ⟨hg, h'.s2k _, fr2k m _⟩
    unfold f11_soonest
    rw [Option.bind_some, e2, Option.bind_some, if_pos zB_f]
    rfl
  · obtain ⟨t1, c1, c2⟩ := C_copyFrom t2 t
    obtain ⟨q, c3, t3, e3, g3, c4, c5⟩ := lpw_E (F := f10_soonest_L3 (nI l)) (fun i s => s.1 = nI (i + 1) ∧ HcI r T i s.2.1 s.2.2.2 ∧ ∀ j, j < i → lNn r (hrN r T j) l = false) (fun q => ∃ t3 e3 g3, RcR r.1 r.2 g3 ∧ (q = .inl (fsA (fun i => lNn r (hrN r T i) l) 96 1, t3, e3, g3) ∨ q = .inr (t3, e3, g3) ∧ fsA (fun i => lNn r (hrN r T i) l) 96 1 = -1)) 96 (fun i s hi hI => by
      obtain ⟨j, t4, e4, g4⟩ := s
      obtain ⟨h1, h2, h3⟩ := hI
      dsimp only at h1 h2
      subst h1
      obtain ⟨e5, g5, t5, d1, d2, d3, d4, d5⟩ := C_step hli hok h2 (by omega) e4
      unfold f10_soonest_L3
      dsimp only
      rw [if_neg (show ¬ (96 : Int32) < nI (i + 1) from nI_nlt (a := 96) (b := i + 1) (by omega) (by decide)), d1, Option.bind_some]
      dsimp only
      rw [bs _ (by omega), d3.at hl (by omega)]
      simp only [zB_1]
      cases z : lNn r (hrN r T i) l with
      | true =>
        right
        refine ⟨_, if_pos rfl, t5, e5, g5, d2.2, .inl ?_⟩
        rw [fsA_at (i := i) hi z h3]
      | false =>
        left
        rw [if_neg (by decide), nI_1]
        exact ⟨_, rfl, rfl, d2, lt_snoc h3 z⟩) (fun s hI => by
      obtain ⟨j, t4, e4, g4⟩ := s
      obtain ⟨h1, h2, h3⟩ := hI
      dsimp only at h1 h2
      subst h1
      refine ⟨.inr (t4, e4, g4), ?_, t4, e4, g4, h2.2, .inr ⟨rfl, fsA_none h3⟩⟩
      unfold f10_soonest_L3
      dsimp only
      rw [if_pos (show (96 : Int32) < nI 97 from by decide +kernel)]) (Nat.zero_le _) (s := (1, t1, e, g)) ⟨rfl, HcI.zero (c2 T h) hg, fun j hj => absurd hj (Nat.not_lt_zero j)⟩
    obtain ⟨f, p1, p2, p3⟩ := M_trial h'.s2
    have hRf : RmR r.1 r.2 (sA (sS m 2 0) 39 f) := (hR.s2).fr (Fr.sA (S := []) (A := [39]) _ 39 f (by decide))
    obtain ⟨q2, a1, a2, a3, a4⟩ := lpw_E (F := f11_soonest_L4 (nI l)) (fun i s => s.2.1 = nI (i + 1) ∧ HmI r T i (sA (sS m 2 0) 39 f) s.2.2 ∧ (s.1 = -1 ∧ (∀ j, j < i → lNn r (hrN r T j) l = false) ∨ ∃ k, k < 96 ∧ s.1 = nI (k + 1) ∧ fsA (fun i => lNn r (hrN r T i) l) 96 1 = nI (k + 1))) (fun q => q.1 = fsA (fun i => lNn r (hrN r T i) l) 96 1 ∧ ∃ i, HmI r T i (sA (sS m 2 0) 39 f) q.2) 96 (fun i s hi hI => by
      obtain ⟨b, j, q⟩ := s
      obtain ⟨h1, h2, h3⟩ := hI
      dsimp only at h1 h2 h3
      subst h1
      unfold f11_soonest_L4
      dsimp only
      rw [if_neg (show ¬ (96 : Int32) < nI (i + 1) from nI_nlt (a := 96) (b := i + 1) (by omega) (by decide))]
      rcases h3 with ⟨rfl, h3⟩ | ⟨k, hk, rfl, h3⟩
      · left
        obtain ⟨m5, d1, d2, d3, d4, d5⟩ := M_step hli hok hRf h2 (by omega)
        rw [if_pos rfl, d1, Option.bind_some, M_isOf d3 (by omega) hl, Option.bind_some]
        simp only [ifz]
        cases z : lNn r (hrN r T i) l with
        | true =>
          rw [if_pos rfl, Option.bind_some, nI_1]
          exact ⟨_, rfl, rfl, d2, .inr ⟨i, hi, rfl, fsA_at hi z h3⟩⟩
        | false =>
          rw [if_neg (by decide), Option.bind_some, nI_1]
          exact ⟨_, rfl, rfl, d2, .inl ⟨rfl, lt_snoc h3 z⟩⟩
      · right
        rw [if_neg (show ¬ nI (k + 1) = -1 from fun z => by
          have := eT_m1 (x := some (k + 1)) (fun q e => by cases e; omega)
          have z : eT (some (k + 1)) = -1 := z
          rw [this] at z
          cases z)]
        exact ⟨_, rfl, h3.symm, i, h2⟩) (fun s hI => by
      obtain ⟨b, j, q⟩ := s
      obtain ⟨h1, h2, h3⟩ := hI
      dsimp only at h1 h2 h3
      subst h1
      refine ⟨(b, q), ?_, ?_, 96, h2⟩
      · unfold f11_soonest_L4
        dsimp only
        rw [if_pos (show (96 : Int32) < nI 97 from by decide +kernel)]
      · rcases h3 with ⟨rfl, h3⟩ | ⟨k, hk, rfl, h3⟩
        · exact (fsA_none h3).symm
        · exact h3.symm) (Nat.zero_le _) (s := (-1, 1, sA (sS m 2 0) 39 f)) ⟨rfl, HmI.zero p2, .inl ⟨rfl, fun j hj => absurd hj (Nat.not_lt_zero j)⟩⟩
    obtain ⟨i, a5⟩ := (⟨a3, a4⟩ : ∃ i, HmI r T i (sA (sS m 2 0) 39 f) q2.2)
    obtain ⟨m3, b1, b2, b3, b4⟩ := p3 _ q2.2 a5.1 (same_hr i) (a5.2.mono (by decide) (by decide))
    refine ⟨q2.1, m3, ?_, .inl ⟨(t3, e3, g3), ?_, z2 b3, c4, b2, fr2' b3⟩⟩
    · unfold f11_soonest
      rw [Option.bind_some, e2, Option.bind_some, if_neg (by decide), p1, Option.bind_some, a1, Option.bind_some, b1, Option.bind_some]
    · unfold f10_soonest
      rw [e1, xB_i, c1, Option.bind_some, c3, Option.bind_some, a2]
      rcases c5 with rfl | ⟨rfl, c5⟩
      · dsimp only
        rw [wI_s]
      · rw [c5]
        dsimp only
        rw [wI_s]
theorem Q_lasts (h : RcT T t) (h' : RmT T m) (hg : RcR r.1 r.2 g) (hR : RmR r.1 r.2 m) (hok : okR r.1 r.2) (hli : LiO T) (ho : T.o < 10000) (t2 e sx : St) (y : Int32) : Agr (f10_lasts sx t t2 e g y) kfN (f11_lasts m y) (t2, e, g) (fun s m' => QP r T m s.2.2 m') := by
  have hL := h.W.L12
  rcases lampCase h h'.s2 sx y with ⟨e1, e2⟩ | ⟨l, hl, rfl, e1, e2⟩
  · refine AgrX (m := m) 1 (by unfold f10_lasts; rw [e1, xB_o]) ?_ ⟨hg, h'.s2k _, fr2k m _⟩
    unfold f11_lasts
    rw [Option.bind_some, e2, Option.bind_some, if_pos zB_f]
    rfl
  · have hlN : ∀ i, l < (hrN r T i).L := fun i => by rw [(hrN_st i).2.1]; exact hl
    have h99 : ∀ i, T.o + i < 100000 → (hrN r T i).oi l ≤ 99 := fun i hi => (hrN_W h.W i hi).oi99 (hlN i)
    obtain ⟨t1, c1, c2⟩ := C_copyFrom t2 t
    obtain ⟨q, c3, t3, e3, g3, c4, c5⟩ := lpw_E (F := f10_lasts_L3 (nI l)) (fun i s => s.1 = nI i ∧ HcI r T i s.2.1 s.2.2.2 ∧ ∀ j, j < i → decide ((hrN r T j).oi l = 0) = false) (fun q => ∃ t3 e3 g3, RcR r.1 r.2 g3 ∧ (q = .inl (fsA (fun i => decide ((hrN r T i).oi l = 0)) 97 0, t3, e3, g3) ∨ q = .inr (t3, e3, g3) ∧ fsA (fun i => decide ((hrN r T i).oi l = 0)) 97 0 = -1)) 97 (fun i s hi hI => by
      obtain ⟨j, t4, e4, g4⟩ := s
      obtain ⟨h1, h2, h3⟩ := hI
      dsimp only at h1 h2
      subst h1
      obtain ⟨e5, g5, t5, d1, d2, d3, d4, d5⟩ := C_step hli hok h2 (by omega) e4
      have b9 := h99 i (by omega)
      unfold f10_lasts_L3
      dsimp only
      rw [if_neg (show ¬ (96 : Int32) < nI i from nI_nlt (a := 96) (b := i) (by omega) (by decide)), ldO_n _ (by omega) (by omega), h2.1.eoi (hlN i), Option.bind_some, d1, Option.bind_some]
      by_cases z : (hrN r T i).oi l = 0
      · right
        rw [if_pos (by rw [z]; rfl)]
        refine ⟨_, rfl, t4, e4, g4, h2.2, .inl ?_⟩
        rw [fsA_at (p := fun i => decide ((hrN r T i).oi l = 0)) (i := i) hi (decide_eq_true z) h3]
        rfl
      · left
        rw [if_neg (nI_ne0 (by omega) (by omega)), nI_1]
        exact ⟨_, rfl, rfl, d2, lt_snoc (p := fun i => decide ((hrN r T i).oi l = 0)) h3 (decide_eq_false z)⟩) (fun s hI => by
      obtain ⟨j, t4, e4, g4⟩ := s
      obtain ⟨h1, h2, h3⟩ := hI
      dsimp only at h1 h2
      subst h1
      refine ⟨.inr (t4, e4, g4), ?_, t4, e4, g4, h2.2, .inr ⟨rfl, fsA_none h3⟩⟩
      unfold f10_lasts_L3
      dsimp only
      rw [if_pos (show (96 : Int32) < nI 97 from by decide +kernel)]) (Nat.zero_le _) (s := (0, t1, e, g)) ⟨rfl, HcI.zero (c2 T h) hg, fun j hj => absurd hj (Nat.not_lt_zero j)⟩
    obtain ⟨f, p1, p2, p3⟩ := M_trial h'.s2
    have hRf : RmR r.1 r.2 (sA (sS m 2 0) 39 f) := (hR.s2).fr (Fr.sA (S := []) (A := [39]) _ 39 f (by decide))
    obtain ⟨q2, a1, a2, a3, a4⟩ := lpw_E (F := f11_lasts_L4 (nI l)) (fun i s => s.2.1 = nI i ∧ HmI r T i (sA (sS m 2 0) 39 f) s.2.2 ∧ (s.1 = -1 ∧ (∀ j, j < i → decide ((hrN r T j).oi l = 0) = false) ∨ ∃ k, k < 97 ∧ s.1 = nI k ∧ fsA (fun i => decide ((hrN r T i).oi l = 0)) 97 0 = nI k)) (fun q => q.1 = fsA (fun i => decide ((hrN r T i).oi l = 0)) 97 0 ∧ ∃ i, HmI r T i (sA (sS m 2 0) 39 f) q.2) 97 (fun i s hi hI => by
      obtain ⟨b, j, q⟩ := s
      obtain ⟨h1, h2, h3⟩ := hI
      dsimp only at h1 h2 h3
      subst h1
      have b9 := h99 i (by omega)
      unfold f11_lasts_L4
      dsimp only
      rw [if_neg (show ¬ (96 : Int32) < nI i from nI_nlt (a := 96) (b := i) (by omega) (by decide))]
      rcases h3 with ⟨rfl, h3⟩ | ⟨k, hk, rfl, h3⟩
      · left
        obtain ⟨m5, d1, d2, d3, d4, d5⟩ := M_step hli hok hRf h2 (by omega)
        rw [if_pos rfl, ldO_n _ (by omega) (by omega), h2.1.eoi (hlN i), Option.bind_some]
        by_cases z : (hrN r T i).oi l = 0
        · rw [if_pos (by rw [z]; rfl), Option.bind_some, d1, Option.bind_some, nI_1]
          exact ⟨_, rfl, rfl, d2, .inr ⟨i, hi, rfl, fsA_at (p := fun i => decide ((hrN r T i).oi l = 0)) hi (decide_eq_true z) h3⟩⟩
        · rw [if_neg (nI_ne0 (by omega) (by omega)), Option.bind_some, d1, Option.bind_some, nI_1]
          exact ⟨_, rfl, rfl, d2, .inl ⟨rfl, lt_snoc (p := fun i => decide ((hrN r T i).oi l = 0)) h3 (decide_eq_false z)⟩⟩
      · right
        rw [if_neg (show ¬ nI k = -1 from fun z => by
          have := eT_m1 (x := some k) (fun q e => by cases e; omega)
          have z : eT (some k) = -1 := z
          rw [this] at z
          cases z)]
        exact ⟨_, rfl, h3.symm, i, h2⟩) (fun s hI => by
      obtain ⟨b, j, q⟩ := s
      obtain ⟨h1, h2, h3⟩ := hI
      dsimp only at h1 h2 h3
      subst h1
      refine ⟨(b, q), ?_, ?_, 97, h2⟩
      · unfold f11_lasts_L4
        dsimp only
        rw [if_pos (show (96 : Int32) < nI 97 from by decide +kernel)]
      · rcases h3 with ⟨rfl, h3⟩ | ⟨k, hk, rfl, h3⟩
        · exact (fsA_none h3).symm
        · exact h3.symm) (Nat.zero_le _) (s := (-1, 0, sA (sS m 2 0) 39 f)) ⟨rfl, HmI.zero p2, .inl ⟨rfl, fun j hj => absurd hj (Nat.not_lt_zero j)⟩⟩
    obtain ⟨i, a5⟩ := (⟨a3, a4⟩ : ∃ i, HmI r T i (sA (sS m 2 0) 39 f) q2.2)
    obtain ⟨m3, b1, b2, b3, b4⟩ := p3 _ q2.2 a5.1 (same_hr i) (a5.2.mono (by decide) (by decide))
    refine ⟨q2.1, m3, ?_, .inl ⟨(t3, e3, g3), ?_, z2 b3, c4, b2, fr2' b3⟩⟩
    · unfold f11_lasts
      rw [Option.bind_some, e2, Option.bind_some, if_neg (by decide), p1, Option.bind_some, a1, Option.bind_some, b1, Option.bind_some]
    · unfold f10_lasts
      rw [e1, xB_i, c1, Option.bind_some, c3, Option.bind_some, a2]
      rcases c5 with rfl | ⟨rfl, c5⟩
      · dsimp only
        rw [wI_s]
      · rw [c5]
        dsimp only
        rw [wI_s]
end
