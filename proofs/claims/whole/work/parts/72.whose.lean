/-! whose -/
theorem jmax_n {a b : Nat} (ha : a < 2147483648) (hb : b < 2147483648) : jmax (nI a) (nI b) = nI (max a b) := by
  unfold jmax
  by_cases h : a < b
  · rw [if_pos (nI_lt h hb), Nat.max_eq_right (by omega)]
  · rw [if_neg (nI_nlt (by omega) ha), Nat.max_eq_left (by omega)]
/-- a sighting holds -/
def okN (r : RU) (T : TW) (V : SV) (k : Nat) : Bool := V.2.2.2 k == lNn r (hrN r T (V.2.2.1 k - 1)) (V.2.1 k)
def fitB (r : RU) (T : TW) (V : SV) : Bool := allB (okN r T V) V.1
def agB (V : SV) (p : Nat → Bool) (w k : Nat) : Bool := !decide (V.2.2.1 k = w) || (V.2.2.2 k == p (V.2.1 k))
/-- where the sightings lie -/
def VOk (V : SV) (L : Nat) : Prop := V.1 ≤ 8 ∧ ∀ k, k < V.1 → V.2.1 k < L ∧ 1 ≤ V.2.2.1 k ∧ V.2.2.1 k ≤ 48
theorem RcV.ok {V : SV} {L : Nat} {sv : St} (h : RcV V L sv) : VOk V L := ⟨h.1, fun k hk => ⟨(h.2.2.2 k hk).1, (h.2.2.2 k hk).2.1, (h.2.2.2 k hk).2.2.1⟩⟩
theorem allB_f {p : Nat → Bool} {n k : Nat} (hk : k < n) (h : p k = false) : allB p n = false := by
  cases e : allB p n with
  | false => rfl
  | true => rw [(allB_iff p n).1 e k hk] at h; cases h
section
variable {r : RU} {T : TW} {V : SV} {t e g sv sx m : St}
theorem C_lastHour {L : Nat} (h : RcV V L sv) : ∃ n, f8_lastHour sv = some (nI n) ∧ n ≤ 48 ∧ ∀ k, k < V.1 → V.2.2.1 k ≤ n := by
  obtain ⟨v1, v2, v3, v4⟩ := h
  obtain ⟨q, h1, n, rfl, h2, h3⟩ := lpw_R (F := f8_lastHour_L1 sv) (fun i s => s.2 = nI i ∧ ∃ n, s.1 = nI n ∧ n ≤ 48 ∧ ∀ k, k < i → V.2.2.1 k ≤ n) (fun q => ∃ n, q = nI n ∧ n ≤ 48 ∧ ∀ k, k < V.1 → V.2.2.1 k ≤ n) V.1 (s := (0, 0)) (by
    rintro i ⟨_, _⟩ hi ⟨rfl, n, rfl, h2, h3⟩
    obtain ⟨a1, a2, a3, a4, a5⟩ := v4 i hi
    unfold f8_lastHour_L1
    dsimp only
    rw [v2, if_neg (nI_ge hi (by omega)), ldO_n _ (by omega) (by decide), a5, Option.bind_some, jmax_n (by omega) (by omega), nI_1]
    refine ⟨_, rfl, rfl, _, rfl, by omega, fun k hk => ?_⟩
    by_cases e : k = i
    · rw [e]; omega
    · have := h3 k (by omega); omega) (by
    rintro ⟨_, _⟩ ⟨rfl, n, rfl, h2, h3⟩
    refine ⟨nI n, ?_, n, rfl, h2, h3⟩
    unfold f8_lastHour_L1
    dsimp only
    rw [v2, if_pos (Int32.le_refl _)]) ⟨rfl, 0, rfl, by omega, fun k hk => absurd hk (Nat.not_lt_zero k)⟩
  refine ⟨n, ?_, h2, h3⟩
  unfold f8_lastHour
  rw [h1, Option.bind_some]
theorem C_agree {L : Nat} (hL : L ≤ 12) (h : RcV V L sv) {p : Nat → Bool} {x : Int32} (hx : Bm L p x) {w : Nat} (hw : w < 100) : f8_agree sv (nI w) x = some (allB (agB V p w) V.1) := by
  obtain ⟨v1, v2, v3, v4⟩ := h
  obtain ⟨q, h1, h2⟩ := lpw_E (F := f8_agree_L1 sv (nI w) x) (fun k s => s = nI k ∧ allB (agB V p w) k = true) (fun q => (q = .inl () ∧ allB (agB V p w) V.1 = false) ∨ (q = .inr () ∧ allB (agB V p w) V.1 = true)) V.1 (fun k s hk hI => by
    obtain ⟨rfl, ha⟩ := hI
    obtain ⟨a1, a2, a3, a4, a5⟩ := v4 k hk
    have hn : allB (agB V p w) (k + 1) = (allB (agB V p w) k && agB V p w k) := rfl
    unfold f8_agree_L1
    rw [v2, if_neg (nI_ge hk (by omega)), ldO_n _ (by omega) (by decide), a5, Option.bind_some]
    by_cases z : V.2.2.1 k = w
    · rw [if_pos (by rw [z]), ldO_n _ (by omega) (by decide), a4, Option.bind_some, bs _ (by omega), bs _ (by omega), hx.at a1 (by omega), v3.at hk (by omega)]
      simp only [zB_e]
      by_cases y : p (V.2.1 k) = V.2.2.2 k
      · left
        rw [if_pos y, nI_1]
        refine ⟨_, rfl, rfl, ?_⟩
        rw [hn, ha, Bool.true_and]
        unfold agB
        rw [y]
        simp
      · right
        rw [if_neg y]
        refine ⟨_, rfl, .inl ⟨rfl, allB_f hk ?_⟩⟩
        unfold agB
        rw [decide_eq_true z]
        have : ¬ V.2.2.2 k = p (V.2.1 k) := fun q => y q.symm
        simp [this]
    · left
      rw [if_neg (fun q => z ((nI_eq (by omega) (by omega)).1 q)), nI_1]
      refine ⟨_, rfl, rfl, ?_⟩
      rw [hn, ha, Bool.true_and]
      unfold agB
      rw [decide_eq_false z]
      rfl) (fun s hI => by
    obtain ⟨rfl, ha⟩ := hI
    refine ⟨.inr (), ?_, .inr ⟨rfl, ha⟩⟩
    unfold f8_agree_L1
    rw [v2, if_pos (Int32.le_refl _)]) (Nat.zero_le _) (s := 0) ⟨rfl, rfl⟩
  unfold f8_agree
  rw [h1, Option.bind_some]
  rcases h2 with ⟨rfl, h2⟩ | ⟨rfl, h2⟩ <;> rw [h2]
theorem ag_ok {i : Nat} {k : Nat} (h : V.2.2.1 k = i + 1) : agB V (lNn r (hrN r T i)) (i + 1) k = okN r T V k := by
  unfold agB okN
  rw [decide_eq_true h, h]
  rfl
theorem fit_no {i : Nat} (h : allB (agB V (lNn r (hrN r T i)) (i + 1)) V.1 = false) : fitB r T V = false := by
  cases e : fitB r T V with
  | false => rfl
  | true =>
    have : allB (agB V (lNn r (hrN r T i)) (i + 1)) V.1 = true := (allB_iff _ _).2 fun k hk => by
      by_cases z : V.2.2.1 k = i + 1
      · rw [ag_ok z]; exact (allB_iff _ _).1 e k hk
      · unfold agB
        rw [decide_eq_false z]
        rfl
    rw [h] at this
    cases this
theorem C_isAllSeenSo (h : RcT T t) (hg : RcR r.1 r.2 g) (hok : okR r.1 r.2) (hli : LiO T) (ho : T.o + 48 < 100000) (hv : RcV V T.L sv) (sx e : St) : ∃ t' e' g', f10_isAllSeenSo sx t e g sv = some (fitB r T V, t', e', g') ∧ RcR r.1 r.2 g' := by
  have hL := h.W.L12
  obtain ⟨n, n1, n2, n3⟩ := C_lastHour hv
  obtain ⟨q, h1, h2⟩ := lpw_E (F := f10_isAllSeenSo_L2 sv (nI n)) (fun i s => s.1 = nI (i + 1) ∧ HcI r T i s.2.1 s.2.2.2 ∧ ∀ k, k < V.1 → V.2.2.1 k ≤ i → okN r T V k = true) (fun q => (∃ s, q = .inl s ∧ RcR r.1 r.2 s.2.2 ∧ fitB r T V = false) ∨ (∃ s, q = .inr s ∧ RcR r.1 r.2 s.2.2 ∧ fitB r T V = true)) n (fun i s hi hI => by
    obtain ⟨_, t, e, g⟩ := s
    obtain ⟨e1, hc, ha⟩ := hI
    dsimp only at e1 hc
    subst e1
    obtain ⟨e', g', t', c1, c2, c3, c4, c5⟩ := C_step hli hok hc (by omega) e
    unfold f10_isAllSeenSo_L2
    dsimp only
    rw [if_neg (nI_nlt (show i + 1 ≤ n by omega) (by omega)), c1, Option.bind_some]
    dsimp only
    rw [C_agree hL hv c3 (show i + 1 < 100 by omega), Option.bind_some]
    cases z : allB (agB V (lNn r (hrN r T i)) (i + 1)) V.1 with
    | false =>
      right
      rw [if_pos zB_f]
      exact ⟨_, rfl, .inl ⟨_, rfl, c2.2, fit_no z⟩⟩
    | true =>
      left
      rw [if_neg (by decide), nI_1]
      refine ⟨_, rfl, rfl, c2, fun k hk hw => ?_⟩
      by_cases y : V.2.2.1 k = i + 1
      · rw [← ag_ok y]; exact (allB_iff _ _).1 z k hk
      · exact ha k hk (by omega)) (fun s hI => by
    obtain ⟨_, t, e, g⟩ := s
    obtain ⟨e1, hc, ha⟩ := hI
    dsimp only at e1 hc
    subst e1
    refine ⟨.inr (t, e, g), ?_, .inr ⟨_, rfl, hc.2, (allB_iff _ _).2 fun k hk => ha k hk (n3 k hk)⟩⟩
    unfold f10_isAllSeenSo_L2
    dsimp only
    rw [if_pos (nI_lt (Nat.lt_succ_self n) (by omega))]) (Nat.zero_le _) (s := (1, t, e, g)) ⟨rfl, HcI.zero h hg, fun k hk hw => by have := (hv.2.2.2 k hk).2.1; omega⟩
  rcases h2 with ⟨⟨t', e', g'⟩, rfl, h3, h4⟩ | ⟨⟨t', e', g'⟩, rfl, h3, h4⟩
  · refine ⟨t', e', g', ?_, h3⟩
    unfold f10_isAllSeenSo
    rw [n1, Option.bind_some, h1, Option.bind_some, h4]
  · refine ⟨t', e', g', ?_, h3⟩
    unfold f10_isAllSeenSo
    rw [n1, Option.bind_some, h1, Option.bind_some, h4]
/-- the reference's sightings at an hour -/
theorem M_seen {q : St} {b0 : Bool} {c : Int32} (hb : b0 = true) (hL : T.L ≤ 12) (hV : VOk V T.L) (hR : RmV V (q.1 32) (q.2 43) (q.2 44) (q.2 45)) {p : Nat → Bool} (hx : Bm T.L p (q.1 36)) {w : Nat} (hw : w < 100) (hc : c = nI w) (z : St) : lpw (f11_isAsSeen_L5 q (b0, c, z)) (b0, 0) = some (allB (agB V p w) V.1) := by
  subst hb hc
  obtain ⟨u1, u2⟩ := hR
  have v8 := hV.1
  show lpw _ (allB (agB V p w) 0, nI 0) = _
  refine lpw_S (fun i => (allB (agB V p w) i, nI i)) V.1 (fun k hk => ?_) ?_
  · obtain ⟨a1, a2, a3⟩ := hV.2 k hk
    obtain ⟨b1, b2, b3⟩ := u2 k hk
    have hn : allB (agB V p w) (k + 1) = (allB (agB V p w) k && agB V p w k) := rfl
    rw [hn]
    generalize allB (agB V p w) k = a
    unfold f11_isAsSeen_L5
    dsimp only
    rw [u1, if_neg (nI_ge hk (by omega))]
    cases a with
    | false => rw [if_pos zB_f, Option.bind_some, nI_1]; rfl
    | true =>
      rw [if_neg (by decide), ldO_n _ (by omega) (by decide), b2, Option.bind_some, Bool.true_and]
      by_cases y : V.2.2.1 k = w
      · rw [if_pos (by rw [y]), ldO_n _ (by omega) (by decide), b1, Option.bind_some, ldO_n _ (by omega) (by decide), b3, Option.bind_some, bs _ (by omega), hx.at a1 (by omega)]
        simp only [zB_e]
        rw [ifd, Option.bind_some, nI_1]
        congr 3
        unfold agB
        rw [decide_eq_true y]
        cases p (V.2.1 k) <;> cases V.2.2.2 k <;> rfl
      · rw [if_neg (fun q => y ((nI_eq (by omega) (by omega)).1 q)), Option.bind_some, nI_1]
        unfold agB
        rw [decide_eq_false y]
        rfl
  · unfold f11_isAsSeen_L5
    dsimp only
    rw [u1, if_pos (Int32.le_refl _)]
theorem M_isAsSeen (h : RmT T m) (hR : RmR r.1 r.2 m) (hok : okR r.1 r.2) (hli : LiO T) (ho : T.o + 48 < 100000) (hV : VOk V T.L) (hv : RmV V (m.1 32) (m.2 43) (m.2 44) (m.2 45)) : ∃ m', f11_isAsSeen m = some (fitB r T V, m') ∧ RmT T m' ∧ Fr sS1 sA1 m m' := by
  have hL := h.W.L12
  obtain ⟨f, p1, p2⟩ := M_pack46 h
  have hp : RmT T (sA m 46 f) := h.fr (Fr.sA (S := []) (A := [46]) m 46 f (by decide))
  have fin : ∀ (b : Bool) (i : Nat) (q : St), HmI r T i (sA m 46 f) q → b = fitB r T V → ∃ x : Bool × St, (some (Sum.inr (b, q)) : Option ((Bool × Int32 × St) ⊕ (Bool × St))) = some (.inr x) ∧ x.1 = fitB r T V ∧ Fr [28, 29, 35, 36] [23, 33, 34, 37] (sA m 46 f) x.2 ∧ ∃ n, RmT (hrN r T n) x.2 := fun b i q hq hb => ⟨_, rfl, hb, hq.2, i, hq.1⟩
  obtain ⟨q, h1, h2, h3, n, h4⟩ := lpw_E (F := f11_isAsSeen_L2) (fun i s => s.2.1 = nI (i + 1) ∧ HmI r T i (sA m 46 f) s.2.2 ∧ (s.1 = true ∧ (∀ k, k < V.1 → V.2.2.1 k ≤ i → okN r T V k = true) ∨ s.1 = false ∧ fitB r T V = false)) (fun q => q.1 = fitB r T V ∧ Fr [28, 29, 35, 36] [23, 33, 34, 37] (sA m 46 f) q.2 ∧ ∃ n, RmT (hrN r T n) q.2) 48 (fun i s hi hI => by
    obtain ⟨b, _, q⟩ := s
    obtain ⟨e1, hc, ha⟩ := hI
    dsimp only at e1 hc ha
    subst e1
    unfold f11_isAsSeen_L2
    dsimp only
    rw [if_neg (show ¬ (48 : Int32) < nI (i + 1) from nI_nlt (a := 48) (by omega) (by decide))]
    rcases ha with ⟨rfl, ha⟩ | ⟨rfl, ha⟩
    · left
      obtain ⟨q', c1, c2, c3, c4, c5⟩ := M_step hli hok (hR.fr (Fr.sA (S := []) (A := [46]) m 46 f (by decide))) hc (by omega)
      have hv' : RmV V (q'.1 32) (q'.2 43) (q'.2 44) (q'.2 45) := by
        rw [c2.2.1 32 (by decide), c2.2.2 43 (by decide), c2.2.2 44 (by decide), c2.2.2 45 (by decide)]
        exact hv
      rw [if_neg (by decide), c1, Option.bind_some, M_seen rfl hL hV hv' c3 (show i + 1 < 100 by omega) rfl, Option.bind_some, nI_1]
      refine ⟨_, rfl, rfl, c2, ?_⟩
      dsimp only
      cases z : allB (agB V (lNn r (hrN r T i)) (i + 1)) V.1 with
      | false => exact .inr ⟨rfl, fit_no z⟩
      | true =>
        refine .inl ⟨rfl, fun k hk hw => ?_⟩
        by_cases y : V.2.2.1 k = i + 1
        · rw [← ag_ok y]; exact (allB_iff _ _).1 z k hk
        · exact ha k hk (by omega)
    · right
      rw [if_pos zB_f]
      exact fin _ i q hc ha.symm) (fun s hI => by
    obtain ⟨b, _, q⟩ := s
    obtain ⟨e1, hc, ha⟩ := hI
    dsimp only at e1 hc ha
    subst e1
    unfold f11_isAsSeen_L2
    dsimp only
    rw [if_pos (show (48 : Int32) < nI (48 + 1) from nI_lt (a := 48) (by omega) (by decide))]
    refine fin _ 48 q hc ?_
    rcases ha with ⟨rfl, ha⟩ | ⟨rfl, ha⟩
    · exact ((allB_iff _ _).2 fun k hk => ha k hk (hV.2 k hk).2.2).symm
    · exact ha.symm) (Nat.zero_le _) (s := (true, 1, sA m 46 f)) ⟨rfl, HmI.zero hp, .inl ⟨rfl, fun k hk hw => by have := (hV.2 k hk).2.1; omega⟩⟩
  obtain ⟨m2, g1, g2, g3⟩ := M_unpack46 h4 (same_hr n) h.W (by rw [h3.2 46 (by decide)]; exact p2)
  refine ⟨m2, ?_, g3, ((Fr.sA m 46 f (by decide)).trans (h3.mono (by decide) (by decide))).trans (g2.mono (by decide) (by decide))⟩
  unfold f11_isAsSeen
  rw [p1, Option.bind_some, h1, Option.bind_some, g1, Option.bind_some, h2]
/-! whose twins it may be -/
def fiB (r : RU) (T : TW) (V : SV) (l k : Nat) : Bool := T.csw l k && fitB r (T.swp l k) V
theorem C_changes (h : RcT T t) (hg : RcR r.1 r.2 g) (hok : okR r.1 r.2) (hli : LiO T) (ho : T.o + 48 < 100000) (hv : RcV V T.L sv) {l : Nat} (hl : l < T.L) (sx t2 e : St) : ∃ x t' e' g', f10_changesThatFit sx t t2 e g sv (nI l) = some (x, t', e', g') ∧ Bm T.L (fiB r T V l) x ∧ RcR r.1 r.2 g' := by
  have hL := h.W.L12
  obtain ⟨q, h1, h2, h3⟩ := lpw_R (F := f10_changesThatFit_L1 sx t sv (nI l)) (fun i s => s.2.1 = nI i ∧ Bm i (fiB r T V l) s.1 ∧ RcR r.1 r.2 s.2.2.2.2) (fun q => Bm T.L (fiB r T V l) q.1 ∧ RcR r.1 r.2 q.2.2.2) T.L (s := (0, 0, t2, e, g)) (by
    rintro i ⟨x, _, t2, e, g⟩ hi ⟨rfl, hx, hg⟩
    dsimp only at hx hg
    have nx := hx.next (by omega)
    unfold f10_changesThatFit_L1
    dsimp only
    rw [h.eL, if_neg (nI_ge hi (by omega)), C_canChangeTwins h hl hi, Option.bind_some]
    simp only [ifz]
    cases hc : T.csw l i with
    | false =>
      rw [if_neg (by decide), Option.bind_some, nI_1]
      exact ⟨_, rfl, rfl, hx.no (by unfold fiB; rw [hc]; rfl), hg⟩
    | true =>
      obtain ⟨t1, a1, a2⟩ := C_copyFrom t2 t
      obtain ⟨t3, b1, b2⟩ := C_changeTwins (a2 T h) hl hi hc
      obtain ⟨t4, e4, g4, d1, d2⟩ := C_isAllSeenSo (V := V) b2 hg hok (fun k hk => hli k hk) ho hv sx e
      rw [if_pos rfl, a1, Option.bind_some, b1, Option.bind_some, d1, Option.bind_some, nI_1]
      dsimp only
      have ef : fiB r T V l i = fitB r (T.swp l i) V := by unfold fiB; rw [hc, Bool.true_and]
      rw [ef] at nx
      cases hf : fitB r (T.swp l i) V with
      | false =>
        rw [hf, if_neg (by decide)] at nx
        rw [if_neg (by decide), Option.bind_some]
        exact ⟨_, rfl, rfl, nx, d2⟩
      | true =>
        rw [hf, if_pos rfl] at nx
        rw [if_pos rfl, Option.bind_some]
        exact ⟨_, rfl, rfl, nx, d2⟩) (by
    rintro ⟨x, _, t2, e, g⟩ ⟨rfl, hx, hg⟩
    refine ⟨(x, t2, e, g), ?_, hx, hg⟩
    unfold f10_changesThatFit_L1
    dsimp only
    rw [h.eL, if_pos (Int32.le_refl _)]) ⟨rfl, Bm.zero0 _, hg⟩
  refine ⟨q.1, q.2.1, q.2.2.1, q.2.2.2, ?_, h2, h3⟩
  unfold f10_changesThatFit
  rw [h1, Option.bind_some]
/-- a trial with twins changed, on the reference's side -/
theorem M_swapBack (h : RmT T m) {l k : Nat} (hl : l < T.L) (hk : k < T.L) (hc : T.csw l k = true) : ∃ x, f11_swap m (nI l) (nI k) = some (sA m 9 x) ∧ RmT (T.swp l k) (sA m 9 x) ∧ ∀ q, RmT (T.swp l k) q → Fr sS1 sA1 (sA m 9 x) q → ∃ q', f11_swap q (nI l) (nI k) = some q' ∧ RmT T q' ∧ Fr sS1 sA1 m q' ∧ Fr [] [9] q q' := by
  obtain ⟨x, h1, h2⟩ := M_swap h hl hk hc
  refine ⟨x, h1, h2, fun q hq hf => ?_⟩
  obtain ⟨y, h3, h4⟩ := M_swap hq (l := l) (k := k) hl hk (swp_csw h.W hl hk hc)
  rw [swp_swp h.W hl hk hc] at h4
  exact ⟨_, h3, h4, ((Fr.sA m 9 x (by decide)).trans hf).trans (Fr.sA q 9 y (by decide)), Fr.sA q 9 y (by decide)⟩
theorem RmV.fr {q : St} (hv : RmV V (m.1 32) (m.2 43) (m.2 44) (m.2 45)) (f : Fr sS1 sA1 m q) : RmV V (q.1 32) (q.2 43) (q.2 44) (q.2 45) := by
  rw [f.1 32 (by decide), f.2 43 (by decide), f.2 44 (by decide), f.2 45 (by decide)]
  exact hv
theorem M_whoseNow (h : RmT T m) (hR : RmR r.1 r.2 m) (hok : okR r.1 r.2) (hli : LiO T) (ho : T.o + 48 < 100000) (hV : VOk V T.L) (hv : RmV V (m.1 32) (m.2 43) (m.2 44) (m.2 45)) {l : Nat} (hl : l < T.L) : ∃ x m', f11_whoseNow m (nI l) = some (x, m') ∧ Bm T.L (fiB r T V l) x ∧ RmT T m' ∧ Fr sS1 sA1 m m' := by
  have hL := h.W.L12
  obtain ⟨q, h1, h2, h3, h4⟩ := lpw_R (F := f11_whoseNow_L1 (nI l)) (fun i s => s.2.1 = nI i ∧ Bm i (fiB r T V l) s.1 ∧ RmT T s.2.2 ∧ Fr sS1 sA1 m s.2.2) (fun q => Bm T.L (fiB r T V l) q.1 ∧ RmT T q.2 ∧ Fr sS1 sA1 m q.2) T.L (s := (0, 0, m)) (by
    rintro i ⟨x, _, q⟩ hi ⟨rfl, hx, hq, hf⟩
    dsimp only at hx hq hf
    have nx := hx.next2 (by omega)
    unfold f11_whoseNow_L1
    dsimp only
    rw [cl_1, hq.eL, if_neg (nI_ge hi (by omega)), M_canSwap hq hl hi, Option.bind_some]
    simp only [ifz]
    cases hc : T.csw l i with
    | false =>
      rw [if_neg (by decide), Option.bind_some, nI_1]
      exact ⟨_, rfl, rfl, hx.no (by unfold fiB; rw [hc]; rfl), hq, hf⟩
    | true =>
      obtain ⟨y, a1, a2, a3⟩ := M_swapBack hq hl hi hc
      have f1 : Fr sS1 sA1 q (sA q 9 y) := Fr.sA q 9 y (by decide)
      obtain ⟨q2, b1, b2, b3⟩ := M_isAsSeen (V := V) a2 (hR.fr (hf.trans f1)) hok (fun k hk => hli k hk) ho hV (hv.fr (hf.trans f1))
      obtain ⟨q3, d1, d2, d3, d4⟩ := a3 q2 b2 b3
      rw [if_pos rfl, a1, Option.bind_some, b1, Option.bind_some]
      dsimp only
      have ef : fiB r T V l i = fitB r (T.swp l i) V := by unfold fiB; rw [hc, Bool.true_and]
      rw [ef] at nx
      have e0 : (if fitB r (T.swp l i) V = true then some ((1 : Int32) <<< (nI i &&& 31)) else some 0 : Option Int32) = some (if fitB r (T.swp l i) V = true then ((1 : Int32) <<< (nI i &&& 31)) else 0) := by
        cases fitB r (T.swp l i) V <;> rfl
      rw [e0, Option.bind_some, d1, Option.bind_some, Option.bind_some, nI_1]
      exact ⟨_, rfl, rfl, nx, d2, hf.trans d3⟩) (by
    rintro ⟨x, _, q⟩ ⟨rfl, hx, hq, hf⟩
    refine ⟨(x, q), ?_, hx, hq, hf⟩
    unfold f11_whoseNow_L1
    dsimp only
    rw [cl_1, hq.eL, if_pos (Int32.le_refl _)]) ⟨rfl, Bm.zero0 _, h, Fr.refl _ _ _⟩
  refine ⟨q.1, q.2, ?_, h2, h3, h4⟩
  unfold f11_whoseNow
  rw [h1, Option.bind_some]
theorem Q_whose (h : RcT T t) (h' : RmT T m) (hg : RcR r.1 r.2 g) (hR : RmR r.1 r.2 m) (hok : okR r.1 r.2) (hli : LiO T) (ho : T.o + 48 < 100000) (hv : RcV V T.L sv) (hv' : RmV V (m.1 32) (m.2 43) (m.2 44) (m.2 45)) (sx t2 e : St) (y : Int32) : Agr (f10_whose sx t t2 e g sv y) kfN (f11_whose m y) (t2, e, g) (fun s m' => QP r T m s.2.2 m') := by
  rcases lampCase h h'.s2 sx y with ⟨e1, e2⟩ | ⟨l, hl, rfl, e1, e2⟩
  · refine AgrX (m := m) 1 (by unfold f10_whose; rw [e1, xB_o]) ?_ ⟨hg, h'.s2k _, fr2k m _⟩
    unfold f11_whose
    rw [Option.bind_some, e2, Option.bind_some, if_pos zB_f]
    rfl
  obtain ⟨x, m1, a1, a2, a3, a4⟩ := M_whoseNow (V := V) h'.s2 hR.s2 hok hli ho hv.ok hv' hl
  obtain ⟨m2, b1, b2, b3⟩ := M_isAsSeen (V := V) a3 (hR.s2.fr a4) hok hli ho hv.ok (RmV.fr (m := sS m 2 0) hv' a4)
  obtain ⟨t1, c1, c2⟩ := C_copyFrom t2 t
  obtain ⟨t3, e3, g3, d1, d2⟩ := C_isAllSeenSo (V := V) (c2 T h) hg hok hli ho hv sx e
  obtain ⟨x', t4, e4, g4, f1, f2, f3⟩ := C_changes (V := V) h d2 hok hli ho hv hl sx t3 e3
  obtain rfl := f2.uniq a2
  have hf : Fr sS1 sA1 (sS m 2 0) m2 := a4.trans b3
  have e0 : ∀ b : Bool, (if zB b = 0 then some 0 else some 4096 : Option Int32) = some (if zB b = 0 then 0 else 4096) := fun b => by cases b <;> rfl
  refine ⟨x' ||| (if zB (fitB r T V) = 0 then 0 else 4096), m2, ?_, .inl ⟨(t4, e4, g4), ?_, z2 hf, f3, b2, fr2' hf⟩⟩
  · unfold f11_whose
    rw [Option.bind_some, e2, Option.bind_some, if_neg (by decide), a1, Option.bind_some, b1, Option.bind_some, e0, Option.bind_some]
  · unfold f10_whose
    rw [e1, xB_i, c1, Option.bind_some, d1, Option.bind_some, e0, Option.bind_some, f1, Option.bind_some, wI_s]
    have : ∀ a b : Int32, a ||| b = b ||| a := fun a b => b_ext fun i _ => by rw [b_or, b_or, Bool.or_comm]
    rw [this x']
end
