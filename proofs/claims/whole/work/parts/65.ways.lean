/-! who is joined to whom -/
def rch (T : TW) (a : Nat) : Nat → Nat → Bool
  | 0, g => decide (g = a)
  | n + 1, g => rch T a n g || decide (0 < fb_ct (fun f => rch T a n f && T.pl f g) T.H)
section
variable {T : TW} {t m : St}
theorem rch_s (a n g : Nat) : rch T a (n + 1) g = (rch T a n g || decide (0 < fb_ct (fun f => rch T a n f && T.pl f g) T.H)) := rfl
theorem rch_iff (a n g : Nat) : rch T a (n + 1) g = true ↔ rch T a n g = true ∨ ∃ f, f < T.H ∧ rch T a n f = true ∧ T.pl f g = true := by
  rw [rch_s, Bool.or_eq_true, decide_eq_true_eq, fb_ct_pos]
  constructor
  · rintro (h | ⟨f, h1, h2⟩)
    · exact .inl h
    · rw [Bool.and_eq_true] at h2
      exact .inr ⟨f, h1, h2.1, h2.2⟩
  · rintro (h | ⟨f, h1, h2, h3⟩)
    · exact .inl h
    · exact .inr ⟨f, h1, by rw [Bool.and_eq_true]; exact ⟨h2, h3⟩⟩
theorem rch_mono {a g : Nat} : ∀ {n k : Nat}, n ≤ k → rch T a n g = true → rch T a k g = true := by
  intro n k
  induction k with
  | zero => intro h1 h2; obtain rfl : n = 0 := by omega
            exact h2
  | succ k ih =>
    intro h1 h2
    by_cases e : n = k + 1
    · rw [← e]; exact h2
    · exact (rch_iff a k g).2 (.inl (ih (by omega) h2))
theorem rch_0 (a : Nat) : rch T a 0 a = true := decide_eq_true rfl
theorem ct_lt {p q : Nat → Bool} {n g : Nat} (hg : g < n) (h : ∀ k, k < n → p k = true → q k = true) (hp : p g = false) (hq : q g = true) : fb_ct p n < fb_ct q n := by
  have h1 := fb_ct_upd q false hg
  rw [hq, if_pos rfl, if_neg (by decide), Nat.add_zero] at h1
  have h2 : fb_ct p n ≤ fb_ct (fun k => if k = g then false else q k) n := fb_ct_sub fun k hk hpk => by
    by_cases e : k = g
    · rw [e, hp] at hpk; cases hpk
    · rw [if_neg e]; exact h k hk hpk
  omega
theorem rch_stable {a i : Nat} (hs : ∀ g, g < T.H → rch T a (i + 1) g = true → rch T a i g = true) : ∀ n g, g < T.H → rch T a n g = true → rch T a i g = true := by
  intro n
  induction n with
  | zero => intro g _ h; exact rch_mono (Nat.zero_le i) h
  | succ n ih =>
    intro g hg h
    rcases (rch_iff a n g).1 h with h | ⟨f, h1, h2, h3⟩
    · exact ih g hg h
    · exact hs g hg ((rch_iff a i g).2 (.inr ⟨f, h1, ih f h1 h2, h3⟩))
theorem rch_sat {a : Nat} (ha : a < T.H) (n g : Nat) (hg : g < T.H) (h : rch T a n g = true) : rch T a (T.H - 1) g = true := by
  have key : ∀ n, n ≤ T.H → (∃ i, i < n ∧ ∀ g, g < T.H → rch T a (i + 1) g = true → rch T a i g = true) ∨ n + 1 ≤ fb_ct (rch T a n) T.H := by
    intro n
    induction n with
    | zero =>
      intro _
      exact .inr (fb_ct_pos.2 ⟨a, ha, rch_0 a⟩)
    | succ n ih =>
      intro hn
      rcases ih (by omega) with ⟨i, h1, h2⟩ | h1
      · exact .inl ⟨i, by omega, h2⟩
      · by_cases hs : ∀ g, g < T.H → rch T a (n + 1) g = true → rch T a n g = true
        · exact .inl ⟨n, by omega, hs⟩
        · right
          obtain ⟨g, hg⟩ := Classical.not_forall.1 hs
          have g1 : g < T.H := Classical.byContradiction fun z => hg fun z2 => absurd z2 z
          have g2 : rch T a (n + 1) g = true := Classical.byContradiction fun z => hg fun _ z2 => absurd z2 z
          have g3 : rch T a n g = false := by
            cases z : rch T a n g with
            | false => rfl
            | true => exact absurd (fun _ _ => z) hg
          have := ct_lt g1 (p := rch T a n) (q := rch T a (n + 1)) (fun k _ hk => rch_mono (by omega) hk) g3 g2
          omega
  rcases key T.H (Nat.le_refl _) with ⟨i, h1, h2⟩ | h1
  · exact rch_mono (by omega) (rch_stable h2 n g hg h)
  · have := fb_ct_le (rch T a T.H) T.H
    omega
theorem pl_iff (a b : Nat) : T.pl a b = true ↔ ∃ l j, l < T.L ∧ T.tw l = some j ∧ T.ho l = a ∧ T.ho j = b := by
  unfold TW.pl
  rw [decide_eq_true_eq, fb_ct_pos]
  constructor
  · rintro ⟨l, h1, h2⟩
    unfold TW.pl1 at h2
    cases e : T.tw l with
    | none => rw [e, Bool.and_false] at h2; cases h2
    | some j =>
      rw [e, Bool.and_eq_true, decide_eq_true_eq, decide_eq_true_eq] at h2
      exact ⟨l, j, h1, e, h2.1, h2.2⟩
  · rintro ⟨l, j, h1, e, h2, h3⟩
    exact ⟨l, h1, by rw [pl1_some e, h2, h3, decide_eq_true rfl, decide_eq_true rfl]; rfl⟩
theorem pl_sym (h : WfT T) {a b : Nat} (hp : T.pl a b = true) : T.pl b a = true := by
  obtain ⟨l, j, h1, e, h2, h3⟩ := (pl_iff a b).1 hp
  obtain ⟨h4, -, h5⟩ := h.twI h1 e
  exact (pl_iff b a).2 ⟨j, l, h4, h5, h3, h2⟩
theorem rch_trans {a b c n : Nat} (h1 : rch T a n b = true) : ∀ k, ∀ c, rch T b k c = true → rch T a (n + k) c = true := by
  intro k
  induction k with
  | zero =>
    intro c h
    have : c = b := of_decide_eq_true h
    rw [this]; exact h1
  | succ k ih =>
    intro c h
    rw [← Nat.add_assoc]
    rcases (rch_iff b k c).1 h with h | ⟨f, g1, g2, g3⟩
    · exact (rch_iff a (n + k) c).2 (.inl (ih c h))
    · exact (rch_iff a (n + k) c).2 (.inr ⟨f, g1, ih f g2, g3⟩)
theorem rch_sym (h : WfT T) {a : Nat} : ∀ n b, b < T.H → rch T a n b = true → rch T b n a = true := by
  intro n
  induction n with
  | zero =>
    intro b _ h1
    have : b = a := of_decide_eq_true h1
    rw [this]; exact rch_0 a
  | succ n ih =>
    intro b hb h1
    rcases (rch_iff a n b).1 h1 with h1 | ⟨f, g1, g2, g3⟩
    · exact rch_mono (by omega) (ih b hb h1)
    · have k1 : rch T b 1 f = true := (rch_iff b 0 f).2 (.inr ⟨b, hb, rch_0 b, pl_sym h g3⟩)
      have := rch_trans (c := a) k1 n a (ih f g1 g2)
      rw [Nat.add_comm] at this
      exact this
theorem rch_8 (h : WfT T) {a : Nat} (ha : a < T.H) (n g : Nat) (hg : g < T.H) (h1 : rch T a n g = true) : rch T a 8 g = true := rch_mono (by have := h.H8; omega) (rch_sat ha n g hg h1)
/-! the class -/
theorem C_further (h : RcT T t) {p : Nat → Bool} {x : Int32} (hx : Bm T.H p x) : ∃ y, f9_oneTwinFurther t x = some y ∧ Bm T.H (fun g => p g || decide (0 < fb_ct (fun f => p f && T.pl f g) T.H)) y := by
  have hH := h.W.H8
  obtain ⟨y, h1, h2⟩ := lpw_R (F := f9_oneTwinFurther_L1 t x) (fun i s => s.2 = nI i ∧ Bm T.H (fun g => p g || decide (0 < fb_ct (fun f => p f && T.pl f g) i)) s.1) (fun y => Bm T.H (fun g => p g || decide (0 < fb_ct (fun f => p f && T.pl f g) T.H)) y) T.H (s := (x, 0)) (by
    rintro i ⟨z, _⟩ hi ⟨rfl, hz⟩
    dsimp only at hz
    unfold f9_oneTwinFurther_L1
    dsimp only
    rw [h.eH, if_neg (nI_ge hi (by omega)), bs _ (by omega), hx.at hi (by omega)]
    simp only [zB_1]
    cases q : p i with
    | true =>
      obtain ⟨w, hw, hwb⟩ := C_plungedBy h (a := i) (by omega)
      rw [if_pos rfl, hw, Option.bind_some, Option.bind_some, nI_1]
      refine ⟨_, rfl, rfl, (hz.or hwb).cong fun g hg => ?_⟩
      rw [fb_ct_succ]
      rw [q, Bool.true_and, Bool.or_assoc]
      congr 1
      cases T.pl i g with
      | true => rw [Bool.or_true]; exact (decide_eq_true (by rw [if_pos rfl]; omega)).symm
      | false => rw [Bool.or_false]; rfl
    | false =>
      rw [if_neg (by decide), Option.bind_some, nI_1]
      refine ⟨_, rfl, rfl, hz.cong fun g hg => ?_⟩
      rw [fb_ct_succ]
      rw [q, Bool.false_and]
      rfl) (by
    rintro ⟨z, _⟩ ⟨rfl, hz⟩
    refine ⟨z, ?_, hz⟩
    unfold f9_oneTwinFurther_L1
    dsimp only
    rw [h.eH, if_pos (Int32.le_refl _)]) ⟨rfl, hx.cong fun g _ => by show p g = (p g || false); rw [Bool.or_false]⟩
  refine ⟨y, ?_, h2⟩
  unfold f9_oneTwinFurther
  rw [h1]
  rfl
theorem C_fewest (h : RcT T t) {a b : Nat} (ha : a < T.H) (hb : b < T.H) : f9_fewestTwins t (nI a) (nI b) = some (fsA (fun n => rch T a n b) 8 0) := by
  have hH := h.W.H8
  obtain ⟨q, h1, h2⟩ := lpw_E (F := f9_fewestTwins_L1 t (nI b)) (fun i s => s.2 = nI i ∧ Bm T.H (rch T a i) s.1 ∧ ∀ j, j < i → rch T a j b = false) (fun q => q = .inl (fsA (fun n => rch T a n b) 8 0) ∨ q = .inr () ∧ fsA (fun n => rch T a n b) 8 0 = -1) 8 (fun i s hi hI => by
    obtain ⟨x, _⟩ := s
    obtain ⟨e, hx, hn⟩ := hI
    dsimp only at e hx
    subst e
    unfold f9_fewestTwins_L1
    dsimp only
    rw [if_neg (show ¬ (8 : Int32) ≤ nI i from nI_ge hi (by decide)), bs _ (by omega), hx.at hb (by omega)]
    simp only [zB_1]
    cases z : rch T a i b with
    | true =>
      right
      rw [if_pos rfl]
      exact ⟨_, rfl, .inl (by rw [fsA_at (p := fun n => rch T a n b) hi z hn]; rfl)⟩
    | false =>
      left
      obtain ⟨y, hy, hyb⟩ := C_further h hx
      rw [if_neg (by decide), hy, Option.bind_some, nI_1]
      exact ⟨_, rfl, rfl, hyb, lt_snoc (p := fun n => rch T a n b) hn z⟩) (fun s hI => by
    obtain ⟨x, _⟩ := s
    obtain ⟨e, hx, hn⟩ := hI
    dsimp only at e hx
    subst e
    exact ⟨_, if_pos (Int32.le_refl _), .inr ⟨rfl, fsA_none hn⟩⟩) (Nat.zero_le _) (s := ((1 : Int32) <<< (nI a &&& 31), 0)) ⟨rfl, Bm.one ha (by omega), fun j hj => absurd hj (Nat.not_lt_zero j)⟩
  unfold f9_fewestTwins
  rw [h1, Option.bind_some]
  rcases h2 with rfl | ⟨rfl, h2⟩
  · rfl
  · rw [h2]
theorem C_groupOf (h : RcT T t) {a : Nat} (ha : a < T.H) : ∃ x, f9_groupOf t (nI a) = some x ∧ Bm T.H (rch T a 8) x := by
  have hH := h.W.H8
  obtain ⟨x, h1, h2⟩ := lpw_R (F := f9_groupOf_L1 t) (fun i s => s.2 = nI i ∧ Bm T.H (rch T a i) s.1) (fun x => Bm T.H (rch T a 8) x) 8 (s := ((1 : Int32) <<< (nI a &&& 31), 0)) (by
    rintro i ⟨x, _⟩ hi ⟨rfl, hx⟩
    obtain ⟨y, hy, hyb⟩ := C_further h hx
    unfold f9_groupOf_L1
    dsimp only
    rw [if_neg (show ¬ (8 : Int32) ≤ nI i from nI_ge hi (by decide)), hy, Option.bind_some, nI_1]
    exact ⟨_, rfl, rfl, hyb⟩) (by
    rintro ⟨x, _⟩ ⟨rfl, hx⟩
    exact ⟨x, if_pos (Int32.le_refl _), hx⟩) ⟨rfl, Bm.one ha (by omega)⟩
  refine ⟨x, ?_, h2⟩
  unfold f9_groupOf
  rw [h1]
  rfl
/-- h is in the group of an earlier one -/
def grB (T : TW) (i g : Nat) : Bool := decide (0 < fb_ct (fun k => rch T k 8 g) i)
def grN (T : TW) : Nat := fb_ct (fun h => !grB T h h) T.H
theorem grB_s (i g : Nat) : grB T (i + 1) g = (grB T i g || rch T i 8 g) := by
  unfold grB
  rw [fb_ct_succ]
  cases rch T i 8 g with
  | true => rw [Bool.or_true]; exact decide_eq_true (by rw [if_pos rfl]; omega)
  | false => rw [Bool.or_false]; rfl
theorem C_groups (h : RcT T t) : f9_groups t = some (nI (grN T)) := by
  have hH := h.W.H8
  obtain ⟨q, h1, h2⟩ := lpw_R (F := f9_groups_L1 t) (fun i s => s.1 = nI (fb_ct (fun h => !grB T h h) i) ∧ s.2.2 = nI i ∧ Bm T.H (grB T i) s.2.1) (fun q => q = nI (grN T)) T.H (s := (0, 0, 0)) (by
    rintro i ⟨_, x, _⟩ hi ⟨rfl, rfl, hx⟩
    dsimp only at hx
    unfold f9_groups_L1
    dsimp only
    rw [h.eH, if_neg (nI_ge hi (by omega)), bs _ (by omega), hx.at hi (by omega)]
    simp only [zB_0]
    rw [fb_ct_succ]
    cases z : grB T i i with
    | false =>
      obtain ⟨y, hy, hyb⟩ := C_groupOf h hi
      rw [if_pos rfl, hy, Option.bind_some, Option.bind_some, nI_1, nI_1]
      exact ⟨_, rfl, rfl, rfl, (hx.or hyb).cong fun g _ => (grB_s i g).symm⟩
    | true =>
      rw [if_neg (by decide), Option.bind_some, nI_1]
      refine ⟨_, rfl, rfl, rfl, hx.cong fun g hg => ?_⟩
      rw [grB_s]
      cases w : rch T i 8 g with
      | false => rw [Bool.or_false]
      | true =>
        rw [Bool.or_true]
        obtain ⟨k, k1, k2⟩ := fb_ct_pos.1 (of_decide_eq_true z)
        have := rch_8 h.W (by omega) _ g hg (rch_trans (c := g) k2 8 g w)
        exact decide_eq_true (fb_ct_pos.2 ⟨k, k1, this⟩)) (by
    rintro ⟨_, x, _⟩ ⟨rfl, rfl, hx⟩
    refine ⟨nI (grN T), ?_, rfl⟩
    unfold f9_groups_L1
    dsimp only
    rw [h.eH, if_pos (Int32.le_refl _)]
    rfl) ⟨rfl, rfl, Bm.zero _⟩
  unfold f9_groups
  rw [h1, h2]
  rfl
/-! the reference -/
def wyN (T : TW) (a n g : Nat) : Nat := if fa_first (fun d => rch T a d g) (n + 1) < n + 1 then fa_first (fun d => rch T a d g) (n + 1) else 100000
def wyV (T : TW) (a n i g : Nat) : Nat := if wyN T a n g ≠ 100000 then wyN T a n g else if 0 < fb_ct (fun f => decide (wyN T a n f = n) && T.pl f g) i then n + 1 else 100000
theorem wyN_le (a n g : Nat) : wyN T a n g ≤ n ∧ rch T a (wyN T a n g) g = true ∧ (∀ d, d < wyN T a n g → rch T a d g = false) ∨ wyN T a n g = 100000 ∧ ∀ d, d ≤ n → rch T a d g = false := by
  unfold wyN
  have h1 := fa_first_le (fun d => rch T a d g) (n + 1)
  by_cases h : fa_first (fun d => rch T a d g) (n + 1) < n + 1
  · rw [if_pos h]
    exact .inl ⟨by omega, fa_first_yes (fun d => rch T a d g) _ h, fun d hd => fa_first_no (fun d => rch T a d g) _ d hd⟩
  · rw [if_neg h]
    exact .inr ⟨rfl, fun d hd => fa_first_no (fun d => rch T a d g) (n + 1) d (by omega)⟩
theorem wyN_of {a n g d : Nat} (hn : n < 100000) (hd : d ≤ n) (h1 : rch T a d g = true) (h2 : ∀ j, j < d → rch T a j g = false) : wyN T a n g = d := by
  unfold wyN
  rw [fst_at (p := fun d => rch T a d g) (n := n + 1) (i := d) (by omega) h1 h2, if_pos (by omega)]
theorem wyN_far {a n g : Nat} (h : ∀ d, d ≤ n → rch T a d g = false) : wyN T a n g = 100000 := by
  unfold wyN
  rw [fst_none (p := fun d => rch T a d g) (fun d hd => h d (by omega)), if_neg (Nat.lt_irrefl _)]
theorem wyV_end {a n g : Nat} (hn : n < 1000) : wyV T a n T.H g = wyN T a (n + 1) g := by
  unfold wyV
  rcases wyN_le (T := T) a n g with ⟨h1, h2, h3⟩ | ⟨h1, h2⟩
  · rw [if_pos (by omega)]
    exact (wyN_of (by omega) (by omega) h2 h3).symm
  · rw [if_neg (fun z => z h1)]
    by_cases hp : 0 < fb_ct (fun f => decide (wyN T a n f = n) && T.pl f g) T.H
    · rw [if_pos hp]
      obtain ⟨f, f1, f2⟩ := fb_ct_pos.1 hp
      rw [Bool.and_eq_true, decide_eq_true_eq] at f2
      refine (wyN_of (by omega) (Nat.le_refl _) ((rch_iff a n g).2 (.inr ⟨f, f1, ?_, f2.2⟩)) (fun j hj => h2 j (by omega))).symm
      rcases wyN_le (T := T) a n f with ⟨k1, k2, k3⟩ | ⟨k1, k2⟩
      · rw [f2.1] at k2; exact k2
      · omega
    · rw [if_neg hp]
      refine (wyN_far (fun d hd => ?_)).symm
      by_cases e : d = n + 1
      · rw [e]
        cases z : rch T a (n + 1) g with
        | false => rfl
        | true =>
          exfalso
          rcases (rch_iff a n g).1 z with z | ⟨f, f1, f2, f3⟩
          · rw [h2 n (Nat.le_refl n)] at z; cases z
          · rcases wyN_le (T := T) a n f with ⟨k1, k2, k3⟩ | ⟨k1, k2⟩
            · by_cases q : wyN T a n f = n
              · exact hp (fb_ct_pos.2 ⟨f, f1, by rw [Bool.and_eq_true, decide_eq_true_eq]; exact ⟨q, f3⟩⟩)
              · have : rch T a (wyN T a n f + 1) g = true := (rch_iff a _ g).2 (.inr ⟨f, f1, k2, f3⟩)
                rw [h2 _ (by omega)] at this
                cases this
            · rw [k2 n (Nat.le_refl n)] at f2; cases f2
      · exact h2 d (by omega)
theorem wyV_0 (a n g : Nat) : wyV T a n 0 g = wyN T a n g := by
  unfold wyV
  by_cases h : wyN T a n g = 100000
  · rw [if_neg (fun z => z h), h]
    exact if_neg (Nat.lt_irrefl 0)
  · rw [if_pos h]
theorem wyV_lt {a n i g : Nat} (hn : n < 1000) : wyV T a n i g ≤ 100000 := by
  unfold wyV
  rcases wyN_le (T := T) a n g with ⟨h1, h2, h3⟩ | ⟨h1, h2⟩
  · rw [if_pos (by omega)]; omega
  · rw [if_neg (fun z => z h1)]
    split <;> omega
theorem M_tellWays (h : RmT T m) {a : Nat} (ha : a < T.H) : ∃ m', f11_tellWays m (nI a) = some m' ∧ Fr [] [38] m m' ∧ ∀ g, g < T.H → m'.2 38 g = nI (wyN T a T.H g) := by
  have hH := h.W.H8
  obtain ⟨q1, h1, h2, h3⟩ := lpw_R (F := f11_tellWays_L1 (nI a)) (fun i s => s.1 = nI i ∧ Fr [] [38] m s.2 ∧ ∀ g, g < i → s.2.2 38 g = nI (wyN T a 0 g)) (fun q => Fr [] [38] m q ∧ ∀ g, g < 8 → q.2 38 g = nI (wyN T a 0 g)) 8 (s := (0, m)) (by
    rintro i ⟨_, q⟩ hi ⟨rfl, hf, hq⟩
    dsimp only at hf hq
    have e : (if nI i = nI a then some 0 else some 100000 : Option Int32) = some (nI (wyN T a 0 i)) := by
      by_cases z : i = a
      · rw [z, if_pos rfl, wyN_of (d := 0) (by decide) (Nat.le_refl 0) (rch_0 a) (fun j hj => absurd hj (Nat.not_lt_zero j))]
        rfl
      · rw [if_neg (fun q => z ((nI_eq (by omega) (by omega)).1 q)), wyN_far (fun d hd => by
          obtain rfl : d = 0 := by omega
          exact decide_eq_false z)]
        rfl
    unfold f11_tellWays_L1
    dsimp only
    rw [if_neg (show ¬ (8 : Int32) ≤ nI i from nI_ge hi (by decide)), e, Option.bind_some, stS_n _ _ _ hi (by decide), Option.bind_some, nI_1]
    refine ⟨_, rfl, rfl, hf.trans (Fr.sA q 38 _ (by decide)), fun g hg => ?_⟩
    show upd (q.2 38) i _ g = _
    by_cases z : g = i
    · rw [z, upd_e]
    · rw [upd_n _ _ z]; exact hq g (by omega)) (by
    rintro ⟨_, q⟩ ⟨rfl, hf, hq⟩
    exact ⟨q, if_pos (Int32.le_refl _), hf, hq⟩) ⟨rfl, Fr.refl _ _ _, fun g hg => absurd hg (Nat.not_lt_zero g)⟩
  obtain ⟨q2, h4, h5, h6⟩ := lpw_R (F := f11_tellWays_L5) (fun n s => s.1 = nI n ∧ Fr [] [38] m s.2 ∧ ∀ g, g < T.H → s.2.2 38 g = nI (wyN T a n g)) (fun q => Fr [] [38] m q ∧ ∀ g, g < T.H → q.2 38 g = nI (wyN T a T.H g)) T.H (s := (0, q1)) (by
    rintro n ⟨_, q⟩ hn ⟨rfl, hf, hq⟩
    dsimp only at hf hq
    obtain ⟨q3, k1, k2, k3⟩ := lpw_R (F := f11_tellWays_L7 (nI n, q)) (fun i s => s.1 = nI i ∧ Fr [] [38] m s.2 ∧ ∀ g, g < T.H → s.2.2 38 g = nI (wyV T a n i g)) (fun q => Fr [] [38] m q ∧ ∀ g, g < T.H → q.2 38 g = nI (wyV T a n T.H g)) T.H (s := (0, q)) (by
      rintro i ⟨_, p⟩ hi ⟨rfl, hf, hp⟩
      dsimp only at hf hp
      have hin : wyV T a n i i = n ↔ wyN T a n i = n := by
        unfold wyV
        rcases wyN_le (T := T) a n i with ⟨h1, h2, h3⟩ | ⟨h1, h2⟩
        · rw [if_pos (by omega)]
        · rw [if_neg (fun z => z h1), h1]
          split <;> omega
      have hVi := wyV_lt (T := T) (a := a) (n := n) (i := i) (g := i) (by omega)
      by_cases hz : wyN T a n i = n
      · -- the row of i is looked at
        obtain ⟨p2, g1, g2, g3⟩ := lpw_R (F := f11_tellWays_L9 (nI i, p) (nI n, q)) (fun j s => s.1 = nI j ∧ Fr [] [38] m s.2 ∧ ∀ g, g < T.H → s.2.2 38 g = nI (if g < j then wyV T a n (i + 1) g else wyV T a n i g)) (fun p => Fr [] [38] m p ∧ ∀ g, g < T.H → p.2 38 g = nI (wyV T a n (i + 1) g)) T.H (s := (0, p)) (by
          rintro j ⟨_, p⟩ hj ⟨rfl, hf, hp⟩
          dsimp only at hf hp
          have hm := h.fr hf
          have hii : wyV T a n (i + 1) i = n := by
            unfold wyV
            rw [hz, if_pos (by omega)]
          have e1 : p.2 38 i = nI n := by
            rw [hp i hi]
            congr 1
            split
            · exact hii
            · exact hin.2 hz
          obtain ⟨x, hx, hxb⟩ := M_plunged hm (a := i) (by omega)
          have e2 : p.2 38 j = nI (wyV T a n i j) := by rw [hp j hj, if_neg (Nat.lt_irrefl j)]
          have hVj := wyV_lt (T := T) (a := a) (n := n) (i := i) (g := j) (by omega)
          unfold f11_tellWays_L9
          dsimp only
          rw [cl_0, hm.eH, if_neg (nI_ge hj (by omega)), ldO_n _ (by omega) (by omega), e1, Option.bind_some, if_pos rfl, hx, Option.bind_some, M_isOf hxb (by omega) hj, Option.bind_some]
          simp only [ifz]
          have nxt : wyV T a n (i + 1) j = if T.pl i j = true then min (wyV T a n i j) (n + 1) else wyV T a n i j := by
            unfold wyV
            rw [fb_ct_succ, decide_eq_true hz, Bool.true_and]
            rcases wyN_le (T := T) a n j with ⟨h1, h2, h3⟩ | ⟨h1, h2⟩
            · have : wyN T a n j ≠ 100000 := by omega
              rw [if_pos this, if_pos this]
              split
              · omega
              · rfl
            · have : ¬ wyN T a n j ≠ 100000 := fun z => z h1
              rw [if_neg this, if_neg this]
              cases T.pl i j with
              | true =>
                rw [if_pos rfl, if_pos (by omega), if_pos rfl]
                split <;> omega
              | false =>
                simp only [Bool.false_eq_true, if_false, Nat.add_zero]
          have fin : ∀ p' : St, Fr [] [38] m p' → (∀ g, g < T.H → p'.2 38 g = if g = j then nI (wyV T a n (i + 1) j) else p.2 38 g) → (∀ g, g < T.H → p'.2 38 g = nI (if g < j + 1 then wyV T a n (i + 1) g else wyV T a n i g)) := by
            intro p' _ hp' g hg
            rw [hp' g hg]
            by_cases z : g = j
            · rw [if_pos z, if_pos (by omega), z]
            · rw [if_neg z, hp g hg]
              by_cases z2 : g < j
              · rw [if_pos z2, if_pos (by omega)]
              · rw [if_neg z2, if_neg (by omega)]
          cases w : T.pl i j with
          | true =>
            rw [w, if_pos rfl] at nxt
            rw [if_pos rfl, ldO_n _ (by omega) (by omega), e2, Option.bind_some, nI_1, jmin_n (by omega) (by omega), ← nxt, stS_n _ _ _ (by omega) (by omega), Option.bind_some, Option.bind_some, nI_1]
            have hf2 : Fr [] [38] m (sA p 38 (upd (p.2 38) j (nI (wyV T a n (i + 1) j)))) := hf.trans (Fr.sA p 38 _ (by decide))
            exact ⟨_, rfl, rfl, hf2, fin _ hf2 (fun g _ => rfl)⟩
          | false =>
            rw [w, if_neg (by decide)] at nxt
            rw [if_neg (by decide), Option.bind_some, nI_1]
            refine ⟨_, rfl, rfl, hf, fin p hf (fun g hg => ?_)⟩
            by_cases z : g = j
            · rw [if_pos z, z, e2, nxt]
            · rw [if_neg z]) (by
          rintro ⟨_, p⟩ ⟨rfl, hf, hp⟩
          refine ⟨p, ?_, hf, fun g hg => by rw [hp g hg, if_pos hg]⟩
          unfold f11_tellWays_L9
          dsimp only
          rw [cl_0, (h.fr hf).eH, if_pos (Int32.le_refl _)]) ⟨rfl, hf, fun g hg => by rw [if_neg (Nat.not_lt_zero g)]; exact hp g hg⟩
        unfold f11_tellWays_L7
        dsimp only
        rw [cl_0, (h.fr hf).eH, if_neg (nI_ge hi (by omega)), g1, Option.bind_some, nI_1]
        exact ⟨_, rfl, rfl, g2, g3⟩
      · have hv : ∀ g, wyV T a n (i + 1) g = wyV T a n i g := fun g => by
          unfold wyV
          rw [fb_ct_succ, decide_eq_false hz, Bool.false_and]
          rfl
        have e9 : lpw (f11_tellWays_L9 (nI i, p) (nI n, q)) (0, p) = some p := by
          refine lpw_inr ?_
          unfold f11_tellWays_L9
          dsimp only
          rw [cl_0, (h.fr hf).eH, if_neg (show ¬ nI T.H ≤ 0 from nI_ge (a := 0) (by omega) (by omega)), ldO_n _ (by omega) (by omega), hp i hi, Option.bind_some, if_neg (fun z => hz (hin.1 ((nI_eq (by omega) (by omega)).1 z)))]
        unfold f11_tellWays_L7
        dsimp only
        rw [cl_0, (h.fr hf).eH, if_neg (nI_ge hi (by omega)), e9, Option.bind_some, nI_1]
        exact ⟨_, rfl, rfl, hf, fun g hg => by rw [hv]; exact hp g hg⟩) (by
      rintro ⟨_, p⟩ ⟨rfl, hf, hp⟩
      refine ⟨p, ?_, hf, hp⟩
      unfold f11_tellWays_L7
      dsimp only
      rw [cl_0, (h.fr hf).eH, if_pos (Int32.le_refl _)]) ⟨rfl, hf, fun g hg => by rw [wyV_0]; exact hq g hg⟩
    unfold f11_tellWays_L5
    dsimp only
    rw [cl_0, (h.fr hf).eH, if_neg (nI_ge hn (by omega)), k1, Option.bind_some, nI_1]
    exact ⟨_, rfl, rfl, k2, fun g hg => by rw [← wyV_end (by omega)]; exact k3 g hg⟩) (by
    rintro ⟨_, q⟩ ⟨rfl, hf, hq⟩
    refine ⟨q, ?_, hf, hq⟩
    unfold f11_tellWays_L5
    dsimp only
    rw [cl_0, (h.fr hf).eH, if_pos (Int32.le_refl _)]) ⟨rfl, h2, fun g hg => h3 g (by omega)⟩
  refine ⟨q2, ?_, h5, h6⟩
  unfold f11_tellWays
  rw [h1, Option.bind_some, h4, Option.bind_some]
theorem wy_fs (h : WfT T) {a b : Nat} (ha : a < T.H) (hb : b < T.H) : (if nI (wyN T a T.H b) = 100000 then -1 else nI (wyN T a T.H b)) = fsA (fun n => rch T a n b) 8 0 := by
  have hH := h.H8
  rcases wyN_le (T := T) a T.H b with ⟨h1, h2, h3⟩ | ⟨h1, h2⟩
  · have h4 : wyN T a T.H b ≤ T.H - 1 := by
      refine Nat.le_of_not_lt fun z => ?_
      have := rch_sat ha _ b hb h2
      rw [h3 _ z] at this
      cases this
    rw [if_neg (fun z => by have := (nI_eq (b := 100000) (by omega) (by decide)).1 z; omega), fsA_at (p := fun n => rch T a n b) (i := wyN T a T.H b) (by omega) h2 h3]
    rfl
  · rw [h1, if_pos (by rfl), fsA_none]
    intro j hj
    cases z : rch T a j b with
    | false => rfl
    | true =>
      have := rch_sat ha _ b hb z
      rw [h2 _ (by omega)] at this
      cases this
theorem M_groups (h : RmT T m) : ∃ m', f11_groups m = some (nI (grN T), m') ∧ Fr [] [38] m m' := by
  have hH := h.W.H8
  obtain ⟨q, h1, h2, h3⟩ := lpw_R (F := f11_groups_L1) (fun i s => s.1 = nI (fb_ct (fun h => !grB T h h) i) ∧ s.2.1 = nI i ∧ Fr [] [38] m s.2.2) (fun q => q.1 = nI (grN T) ∧ Fr [] [38] m q.2) T.H (s := (0, 0, m)) (by
    rintro i ⟨_, _, q⟩ hi ⟨rfl, rfl, hf⟩
    dsimp only at hf
    obtain ⟨q3, k1, k2, k3⟩ := M_tellWays (h.fr hf) hi
    have e : lpw (f11_groups_L4 q3 (nI (fb_ct (fun h => !grB T h h) i), nI i, q)) (true, nI 0) = some (allB (fun k => decide (wyN T i T.H k = 100000)) i) := by
      refine lpw_S (fun j => (allB (fun k => decide (wyN T i T.H k = 100000)) j, nI j)) i (fun j hj => ?_) (if_pos (Int32.le_refl _))
      have hle : wyN T i T.H j ≤ 100000 := by
        rcases wyN_le (T := T) i T.H j with ⟨h1, h2, h3⟩ | ⟨h1, h2⟩ <;> omega
      have eq : (nI (wyN T i T.H j) = 100000) = (wyN T i T.H j = 100000) := propext (nI_eq (b := 100000) (by omega) (by decide))
      unfold f11_groups_L4
      dsimp only
      rw [if_neg (nI_ge hj (by omega)), ldO_n _ (by omega) (by omega), k3 j (by omega), Option.bind_some]
      simp only [ifz, eq, ifd]
      rw [nI_1]
      show _ = some (Sum.inl (allB (fun k => decide (wyN T i T.H k = 100000)) j && decide (wyN T i T.H j = 100000), nI (j + 1)))
      cases allB (fun k => decide (wyN T i T.H k = 100000)) j <;> rfl
    have e2 : allB (fun k => decide (wyN T i T.H k = 100000)) i = !grB T i i := by
      refine bool_ext ?_
      rw [allB_iff, Bool.not_eq_true', grB, decide_eq_false_iff_not, fb_ct_pos]
      constructor
      · rintro g ⟨k, k1, k2⟩
        have h4 := of_decide_eq_true (g k k1)
        have h5 := rch_8 h.W hi _ k (by omega) (rch_sym h.W 8 i hi k2)
        rcases wyN_le (T := T) i T.H k with ⟨h1, h2, h3⟩ | ⟨h1, h2⟩
        · omega
        · have := rch_sat hi 8 k (by omega) h5
          rw [h2 _ (by omega)] at this
          cases this
      · intro g k hk
        refine decide_eq_true ?_
        rcases wyN_le (T := T) i T.H k with ⟨h1, h2, h3⟩ | ⟨h1, h2⟩
        · exact absurd ⟨k, hk, rch_8 h.W (by omega) _ i hi (rch_sym h.W _ k (by omega) h2)⟩ g
        · exact h1
    unfold f11_groups_L1
    dsimp only
    rw [cl_0, (h.fr hf).eH, if_neg (nI_ge hi (by omega)), k1, Option.bind_some, show (0 : Int32) = nI 0 from rfl, e, Option.bind_some, show nI 0 = (0 : Int32) from rfl, e2]
    simp only [ifz, ifb, Option.bind_some]
    rw [zB_nI, nI_add, nI_1, fb_ct_succ]
    exact ⟨_, rfl, rfl, rfl, hf.trans k2⟩) (by
    rintro ⟨_, _, q⟩ ⟨rfl, rfl, hf⟩
    refine ⟨(nI (grN T), q), ?_, rfl, hf⟩
    unfold f11_groups_L1
    dsimp only
    rw [cl_0, (h.fr hf).eH, if_pos (Int32.le_refl _)]
    rfl) ⟨rfl, rfl, Fr.refl _ _ _⟩
  refine ⟨q.2, ?_, h3⟩
  unfold f11_groups
  rw [h1, Option.bind_some, h2]
end
