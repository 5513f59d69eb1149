/-! plunged houses, twins changed, copies -/
def updO (f : Nat → Option Nat) (i : Nat) (x : Option Nat) : Nat → Option Nat := fun j => if j = i then x else f j
theorem updO_e (f : Nat → Option Nat) (i : Nat) (x : Option Nat) : updO f i x i = x := if_pos rfl
theorem updO_n (f : Nat → Option Nat) {i j : Nat} (x : Option Nat) (h : j ≠ i) : updO f i x j = f j := if_neg h
/-- lamps may change their twins -/
def TW.csw (T : TW) (l k : Nat) : Bool := decide (k ≠ l) && decide (T.tw l ≠ some k) && (T.tw l).isSome && (T.tw k).isSome
def TW.swf (T : TW) (l k : Nat) : Nat → Option Nat := match T.tw l, T.tw k with
  | some p, some q => updO (updO (updO (updO T.tw l (some q)) q (some l)) k (some p)) p (some k)
  | _, _ => T.tw
def TW.swp (T : TW) (l k : Nat) : TW := T.sTw (T.swf l k)
/-- both of two twins burn or neither -/
def LiT (T : TW) : Prop := ∀ k j, k < T.L → T.tw k = some j → T.li k = T.li j
section
variable {T : TW} {t m g e : St} {r : RU} {l k : Nat}
theorem csw_iff : T.csw l k = true ↔ k ≠ l ∧ T.tw l ≠ some k ∧ ∃ p q, T.tw l = some p ∧ T.tw k = some q := by
  unfold TW.csw
  rw [Bool.and_eq_true, Bool.and_eq_true, Bool.and_eq_true, decide_eq_true_eq, decide_eq_true_eq, Option.isSome_iff_exists, Option.isSome_iff_exists]
  constructor
  · rintro ⟨⟨⟨a, b⟩, p, c⟩, q, d⟩
    exact ⟨a, b, p, q, c, d⟩
  · rintro ⟨a, b, p, q, c, d⟩
    exact ⟨⟨⟨a, b⟩, p, c⟩, q, d⟩
theorem sw_ne (h : WfT T) (hl : l < T.L) (hk : k < T.L) {p q : Nat} (h1 : k ≠ l) (h2 : T.tw l ≠ some k) (hp : T.tw l = some p) (hq : T.tw k = some q) : p < T.L ∧ q < T.L ∧ p ≠ l ∧ q ≠ k ∧ p ≠ k ∧ q ≠ l ∧ p ≠ q ∧ T.tw p = some l ∧ T.tw q = some k := by
  obtain ⟨a1, a2, a3⟩ := h.twI hl hp
  obtain ⟨b1, b2, b3⟩ := h.twI hk hq
  refine ⟨a1, b1, a2, b2, fun e => h2 (by rw [hp, e]), fun e => ?_, fun e => ?_, a3, b3⟩
  · rw [e] at b3; exact h2 b3
  · rw [e, b3] at a3; exact h1 (Option.some.inj a3)
theorem swf_eq {p q : Nat} (hp : T.tw l = some p) (hq : T.tw k = some q) : T.swf l k = updO (updO (updO (updO T.tw l (some q)) q (some l)) k (some p)) p (some k) := by
  unfold TW.swf
  rw [hp, hq]
theorem swf_at (h : WfT T) (hl : l < T.L) (hk : k < T.L) {p q : Nat} (h1 : k ≠ l) (h2 : T.tw l ≠ some k) (hp : T.tw l = some p) (hq : T.tw k = some q) : T.swf l k l = some q ∧ T.swf l k q = some l ∧ T.swf l k k = some p ∧ T.swf l k p = some k ∧ ∀ i, i ≠ l → i ≠ q → i ≠ k → i ≠ p → T.swf l k i = T.tw i := by
  obtain ⟨-, -, c1, c2, c3, c4, c5, -, -⟩ := sw_ne h hl hk h1 h2 hp hq
  rw [swf_eq hp hq]
  refine ⟨?_, ?_, ?_, ?_, fun i a b c d => ?_⟩
  · rw [updO_n _ _ c1.symm, updO_n _ _ h1.symm, updO_n _ _ c4.symm, updO_e]
  · rw [updO_n _ _ c5.symm, updO_n _ _ c2, updO_e]
  · rw [updO_n _ _ c3.symm, updO_e]
  · rw [updO_e]
  · rw [updO_n _ _ d, updO_n _ _ c, updO_n _ _ b, updO_n _ _ a]
theorem swp_W (h : WfT T) (hl : l < T.L) (hk : k < T.L) (hc : T.csw l k = true) : WfT (T.swp l k) := by
  obtain ⟨h1, h2, p, q, hp, hq⟩ := csw_iff.1 hc
  obtain ⟨c8, c9, c1, c2, c3, c4, c5, c6, c7⟩ := sw_ne h hl hk h1 h2 hp hq
  obtain ⟨d1, d2, d3, d4, d5⟩ := swf_at h hl hk h1 h2 hp hq
  refine ⟨h.1, h.2.1, h.2.2.1, h.2.2.2.1, fun i hi => ⟨h.hoH hi, h.oi99 hi, fun j e => ?_⟩⟩
  have hi : i < T.L := hi
  have e : T.swf l k i = some j := e
  show j < T.L ∧ j ≠ i ∧ T.swf l k j = some i
  by_cases i1 : i = l
  · subst i1
    rw [d1] at e
    obtain rfl := Option.some.inj e
    exact ⟨c9, c4, d2⟩
  by_cases i2 : i = q
  · subst i2
    rw [d2] at e
    obtain rfl := Option.some.inj e
    exact ⟨hl, c4.symm, d1⟩
  by_cases i3 : i = k
  · subst i3
    rw [d3] at e
    obtain rfl := Option.some.inj e
    exact ⟨c8, c3, d4⟩
  by_cases i4 : i = p
  · subst i4
    rw [d4] at e
    obtain rfl := Option.some.inj e
    exact ⟨hk, c3.symm, d3⟩
  rw [d5 i i1 i2 i3 i4] at e
  obtain ⟨f1, f2, f3⟩ := h.twI hi e
  refine ⟨f1, f2, ?_⟩
  rw [d5 j (fun z => ?_) (fun z => ?_) (fun z => ?_) (fun z => ?_)]
  · exact f3
  · rw [z, hp] at f3; exact i4 (Option.some.inj f3).symm
  · rw [z, c7] at f3; exact i3 (Option.some.inj f3).symm
  · rw [z, hq] at f3; exact i2 (Option.some.inj f3).symm
  · rw [z, c6] at f3; exact i1 (Option.some.inj f3).symm
theorem swp_csw (h : WfT T) (hl : l < T.L) (hk : k < T.L) (hc : T.csw l k = true) : (T.swp l k).csw l k = true := by
  obtain ⟨h1, h2, p, q, hp, hq⟩ := csw_iff.1 hc
  obtain ⟨c8, c9, c1, c2, c3, c4, c5, c6, c7⟩ := sw_ne h hl hk h1 h2 hp hq
  obtain ⟨d1, d2, d3, d4, d5⟩ := swf_at h hl hk h1 h2 hp hq
  exact csw_iff.2 ⟨h1, fun z => c2 (Option.some.inj ((show T.swf l k l = some k from z).symm.trans d1)).symm, q, p, d1, d3⟩
/-- changed twice: as it was -/
theorem swp_swp (h : WfT T) (hl : l < T.L) (hk : k < T.L) (hc : T.csw l k = true) : (T.swp l k).swp l k = T := by
  obtain ⟨h1, h2, p, q, hp, hq⟩ := csw_iff.1 hc
  obtain ⟨c8, c9, c1, c2, c3, c4, c5, c6, c7⟩ := sw_ne h hl hk h1 h2 hp hq
  obtain ⟨d1, d2, d3, d4, d5⟩ := swf_at h hl hk h1 h2 hp hq
  have hW := swp_W h hl hk hc
  have h2' : (T.swp l k).tw l ≠ some k := fun z => c2 (Option.some.inj ((show T.swf l k l = some k from z).symm.trans d1)).symm
  obtain ⟨e1, e2, e3, e4, e5⟩ := swf_at hW hl hk h1 h2' (show (T.swp l k).tw l = some q from d1) (show (T.swp l k).tw k = some p from d3)
  have key : (T.swp l k).swf l k = T.tw := funext fun i => by
    by_cases i1 : i = l
    · rw [i1, e1, hp]
    by_cases i2 : i = p
    · rw [i2, e2, c6]
    by_cases i3 : i = k
    · rw [i3, e3, hq]
    by_cases i4 : i = q
    · rw [i4, e4, c7]
    rw [e5 i i1 i2 i3 i4]
    exact d5 i i1 i4 i3 i2
  show ((T.swp l k).sTw ((T.swp l k).swf l k)) = T
  rw [key]
  rfl
theorem RcT.sTw {f : Nat → Option Nat} {x : Nat → Int32} (h : RcT T t) (hW : WfT (T.sTw f)) (hx : ∀ k, k < T.L → x k = eT (f k)) : RcT (T.sTw f) (sA t 10 x) := ⟨hW, h.eH, h.eL, h.eo, h.eli, h.ebr, h.2.2.2.2.2.2.1, fun k hk => ⟨h.eho hk, h.eoi hk, hx k hk⟩⟩
theorem RmT.sTw {f : Nat → Option Nat} {x : Nat → Int32} (h : RmT T t) (hW : WfT (T.sTw f)) (hx : ∀ k, k < T.L → x k = eT (f k)) : RmT (T.sTw f) (sA t 9 x) := ⟨hW, h.eH, h.eL, h.eo, h.eli, h.ebr, h.2.2.2.2.2.2.1, fun k hk => ⟨h.eho hk, h.eoi hk, hx k hk⟩⟩
theorem upd_eT {f : Nat → Int32} {g : Nat → Option Nat} {n i : Nat} {x : Int32} {y : Option Nat} (h : ∀ k, k < n → f k = eT (g k)) (e : x = eT y) : ∀ k, k < n → upd f i x k = eT (updO g i y k) := fun k hk => by
  by_cases q : k = i
  · rw [q, upd_e, updO_e, e]
  · rw [upd_n _ _ q, updO_n _ _ q, h k hk]
theorem C_canChangeTwins (h : RcT T t) (hl : l < T.L) (hk : k < T.L) : f9_canChangeTwins t (nI l) (nI k) = some (T.csw l k) := by
  have hL := h.W.L12
  unfold f9_canChangeTwins
  rw [ldO_n _ (by omega) (by omega), ldO_n _ (by omega) (by omega), h.etw hl, h.etw hk]
  simp only [Option.bind_some, eT_m1 (tw_B h.W hl), eT_m1 (tw_B h.W hk)]
  simp (disch := omega) only [nI_eq]
  have e1 : (nI k = eT (T.tw l)) = (T.tw l = some k) := by
    cases e : T.tw l with
    | none => exact propext ⟨fun z => (by
        have := eT_m1 (x := some k) (fun q z => by cases z; omega)
        have z : eT (some k) = -1 := z
        rw [this] at z; cases z), fun z => (by cases z)⟩
    | some j =>
      have hj := (h.W.twI hl e).1
      show (nI k = nI j) = _
      rw [nI_eq (by omega) (by omega), Option.some.injEq]
      exact propext eq_comm
  simp only [e1]
  unfold TW.csw
  by_cases a : k = l
  · rw [if_pos a]; simp [a]
  · rw [if_neg a]
    by_cases b : T.tw l = some k
    · rw [if_pos b]; simp [b]
    · rw [if_neg b]
      cases c : T.tw l with
      | none => rw [if_pos rfl]; simp
      | some p =>
        rw [if_neg (by intro z; cases z)]
        rw [c] at b
        cases d : T.tw k with
        | none => rw [if_pos rfl]; simp
        | some q => rw [if_neg (by intro z; cases z)]; simp [a, b]
theorem M_canSwap (h : RmT T m) (hl : l < T.L) (hk : k < T.L) : f11_canSwap m (nI l) (nI k) = some (T.csw l k) := by
  have hL := h.W.L12
  unfold f11_canSwap
  rw [ldO_n _ (by omega) (by omega), ldO_n _ (by omega) (by omega), h.etw hl, h.etw hk]
  simp only [Option.bind_some, eT_m1 (tw_B h.W hl), eT_m1 (tw_B h.W hk)]
  simp (disch := omega) only [nI_eq]
  have e1 : (eT (T.tw l) = nI k) = (T.tw l = some k) := by
    cases e : T.tw l with
    | none => exact propext ⟨fun z => (by
        have := eT_m1 (x := some k) (fun q z => by cases z; omega)
        have z : eT (some k) = -1 := z.symm
        rw [this] at z; cases z), fun z => (by cases z)⟩
    | some j =>
      have hj := (h.W.twI hl e).1
      show (nI j = nI k) = _
      rw [nI_eq (by omega) (by omega), Option.some.injEq]
  simp only [e1]
  unfold TW.csw
  by_cases a : l = k
  · rw [if_pos a]; simp [a]
  · rw [if_neg a]
    have a' : ¬ k = l := fun z => a z.symm
    cases c : T.tw l with
    | none => rw [if_pos rfl]; simp
    | some p =>
      rw [if_neg (by intro z; cases z)]
      cases d : T.tw k with
      | none => rw [if_pos rfl]; simp
      | some q =>
        rw [if_neg (by intro z; cases z)]
        by_cases b : (some p : Option Nat) = some k
        · rw [if_pos b]; simp [b]
        · rw [if_neg b]; simp [a', b]
theorem C_changeTwins (h : RcT T t) (hl : l < T.L) (hk : k < T.L) (hc : T.csw l k = true) : ∃ t', f9_changeTwins t (nI l) (nI k) = some t' ∧ RcT (T.swp l k) t' := by
  have hL := h.W.L12
  obtain ⟨h1, h2, p, q, hp, hq⟩ := csw_iff.1 hc
  obtain ⟨c8, c9, -⟩ := sw_ne h.W hl hk h1 h2 hp hq
  unfold f9_changeTwins
  rw [ldO_n _ (by omega) (by omega), ldO_n _ (by omega) (by omega), h.etw hl, h.etw hk, hp, hq, h.eL]
  simp only [Option.bind_some, eT_some]
  rw [if_neg (nI_pos (by omega)), if_neg (nI_ge c8 (by omega)), if_neg (nI_pos (by omega)), if_pos (nI_lt c9 (by omega))]
  rw [stS_n _ _ _ (by omega) (by omega), Option.bind_some, stS_n _ _ _ (by omega) (by omega), Option.bind_some, stS_n _ _ _ (by omega) (by omega), Option.bind_some, stS_n _ _ _ (by omega) (by omega), Option.bind_some]
  simp only [sA_2e, sA_sA]
  refine ⟨_, rfl, h.sTw (swp_W h.W hl hk hc) ?_⟩
  rw [swf_eq hp hq]
  exact upd_eT (upd_eT (upd_eT (upd_eT (fun k hk => h.etw hk) rfl) rfl) rfl) rfl
theorem M_swap (h : RmT T m) (hl : l < T.L) (hk : k < T.L) (hc : T.csw l k = true) : ∃ x, f11_swap m (nI l) (nI k) = some (sA m 9 x) ∧ RmT (T.swp l k) (sA m 9 x) := by
  have hL := h.W.L12
  obtain ⟨h1, h2, p, q, hp, hq⟩ := csw_iff.1 hc
  obtain ⟨c8, c9, -⟩ := sw_ne h.W hl hk h1 h2 hp hq
  unfold f11_swap
  rw [ldO_n _ (by omega) (by omega), ldO_n _ (by omega) (by omega), h.etw hl, h.etw hk, hp, hq]
  simp only [Option.bind_some, eT_some]
  rw [stS_n _ _ _ (by omega) (by omega), Option.bind_some, stS_n _ _ _ (by omega) (by omega), Option.bind_some, stS_n _ _ _ (by omega) (by omega), Option.bind_some, stS_n _ _ _ (by omega) (by omega), Option.bind_some]
  simp only [sA_2e, sA_sA]
  refine ⟨_, rfl, h.sTw (swp_W h.W hl hk hc) ?_⟩
  rw [swf_eq hp hq]
  exact upd_eT (upd_eT (upd_eT (upd_eT (fun k hk => h.etw hk) rfl) rfl) rfl) rfl
theorem C_copyFrom (t t2 : St) : ∃ t', f9_copyFrom t t2 = some t' ∧ ∀ T, RcT T t2 → RcT T t' := by
  refine ⟨_, rfl, fun T h => ⟨h.W, h.eH, h.eL, h.eo, h.eli, h.ebr, fun k hk => ?_, fun k hk => ?_⟩⟩
  · have := h.W.H8
    exact ⟨(pk_cpy_in (Nat.zero_le k) (by omega)).trans (by rw [Nat.zero_add, Nat.sub_zero]; exact h.eki hk), (pk_cpy_in (Nat.zero_le k) (by omega)).trans (by rw [Nat.zero_add, Nat.sub_zero]; exact h.ewa hk), (pk_cpy_in (Nat.zero_le k) (by omega)).trans (by rw [Nat.zero_add, Nat.sub_zero]; exact h.esl hk)⟩
  · have := h.W.L12
    exact ⟨(pk_cpy_in (Nat.zero_le k) (by omega)).trans (by rw [Nat.zero_add, Nat.sub_zero]; exact h.eho hk), (pk_cpy_in (Nat.zero_le k) (by omega)).trans (by rw [Nat.zero_add, Nat.sub_zero]; exact h.eoi hk), (pk_cpy_in (Nat.zero_le k) (by omega)).trans (by rw [Nat.zero_add, Nat.sub_zero]; exact h.etw hk)⟩
theorem pl1_some {h g i j : Nat} (e : T.tw i = some j) : T.pl1 h g i = (decide (T.ho i = h) && decide (T.ho j = g)) := by
  unfold TW.pl1; rw [e]
theorem pl1_none {h g i : Nat} (e : T.tw i = none) : T.pl1 h g i = false := by
  unfold TW.pl1; rw [e, Bool.and_false]
theorem pl_next {x : Int32} {a i : Nat} (h : WfT T) (hi : i < T.L) (hx : Bm T.H (fun g => decide (0 < fb_ct (T.pl1 a g) i)) x) : (∀ j, T.tw i = some j → T.ho i = a → Bm T.H (fun g => decide (0 < fb_ct (T.pl1 a g) (i + 1))) (x ||| ((1 : Int32) <<< (nI (T.ho j) &&& 31)))) ∧ ((∀ j, T.tw i = some j → T.ho i ≠ a) → Bm T.H (fun g => decide (0 < fb_ct (T.pl1 a g) (i + 1))) x) := by
  have hH := h.H8
  constructor
  · intro j e ea
    have hj := (h.twI hi e).1
    refine (hx.or (Bm.one (h.hoH hj) (by omega))).cong fun g hg => ?_
    rw [fb_ct_succ, pl1_some e, decide_eq_true ea, Bool.true_and]
    by_cases z : g = T.ho j
    · rw [decide_eq_true z, Bool.or_true, decide_eq_true z.symm]
      exact (decide_eq_true (by rw [if_pos rfl]; omega)).symm
    · rw [decide_eq_false z, Bool.or_false, decide_eq_false (show ¬ T.ho j = g from fun q => z q.symm)]
      rfl
  · intro z
    refine hx.cong fun g hg => ?_
    have : T.pl1 a g i = false := by
      cases e : T.tw i with
      | none => exact pl1_none e
      | some j => rw [pl1_some e, decide_eq_false (z j e), Bool.false_and]
    rw [fb_ct_succ, this]
    rfl
theorem C_plungedBy (h : RcT T t) {a : Nat} (ha : a < 2147483648) : ∃ x, f9_plungedBy t (nI a) = some x ∧ Bm T.H (T.pl a) x := by
  have hL := h.W.L12
  have hH := h.W.H8
  obtain ⟨x, h1, h2⟩ := lpw_R (F := f9_plungedBy_L1 t (nI a)) (fun i s => s.2 = nI i ∧ Bm T.H (fun g => decide (0 < fb_ct (T.pl1 a g) i)) s.1) (fun x => Bm T.H (T.pl a) x) T.L (s := (0, 0)) (by
    rintro i ⟨x, j⟩ hi ⟨rfl, hx⟩
    dsimp only at hx
    have hho := h.W.hoH hi
    obtain ⟨n1, n2⟩ := pl_next h.W hi hx
    unfold f9_plungedBy_L1
    dsimp only
    rw [h.eL, if_neg (nI_ge hi (by omega)), ldO_n _ (by omega) (by omega), ldO_n _ (by omega) (by omega), h.etw hi, h.eho hi]
    simp (disch := omega) only [Option.bind_some, nI_eq]
    cases e : T.tw i with
    | none =>
      rw [eT_none, if_pos (show (-1 : Int32) < 0 by decide)]
      refine ⟨(x, nI (i + 1)), ?_, rfl, n2 (fun j z => by rw [e] at z; cases z)⟩
      by_cases q : T.ho i = a
      · rw [if_pos q, Option.bind_some, nI_1]
      · rw [if_neg q, Option.bind_some, nI_1]
    | some j =>
      have hj := (h.W.twI hi e).1
      rw [eT_some, if_neg (nI_pos (by omega)), if_neg (nI_ge hj (by omega)), ldO_n _ (by omega) (by omega), h.eho hj]
      by_cases q : T.ho i = a
      · rw [if_pos q, Option.bind_some, Option.bind_some, nI_1]
        exact ⟨_, rfl, rfl, n1 j e q⟩
      · rw [if_neg q, Option.bind_some, nI_1]
        exact ⟨_, rfl, rfl, n2 (fun _ _ => q)⟩) (by
    rintro ⟨x, j⟩ ⟨rfl, hx⟩
    refine ⟨x, ?_, hx⟩
    unfold f9_plungedBy_L1
    dsimp only
    rw [h.eL, if_pos (Int32.le_refl _)]) ⟨rfl, Bm.zero _⟩
  refine ⟨x, ?_, h2⟩
  unfold f9_plungedBy
  rw [h1]
  rfl
theorem M_plunged (h : RmT T m) {a : Nat} (ha : a < 2147483648) : ∃ x, f11_plunged m (nI a) = some x ∧ Bm T.H (T.pl a) x := by
  have hL := h.W.L12
  have hH := h.W.H8
  obtain ⟨x, h1, h2⟩ := lpw_R (F := f11_plunged_L1 m (nI a)) (fun i s => s.2 = nI i ∧ Bm T.H (fun g => decide (0 < fb_ct (T.pl1 a g) i)) s.1) (fun x => Bm T.H (T.pl a) x) T.L (s := (0, 0)) (by
    rintro i ⟨x, j⟩ hi ⟨rfl, hx⟩
    dsimp only at hx
    have hho := h.W.hoH hi
    obtain ⟨n1, n2⟩ := pl_next h.W hi hx
    unfold f11_plunged_L1
    dsimp only
    rw [cl_1, h.eL, if_neg (nI_ge hi (by omega)), ldO_n _ (by omega) (by omega), ldO_n _ (by omega) (by omega), h.etw hi, h.eho hi]
    simp (disch := omega) only [Option.bind_some, nI_eq]
    cases e : T.tw i with
    | none =>
      rw [eT_none, if_pos rfl]
      refine ⟨(x, nI (i + 1)), ?_, rfl, n2 (fun j z => by rw [e] at z; cases z)⟩
      by_cases q : T.ho i = a
      · rw [if_pos q, Option.bind_some, nI_1, or_0]
      · rw [if_neg q, Option.bind_some, nI_1, or_0]
    | some j =>
      have hj := (h.W.twI hi e).1
      rw [if_neg (show ¬ eT (some j) = -1 by rw [eT_m1 (fun q e => by cases e; omega)]; exact fun z => by cases z), eT_some, ldO_n _ (by omega) (by omega), h.eho hj]
      by_cases q : T.ho i = a
      · rw [if_pos q, Option.bind_some, Option.bind_some, nI_1]
        exact ⟨_, rfl, rfl, n1 j e q⟩
      · rw [if_neg q, Option.bind_some, nI_1, or_0]
        exact ⟨_, rfl, rfl, n2 (fun _ _ => q)⟩) (by
    rintro ⟨x, j⟩ ⟨rfl, hx⟩
    refine ⟨x, ?_, hx⟩
    unfold f11_plunged_L1
    dsimp only
    rw [cl_1, h.eL, if_pos (Int32.le_refl _)]) ⟨rfl, Bm.zero _⟩
  refine ⟨x, ?_, h2⟩
  unfold f11_plunged
  rw [h1]
  rfl
/-! what an hour keeps -/
theorem LiO_hr (h : LiO T) : LiO (hrT r T) := by
  intro k hk e
  have e : (lNn r T k && !decide (0 < fb_ct (T.sp1 (lNn r T) k) T.L)) = true := e
  have hk : k < T.L := hk
  show 0 < T.bo (lNn r T) k
  cases q : lNn r T k with
  | false => rw [q] at e; cases e
  | true =>
    rw [q, Bool.true_and, Bool.not_eq_true', decide_eq_false_iff_not] at e
    unfold TW.bo
    rw [if_pos q]
    refine Nat.pos_of_ne_zero fun z => e (fb_ct_pos.2 ⟨k, hk, ?_⟩)
    unfold TW.sp1
    rw [q, decide_eq_true z, cp_self]
    rfl
theorem flN_tw (h : WfT T) (ht : LiT T) (w : Nat → Bool) (o : Nat) : ∀ i, i ≤ T.L → ∀ k j, k < T.L → T.tw k = some j → (T.flN w o i).1 k = (T.flN w o i).1 j := by
  intro i
  induction i with
  | zero => intro _ k j hk e; exact ht k j hk e
  | succ i ih =>
    intro hi k j hk e
    have := ih (by omega) k j hk e
    show (T.fl1 w o (T.flN w o i) i).1 k = (T.fl1 w o (T.flN w o i) i).1 j
    unfold TW.fl1
    by_cases q : (T.al i o && (w i != (T.flN w o i).1 i) && (!w i || T.can i)) = true
    · rw [if_pos q]
      show (if T.cp i k = true then w i else (T.flN w o i).1 k) = (if T.cp i j = true then w i else (T.flN w o i).1 j)
      rw [this, cp_sym h (by omega) hk e]
    · rw [if_neg q]; exact this
theorem LiT_hr (h : WfT T) (ht : LiT T) : LiT (hrT r T) := by
  intro k j hk e
  have hk : k < T.L := hk
  have e : T.tw k = some j := e
  show (lNn r T k && !decide (0 < fb_ct (T.sp1 (lNn r T) k) T.L)) = (lNn r T j && !decide (0 < fb_ct (T.sp1 (lNn r T) j) T.L))
  have h1 : lNn r T k = lNn r T j := flN_tw h ht _ _ _ (Nat.le_refl _) k j hk e
  have h2 : fb_ct (T.sp1 (lNn r T) k) T.L = fb_ct (T.sp1 (lNn r T) j) T.L := fb_ct_cong fun l hl => by
    unfold TW.sp1
    rw [cp_sym h hl hk e]
  rw [h1, h2]
def hrN (r : RU) (T : TW) : Nat → TW
  | 0 => T
  | i + 1 => hrT r (hrN r T i)
theorem hrN_o (i : Nat) : (hrN r T i).o = T.o + i := by
  induction i with
  | zero => rfl
  | succ i ih => show (hrN r T i).o + 1 = _; rw [ih]; omega
theorem hrN_st (i : Nat) : (hrN r T i).H = T.H ∧ (hrN r T i).L = T.L ∧ (hrN r T i).ki = T.ki ∧ (hrN r T i).tw = T.tw ∧ (hrN r T i).wa = T.wa ∧ (hrN r T i).sl = T.sl ∧ (hrN r T i).ho = T.ho ∧ (hrN r T i).br = T.br := by
  induction i with
  | zero => exact ⟨rfl, rfl, rfl, rfl, rfl, rfl, rfl, rfl⟩
  | succ i ih => exact ih
theorem hrN_LiO (h : LiO T) (i : Nat) : LiO (hrN r T i) := by
  induction i with
  | zero => exact h
  | succ i ih => exact LiO_hr ih
theorem hr_W (h : WfT T) (ho : T.o + 1 < 100000) : WfT (hrT r T) := ⟨h.1, h.2.1, ho, h.2.2.2.1, fun k hk => ⟨h.hoH hk, by
    have := h.oi99 hk
    show T.bo (lNn r T) k ≤ 99
    unfold TW.bo
    split <;> omega, fun _ e => h.twI hk e⟩⟩
theorem hrN_W (h : WfT T) (i : Nat) (ho : T.o + i < 100000) : WfT (hrN r T i) := by
  induction i with
  | zero => exact h
  | succ i ih => exact hr_W (ih (by omega)) (by rw [hrN_o]; omega)
theorem hrN_LiT (h : WfT T) (ht : LiT T) (i : Nat) (ho : T.o + i < 100000) : LiT (hrN r T i) := by
  induction i with
  | zero => exact ht
  | succ i ih => exact LiT_hr (hrN_W h i (by omega)) (ih (by omega))
end
