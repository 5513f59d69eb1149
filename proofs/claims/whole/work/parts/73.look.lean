/-! look -/
theorem nth_of {p : Nat → Bool} : ∀ n j, j < fb_ct p n → ∃ k, k < n ∧ p k = true ∧ fb_ct p k = j := by
  intro n
  induction n with
  | zero => intro j hj; exact absurd hj (Nat.not_lt_zero j)
  | succ n ih =>
    intro j hj
    rw [fb_ct_succ] at hj
    by_cases h : j < fb_ct p n
    · obtain ⟨k, h1, h2, h3⟩ := ih j h
      exact ⟨k, by omega, h2, h3⟩
    · cases hp : p n with
      | false => rw [hp, if_neg (by decide)] at hj; omega
      | true => rw [hp, if_pos rfl] at hj; exact ⟨n, by omega, hp, by omega⟩
theorem ctN_lt {p : Nat → Bool} {n k : Nat} (hk : k < n) (hp : p k = true) : fb_ct p k < fb_ct p n := by
  obtain ⟨d, rfl⟩ : ∃ d, n = k + 1 + d := ⟨n - (k + 1), by omega⟩
  rw [fb_ct_split, fb_ct_succ, hp, if_pos rfl]
  omega
section
variable {r : RU} {T : TW} {V : SV} {t e g sv sx m : St}
/-- what is foreseen of every one of the sets -/
def Fse (r : RU) (T : TW) (p : Nat → Bool) (l n : Nat) (W : Nat → Nat → Int32) : Prop := ∀ k, k < n → p k = true → ∀ o, o < 48 → Bm T.L (lNn r (hrN r (T.swp l k) o)) (W (fb_ct p k) o)
theorem Fse.uniq {p : Nat → Bool} {l n : Nat} {W W' : Nat → Nat → Int32} (h : Fse r T p l n W) (h' : Fse r T p l n W') : ∀ j, j < fb_ct p n → ∀ o, o < 48 → W j o = W' j o := fun j hj o ho => by
  obtain ⟨k, h1, h2, h3⟩ := nth_of n j hj
  have a1 := h k h1 h2 o ho
  have a2 := h' k h1 h2 o ho
  rw [h3] at a1 a2
  exact a1.uniq a2
def rX : List Nat := cR
theorem C_foresee (h : RcT T t) (hg : RcR r.1 r.2 g) (hok : okR r.1 r.2) (hli : LiO T) (ho : T.o + 48 < 100000) {l : Nat} (hl : l < T.L) {p : Nat → Bool} (hp : ∀ k, k < T.L → p k = true → T.csw l k = true) {x : Int32} (hx : Bm T.L p x) (sx t2 e : St) : ∃ x' t' e' g', f10_foreseeChanges sx t t2 e g (nI l) x = some (nI (fb_ct p T.L), x', t', e', g') ∧ Fr [] cR sx x' ∧ Fse r T p l T.L (fun j o => x'.2 (100 + j) o) ∧ RcR r.1 r.2 g' := by
  have hL := h.W.L12
  obtain ⟨q, h1, h2, h3, h4, h5⟩ := lpw_R (F := f10_foreseeChanges_L1 t (nI l) x) (fun i s => s.1 = nI (fb_ct p i) ∧ s.2.1 = nI i ∧ Fr [] cR sx s.2.2.1 ∧ Fse r T p l i (fun j o => s.2.2.1.2 (100 + j) o) ∧ RcR r.1 r.2 s.2.2.2.2.2) (fun q => q.1 = nI (fb_ct p T.L) ∧ Fr [] cR sx q.2.1 ∧ Fse r T p l T.L (fun j o => q.2.1.2 (100 + j) o) ∧ RcR r.1 r.2 q.2.2.2.2) T.L (s := (0, 0, sx, t2, e, g)) (by
    rintro i ⟨_, _, s, t2, e, g⟩ hi ⟨rfl, rfl, hf, hF, hg⟩
    dsimp only at hf hF hg
    have hc := fb_ct_le p i
    unfold f10_foreseeChanges_L1
    dsimp only
    rw [h.eL, if_neg (nI_ge hi (by omega)), bs _ (by omega), hx.at hi (by omega)]
    simp only [zB_1]
    cases hpi : p i with
    | false =>
      rw [if_neg (by decide), Option.bind_some, nI_1, fb_ct_succ, hpi, if_neg (by decide)]
      refine ⟨_, rfl, rfl, rfl, hf, fun k hk hpk => ?_, hg⟩
      by_cases ek : k = i
      · rw [ek, hpi] at hpk; cases hpk
      · exact hF k (by omega) hpk
    | true =>
      obtain ⟨t1, a1, a2⟩ := C_copyFrom t2 t
      obtain ⟨t3, b1, b2⟩ := C_changeTwins (a2 T h) hl hi (hp i hi hpi)
      have hcs := hp i hi hpi
      have hli' : LiO (T.swp l i) := fun k hk => hli k hk
      have hj : fb_ct p i < 12 := by omega
      obtain ⟨q, c1, c2, c3, c4, c5⟩ := lpw_R (F := f10_foreseeChanges_L6 (nI (fb_ct p i), nI i, s, t2, e, g)) (fun o v => v.1 = nI o ∧ HcI r (T.swp l i) o v.2.2.1 v.2.2.2.2 ∧ Fr [] cR sx v.2.1 ∧ (∀ j, j ≠ fb_ct p i → v.2.1.2 (100 + j) = s.2 (100 + j)) ∧ ∀ o', o' < o → Bm T.L (lNn r (hrN r (T.swp l i) o')) (v.2.1.2 (100 + fb_ct p i) o')) (fun q => RcR r.1 r.2 q.2.2.2 ∧ Fr [] cR sx q.1 ∧ (∀ j, j ≠ fb_ct p i → q.1.2 (100 + j) = s.2 (100 + j)) ∧ ∀ o', o' < 48 → Bm T.L (lNn r (hrN r (T.swp l i) o')) (q.1.2 (100 + fb_ct p i) o')) 48 (s := (0, s, t3, e, g)) (by
        rintro o ⟨_, s', t', e', g'⟩ ho' ⟨rfl, hI, hf', hk', hB⟩
        dsimp only at hI hf' hk' hB
        obtain ⟨e2, g2, t4, d1, d2, d3, d4, d5⟩ := C_step hli' hok hI (show T.o + o + 1 < 100000 by omega) e'
        unfold f10_foreseeChanges_L6
        dsimp only
        rw [if_neg (show ¬ (48 : Int32) ≤ nI o from nI_ge ho' (by decide)), d1, Option.bind_some, ckO_n hj (by decide), Option.bind_some, stS_n _ _ _ ho' (by decide), Option.bind_some, nI_1]
        refine ⟨_, rfl, rfl, d2, hf'.trans (Fr.sA s' _ _ (cR_in _ hj)), fun j hj => ?_, fun o' ho'' => ?_⟩
        · rw [sA_2n (j := 100 + j) (k := 100 + fb_ct p i) _ _ (by omega)]
          exact hk' j hj
        · rw [sA_2e]
          by_cases eo : o' = o
          · rw [eo, upd_e]; exact d3
          · rw [upd_n _ _ eo]; exact hB o' (by omega)) (by
        rintro ⟨_, s', t', e', g'⟩ ⟨rfl, hI, hf', hk', hB⟩
        exact ⟨_, if_pos (Int32.le_refl _), hI.2, hf', hk', hB⟩) ⟨rfl, HcI.zero b2 hg, hf, fun _ _ => rfl, fun o' ho' => absurd ho' (Nat.not_lt_zero o')⟩
      rw [if_pos rfl, a1, Option.bind_some, b1, Option.bind_some, c1, Option.bind_some, Option.bind_some, nI_1, nI_1, fb_ct_succ, hpi, if_pos rfl]
      refine ⟨_, rfl, rfl, rfl, c3, fun k hk hpk o ho' => ?_, c2⟩
      by_cases ek : k = i
      · subst ek; exact c5 o ho'
      · have hlt := ctN_lt (p := p) (n := i) (k := k) (by omega) hpk
        show Bm T.L _ (q.1.2 (100 + fb_ct p k) o)
        rw [c4 _ (by omega)]
        exact hF k (by omega) hpk o ho') (by
    rintro ⟨_, _, s, t2, e, g⟩ ⟨rfl, rfl, hf, hF, hg⟩
    refine ⟨(nI (fb_ct p T.L), s, t2, e, g), ?_, rfl, hf, hF, hg⟩
    unfold f10_foreseeChanges_L1
    dsimp only
    rw [h.eL, if_pos (Int32.le_refl _)]) ⟨rfl, rfl, Fr.refl _ _ _, fun k hk => absurd hk (Nat.not_lt_zero k), hg⟩
  refine ⟨q.2.1, q.2.2.1, q.2.2.2.1, q.2.2.2.2, ?_, h3, h4, h5⟩
  unfold f10_foreseeChanges
  rw [h1, Option.bind_some, h2]
theorem M_tellSets (h : RmT T m) (hR : RmR r.1 r.2 m) (hok : okR r.1 r.2) (hli : LiO T) (ho : T.o + 48 < 100000) (hV : VOk V T.L) (hv : RmV V (m.1 32) (m.2 43) (m.2 44) (m.2 45)) {l : Nat} (hl : l < T.L) : ∃ m', f11_tellSets m (nI l) = some (nI (fb_ct (fiB r T V l) T.L), m') ∧ RmT T m' ∧ Fr sS1 sA1 m m' ∧ Fse r T (fiB r T V l) l T.L (fun j o => m'.2 47 (48 * j + o)) := by
  have hL := h.W.L12
  obtain ⟨x, m1, a1, a2, a3, a4⟩ := M_whoseNow (V := V) h hR hok hli ho hV hv hl
  obtain ⟨q, h1, h2, h3, h4, h5⟩ := lpw_R (F := f11_tellSets_L2 (nI l) (x, m1)) (fun i s => s.1 = nI (fb_ct (fiB r T V l) i) ∧ s.2.1 = nI i ∧ RmT T s.2.2 ∧ Fr sS1 sA1 m s.2.2 ∧ Fse r T (fiB r T V l) l i (fun j o => s.2.2.2 47 (48 * j + o))) (fun q => q.1 = nI (fb_ct (fiB r T V l) T.L) ∧ RmT T q.2 ∧ Fr sS1 sA1 m q.2 ∧ Fse r T (fiB r T V l) l T.L (fun j o => q.2.2 47 (48 * j + o))) T.L (s := (0, 0, m1)) (by
    rintro i ⟨_, _, q⟩ hi ⟨rfl, rfl, hq, hf, hF⟩
    dsimp only at hq hf hF
    have hc := fb_ct_le (fiB r T V l) i
    unfold f11_tellSets_L2
    dsimp only
    rw [cl_1, hq.eL, if_neg (nI_ge hi (by omega)), M_isOf a2 (by omega) hi, Option.bind_some]
    simp only [ifz]
    cases hpi : fiB r T V l i with
    | false =>
      rw [if_neg (by decide), Option.bind_some, nI_1, fb_ct_succ, hpi, if_neg (by decide)]
      refine ⟨_, rfl, rfl, rfl, hq, hf, fun k hk hpk => ?_⟩
      by_cases ek : k = i
      · rw [ek, hpi] at hpk; cases hpk
      · exact hF k (by omega) hpk
    | true =>
      have hcs : T.csw l i = true := by
        unfold fiB at hpi
        rw [Bool.and_eq_true] at hpi
        exact hpi.1
      have hli' : LiO (T.swp l i) := fun k hk => hli k hk
      obtain ⟨y, b1, b2, b3⟩ := M_swapBack hq hl hi hcs
      have f1 : Fr sS1 sA1 m (sA q 9 y) := hf.trans (Fr.sA q 9 y (by decide))
      obtain ⟨f, p1, p2⟩ := M_pack39 b2
      have p3 : RmT (T.swp l i) (sA (sA q 9 y) 39 f) := b2.fr (Fr.sA (S := []) (A := [39]) _ 39 f (by decide))
      have f2 : Fr sS1 sA1 m (sA (sA q 9 y) 39 f) := f1.trans (Fr.sA _ 39 f (by decide))
      generalize hq0 : sA (sA q 9 y) 39 f = q0 at *
      have hj : fb_ct (fiB r T V l) i < 12 := by omega
      obtain ⟨q1, c1, c2, c3, c4, c5⟩ := lpw_R (F := f11_tellSets_L8 (nI (fb_ct (fiB r T V l) i), nI i, q)) (fun o v => v.1 = nI o ∧ RmT (hrN r (T.swp l i) o) v.2 ∧ Fr [28, 29, 35, 36] [23, 33, 34, 37, 47] q0 v.2 ∧ (∀ j o', j < fb_ct (fiB r T V l) i → o' < 48 → v.2.2 47 (48 * j + o') = q0.2 47 (48 * j + o')) ∧ ∀ o', o' < o → Bm T.L (lNn r (hrN r (T.swp l i) o')) (v.2.2 47 (48 * fb_ct (fiB r T V l) i + o'))) (fun q => RmT (hrN r (T.swp l i) 48) q ∧ Fr [28, 29, 35, 36] [23, 33, 34, 37, 47] q0 q ∧ (∀ j o', j < fb_ct (fiB r T V l) i → o' < 48 → q.2 47 (48 * j + o') = q0.2 47 (48 * j + o')) ∧ ∀ o', o' < 48 → Bm T.L (lNn r (hrN r (T.swp l i) o')) (q.2 47 (48 * fb_ct (fiB r T V l) i + o'))) 48 (s := (0, q0)) (by
        rintro o ⟨_, v⟩ ho' ⟨rfl, hI, hfv, hk', hB⟩
        dsimp only at hI hfv hk' hB
        obtain ⟨q', d1, d2, d3, d4, d5⟩ := M_step hli' hok ((hR.fr f2).fr hfv) (m0 := v) ⟨hI, Fr.refl _ _ _⟩ (show T.o + o + 1 < 100000 by omega)
        unfold f11_tellSets_L8
        dsimp only
        rw [if_neg (show ¬ (48 : Int32) ≤ nI o from nI_ge ho' (by decide)), d1, Option.bind_some, show (48 : Int32) = nI 48 from rfl, pk_mul, nI_add, stS_n _ _ _ (by omega) (by decide), Option.bind_some, nI_1]
        refine ⟨_, rfl, rfl, d2.1.fr (Fr.sA (S := []) (A := [47]) _ 47 _ (by decide)), (hfv.trans (d2.2.mono (by decide) (by decide))).trans (Fr.sA q' 47 _ (by decide)), fun j o' hj' ho'' => ?_, fun o' ho'' => ?_⟩
        · show upd (q'.2 47) (48 * fb_ct (fiB r T V l) i + o) _ (48 * j + o') = _
          rw [upd_n _ _ (by omega), d2.2.2 47 (by decide)]
          exact hk' j o' hj' ho''
        · show Bm T.L _ (upd (q'.2 47) (48 * fb_ct (fiB r T V l) i + o) _ (48 * fb_ct (fiB r T V l) i + o'))
          by_cases eo : o' = o
          · rw [eo, upd_e]; exact d3
          · rw [upd_n _ _ (by omega), d2.2.2 47 (by decide)]; exact hB o' (by omega)) (by
        rintro ⟨_, v⟩ ⟨rfl, hI, hfv, hk', hB⟩
        exact ⟨_, if_pos (Int32.le_refl _), hI, hfv, hk', hB⟩) ⟨rfl, p3, Fr.refl _ _ _, fun _ _ _ _ => rfl, fun o' ho' => absurd ho' (Nat.not_lt_zero o')⟩
      have p2' : PK (T.swp l i) (q1.2 39) 0 := by
        rw [c3.2 39 (by decide), ← hq0, sA_2e]
        exact p2
      obtain ⟨q2, g1, g2, g3⟩ := M_unpack39 c2 (same_hr 48) b2.W p2'
      obtain ⟨q3, u1, u2, u3, u4⟩ := b3 q2 g3 (by
        have z1 : Fr sS1 sA1 (sA q 9 y) q0 := by rw [← hq0]; exact Fr.sA _ 39 f (by decide)
        exact (z1.trans (c3.mono (by decide) (by decide))).trans (g2.mono (by decide) (by decide)))
      have e47 : q3.2 47 = q1.2 47 := (u4.2 47 (by decide)).trans (g2.2 47 (by decide))
      have e47' : q0.2 47 = q.2 47 := by rw [← hq0]; rfl
      rw [if_pos rfl, b1, Option.bind_some, p1, Option.bind_some, c1, Option.bind_some, g1, Option.bind_some, u1, Option.bind_some, Option.bind_some, nI_1, nI_1, fb_ct_succ, hpi, if_pos rfl]
      refine ⟨_, rfl, rfl, rfl, u2, hf.trans u3, fun k hk hpk o ho' => ?_⟩
      show Bm T.L _ (q3.2 47 (48 * fb_ct (fiB r T V l) k + o))
      rw [e47]
      by_cases ek : k = i
      · subst ek; exact c5 o ho'
      · have hlt := ctN_lt (p := fiB r T V l) (n := i) (k := k) (by omega) hpk
        rw [c4 _ _ hlt ho', e47']
        exact hF k (by omega) hpk o ho') (by
    rintro ⟨_, _, q⟩ ⟨rfl, rfl, hq, hf, hF⟩
    refine ⟨(nI (fb_ct (fiB r T V l) T.L), q), ?_, rfl, hq, hf, hF⟩
    unfold f11_tellSets_L2
    dsimp only
    rw [cl_1, hq.eL, if_pos (Int32.le_refl _)]) ⟨rfl, rfl, a3, a4, fun k hk => absurd hk (Nat.not_lt_zero k)⟩
  refine ⟨q.2, ?_, h3, h4, h5⟩
  unfold f11_tellSets
  rw [a1, Option.bind_some, h1, Option.bind_some, h2]
/-- how many unlike ones there are at an hour -/
def unB (W : Nat → Nat → Int32) (o i : Nat) : Bool := decide (fb_ct (fun j => decide (W j o = W i o)) i = 0)
def unN (W : Nat → Nat → Int32) (n o : Nat) : Nat := fb_ct (unB W o) n
theorem C_unlike {n o : Nat} (hn : n ≤ 12) (ho : o < 48) {W : Nat → Nat → Int32} {s : St} (hW : ∀ j, j < n → s.2 (100 + j) o = W j o) : f10_unlikeSets s (nI n) (nI o) = some (nI (unN W n o)) := by
  have e : lpw (f10_unlikeSets_L1 s (nI n) (nI o)) (nI (fb_ct (unB W o) 0), nI 0) = some (nI (unN W n o)) := by
    refine lpw_S (fun i => (nI (fb_ct (unB W o) i), nI i)) n (fun i hi => ?_) ?_
    · have e2 : lpw (f10_unlikeSets_L3 s (nI o) (nI (fb_ct (unB W o) i), nI i)) (nI (fb_ct (fun j => decide (W j o = W i o)) 0), nI 0) = some (nI (fb_ct (fun j => decide (W j o = W i o)) i)) := by
        refine lpw_S (fun j => (nI (fb_ct (fun j => decide (W j o = W i o)) j), nI j)) i (fun j hj => ?_) ?_
        · unfold f10_unlikeSets_L3
          dsimp only
          rw [if_neg (nI_ge hj (by omega)), ckO_n (by omega) (by decide), Option.bind_some, ldO_n _ ho (by decide), hW j (by omega), Option.bind_some, ckO_n (by omega) (by decide), Option.bind_some, ldO_n _ ho (by decide), hW i hi, Option.bind_some, nI_1, fb_ct_succ]
          by_cases z : W j o = W i o
          · rw [if_pos z, Option.bind_some, decide_eq_true z, if_pos rfl, nI_1]
          · rw [if_neg z, Option.bind_some, decide_eq_false z, if_neg (by decide), nI_1]
            rfl
        · unfold f10_unlikeSets_L3
          dsimp only
          rw [if_pos (Int32.le_refl _)]
      have hc := fb_ct_le (fun j => decide (W j o = W i o)) i
      unfold f10_unlikeSets_L1
      dsimp only
      rw [if_neg (nI_ge hi (by omega)), show ((0 : Int32), (0 : Int32)) = (nI (fb_ct (fun j => decide (W j o = W i o)) 0), nI 0) from rfl, e2, Option.bind_some, nI_1, fb_ct_succ]
      unfold unB
      by_cases z : fb_ct (fun j => decide (W j o = W i o)) i = 0
      · rw [if_pos (by rw [z]; rfl), Option.bind_some, decide_eq_true z, if_pos rfl, nI_1]
      · rw [if_neg (show ¬ nI _ = 0 from nI_ne0 (Nat.pos_of_ne_zero z) (by omega)), Option.bind_some, decide_eq_false z, if_neg (by decide), nI_1]
        rfl
    · unfold f10_unlikeSets_L1
      dsimp only
      rw [if_pos (Int32.le_refl _)]
      rfl
  unfold f10_unlikeSets
  rw [show ((0 : Int32), (0 : Int32)) = (nI (fb_ct (unB W o) 0), nI 0) from rfl, e, Option.bind_some]
theorem M_unlike {n o : Nat} (hn : n ≤ 12) (ho : o < 48) {W : Nat → Nat → Int32} {s : St} (hW : ∀ j, j < n → s.2 47 (48 * j + o) = W j o) : f11_unlike s (nI n) (nI o) = some (nI (unN W n o)) := by
  have e : lpw (f11_unlike_L1 s (nI n) (nI o)) (nI (fb_ct (unB W o) 0), nI 0) = some (nI (unN W n o)) := by
    refine lpw_S (fun i => (nI (fb_ct (unB W o) i), nI i)) n (fun i hi => ?_) ?_
    · obtain ⟨b, e2, e3⟩ := lpw_E (F := f11_unlike_L3 s (nI o) (nI (fb_ct (unB W o) i), nI i)) (fun j v => v.2 = nI j ∧ v.1 = decide (fb_ct (fun j => decide (W j o = W i o)) j = 0)) (fun b => b = unB W o i) i (fun j v hj hI => by
        obtain ⟨_, _⟩ := v
        obtain ⟨rfl, rfl⟩ := hI
        unfold f11_unlike_L3
        dsimp only
        rw [if_neg (nI_ge hj (by omega))]
        by_cases z : fb_ct (fun j => decide (W j o = W i o)) j = 0
        · left
          rw [decide_eq_true z, if_neg (by decide), show (48 : Int32) = nI 48 from rfl, pk_mul, nI_add, ldO_n _ (by omega) (by decide), hW j (by omega), Option.bind_some, pk_mul, nI_add, ldO_n _ (by omega) (by decide), hW i hi, Option.bind_some, nI_1, ifdn, Option.bind_some]
          refine ⟨_, rfl, rfl, ?_⟩
          dsimp only
          rw [fb_ct_succ, z]
          by_cases y : W j o = W i o
          · rw [decide_eq_true y, if_pos rfl]; rfl
          · rw [decide_eq_false y, if_neg (by decide)]; rfl
        · right
          rw [decide_eq_false z, if_pos zB_f]
          refine ⟨_, rfl, ?_⟩
          unfold unB
          obtain ⟨d, hd⟩ : ∃ d, i = j + d := ⟨i - j, by omega⟩
          have hs := fb_ct_split (fun j => decide (W j o = W i o)) j d
          rw [decide_eq_false]
          intro y
          rw [hd] at y hs z
          omega) (fun v hI => by
        obtain ⟨_, _⟩ := v
        obtain ⟨rfl, rfl⟩ := hI
        refine ⟨_, ?_, rfl⟩
        unfold f11_unlike_L3
        dsimp only
        rw [if_pos (Int32.le_refl _)]
        rfl) (Nat.zero_le _) (s := (true, 0)) ⟨rfl, rfl⟩
      unfold f11_unlike_L1
      dsimp only
      rw [if_neg (nI_ge hi (by omega)), e2, Option.bind_some, e3]
      simp only [ifz, ifb, Option.bind_some]
      rw [nI_1, zB_nI, nI_add, fb_ct_succ]
    · unfold f11_unlike_L1
      dsimp only
      rw [if_pos (Int32.le_refl _)]
      rfl
  unfold f11_unlike
  rw [show ((0 : Int32), (0 : Int32)) = (nI (fb_ct (unB W o) 0), nI 0) from rfl, e, Option.bind_some]
def e1T : Option Nat → Int32
  | none => -1
  | some k => nI (k + 1)
theorem Q_look (h : RcT T t) (h' : RmT T m) (hg : RcR r.1 r.2 g) (hR : RmR r.1 r.2 m) (hok : okR r.1 r.2) (hli : LiO T) (ho : T.o + 48 < 100000) (hv : RcV V T.L sv) (hv' : RmV V (m.1 32) (m.2 43) (m.2 44) (m.2 45)) (sx t2 e : St) (y1 y2 : Int32) : Agr (f10_look sx t t2 e g sv y1 y2) kfN (f11_look m y1 y2) (sx, t2, e, g) (fun s m' => QP r T m s.2.2.2 m' ∧ Fr [] cR sx s.1) := by
  have hL := h.W.L12
  rcases lampCase h h'.s2 sx y1 with ⟨e1, e2⟩ | ⟨l, hl, rfl, e1, e2⟩
  · refine AgrX (m := m) 1 (by unfold f10_look; rw [e1, xB_o]) ?_ ⟨⟨hg, h'.s2k _, fr2k m _⟩, Fr.refl _ _ _⟩
    unfold f11_look
    rw [Option.bind_some, e2, Option.bind_some, if_pos zB_f]
    rfl
  rcases manyCase y2 with ⟨e5, e6⟩ | ⟨e5, e6, e7, e8⟩
  · refine AgrX (m := m) 1 (by unfold f10_look; rw [e1, xB_i, e5, xB_o]) ?_ ⟨⟨hg, h'.s2k _, fr2k m _⟩, Fr.refl _ _ _⟩
    unfold f11_look
    rw [Option.bind_some, e2, Option.bind_some, if_neg (by decide)]
    rcases e6 with e6 | ⟨e6, e7⟩
    · rw [if_pos e6]; rfl
    · rw [if_neg e6, if_neg e7]; rfl
  obtain ⟨m1, a1, a2, a3, a4⟩ := M_tellSets (V := V) h'.s2 hR.s2 hok hli ho hv.ok hv' hl
  obtain ⟨x, t3, e3, g3, b1, b2, b3⟩ := C_changes (V := V) h hg hok hli ho hv hl sx t2 e
  obtain ⟨x4, t4, e4, g4, c1, c2, c3, c4⟩ := C_foresee (p := fiB r T V l) h b3 hok hli ho hl (fun k _ hp => by
    unfold fiB at hp
    rw [Bool.and_eq_true] at hp
    exact hp.1) b2 sx t3 e3
  have hn := fb_ct_le (fiB r T V l) T.L
  have hu := c3.uniq a4
  have hCu : ∀ o, o < 48 → f10_unlikeSets x4 (nI (fb_ct (fiB r T V l) T.L)) (nI o) = some (nI (unN (fun j o => m1.2 47 (48 * j + o)) (fb_ct (fiB r T V l) T.L) o)) := fun o ho' => C_unlike (by omega) ho' fun j hj => hu j hj o ho'
  have hMu : ∀ o, o < 48 → f11_unlike m1 (nI (fb_ct (fiB r T V l) T.L)) (nI o) = some (nI (unN (fun j o => m1.2 47 (48 * j + o)) (fb_ct (fiB r T V l) T.L) o)) := fun o ho' => M_unlike (by omega) ho' fun j hj => rfl
  have hB : ∀ o, unN (fun j o => m1.2 47 (48 * j + o)) (fb_ct (fiB r T V l) T.L) o ≤ 12 := fun o => by
    have := fb_ct_le (unB (fun j o => m1.2 47 (48 * j + o)) o) (fb_ct (fiB r T V l) T.L)
    unfold unN
    omega
  generalize hN : fb_ct (fiB r T V l) T.L = N at *
  generalize hU : unN (fun j o => m1.2 47 (48 * j + o)) N = U at *
  obtain ⟨A, hA, hA0, hA1⟩ := amX_ex U
  have hA2 : ∀ i, (A i).2 ≤ 12 := fun i => by rw [hA]; exact amX_le _ hB i
  have hA01 : (A 0).1 = none := by rw [hA0]
  have hA02 : (A 0).2 = 0 := by rw [hA0]
  have eC : ∃ z : Int32 × Int32, lpw (f10_look_L5 (nI N, x4, t4, e4, g4)) (-1, 0, 0) = some z ∧ z = (e1T (A 48).1, nI (A 48).2) := by
    refine lpw_R (fun i s => s.1 = e1T (A i).1 ∧ s.2.1 = nI (A i).2 ∧ s.2.2 = nI i) _ 48 ?_ ?_ ⟨by rw [hA01]; rfl, by rw [hA02]; rfl, rfl⟩
    · rintro i ⟨b, v, j⟩ hi ⟨rfl, rfl, rfl⟩
      have z1 := hB i
      have z2 := hA2 i
      unfold f10_look_L5
      dsimp only
      rw [if_neg (show ¬ (48 : Int32) ≤ nI i from nI_ge hi (by decide)), hCu i hi, Option.bind_some]
      simp (disch := omega) only [nI_leI]
      by_cases z : (A i).2 < U i
      · rw [if_neg (by omega), Option.bind_some, nI_1, (hA1 i).trans (if_pos z)]
        exact ⟨_, rfl, rfl, rfl, rfl⟩
      · rw [if_pos (by omega), Option.bind_some, nI_1, (hA1 i).trans (if_neg z)]
        exact ⟨_, rfl, rfl, rfl, rfl⟩
    · rintro ⟨b, v, j⟩ ⟨rfl, rfl, rfl⟩
      exact ⟨_, if_pos (Int32.le_refl _), rfl⟩
  have eM : ∃ z : Int32 × Int32, lpw (f11_look_L6 (nI N, m1)) (-1, 0, 0) = some z ∧ z = (e1T (A 48).1, nI (A 48).2) := by
    refine lpw_R (fun i s => s.1 = e1T (A i).1 ∧ s.2.1 = nI (A i).2 ∧ s.2.2 = nI i) _ 48 ?_ ?_ ⟨by rw [hA01]; rfl, by rw [hA02]; rfl, rfl⟩
    · rintro i ⟨b, v, j⟩ hi ⟨rfl, rfl, rfl⟩
      have z1 := hB i
      have z2 := hA2 i
      unfold f11_look_L6
      dsimp only
      rw [if_neg (show ¬ (48 : Int32) ≤ nI i from nI_ge hi (by decide)), hMu i hi, Option.bind_some]
      by_cases z : (A i).2 < U i
      · rw [if_pos (nI_lt z (by omega)), Option.bind_some, nI_1, (hA1 i).trans (if_pos z)]
        exact ⟨_, rfl, rfl, rfl, rfl⟩
      · rw [if_neg (nI_nlt (by omega) (by omega)), Option.bind_some, nI_1, (hA1 i).trans (if_neg z)]
        exact ⟨_, rfl, rfl, rfl, rfl⟩
    · rintro ⟨b, v, j⟩ ⟨rfl, rfl, rfl⟩
      exact ⟨_, if_pos (Int32.le_refl _), rfl⟩
  obtain ⟨zC, eC, rfl⟩ := eC
  obtain ⟨zM, eM, rfl⟩ := eM
  have hf : Fr sS1 sA1 (sS m 2 0) m1 := a3
  have hm : f11_look m (nI l) y2 = some (if y2 = 0 then e1T (A 48).1 else nI (A 48).2, m1) := by
    unfold f11_look
    rw [Option.bind_some, e2, Option.bind_some, if_neg (by decide), if_neg e6, if_pos e7, a1, Option.bind_some, eM, Option.bind_some]
    by_cases z : y2 = 0
    · rw [if_pos z, if_pos z]
    · rw [if_neg z, if_neg z]
  refine ⟨_, m1, hm, .inl ⟨(x4, t4, e4, g4), ?_, z2 hf, ⟨c4, a2, fr2' hf⟩, c2⟩⟩
  unfold f10_look
  rw [e1, xB_i, e5, xB_i, b1, Option.bind_some]
  dsimp only
  rw [c1, Option.bind_some, eC, Option.bind_some]
  by_cases z : y2 = 0
  · rw [if_pos z, if_pos z, wI_s]
  · rw [if_neg z, if_neg z, wI_s]
end
