/-! better: both answers -/
theorem ntz_d : ∀ u, u < 64 → ∀ v, v < 64 → (64 * u + v) ≠ 0 → fJ6_numberOfTrailingZeros (nI (64 * u + v)) = some (nI (lwN (64 * u + v))) := by decide +kernel
theorem ntz_n {s : Nat} (hs : s < 4096) (h : s ≠ 0) : fJ6_numberOfTrailingZeros (nI s) = some (nI (lwN s)) := by
  have := ntz_d (s / 64) (by omega) (s % 64) (by omega)
  rw [show 64 * (s / 64) + s % 64 = s by omega] at this
  exact this h
theorem tst {s k : Nat} (hs : s < 4096) (hk : k < 32) : (nI s >>> (nI k &&& 31)) &&& 1 = zB (s.testBit k) := by
  rw [bs _ hk, bt_nI _ _ (by omega)]
theorem isOf_n {s k : Nat} (hs : s < 4096) (hk : k < 32) : f11_isOf (nI s) (nI k) = some (s.testBit k) := by
  unfold f11_isOf
  rw [tst hs hk, ifd]
  simp only [zB_1]
  cases s.testBit k <;> rfl
theorem lowest_n {s : Nat} (hs : s < 4096) (h : s ≠ 0) : f11_lowest (nI s) = some (nI (lwN s)) := by
  obtain ⟨h1, h2, h3⟩ := lw_ok hs h
  obtain ⟨q, g1, g2⟩ := lpw_R (F := f11_lowest_L1 (nI s)) (fun i x => x = nI i) (fun q => q = nI (lwN s)) (lwN s) (s := 0) (by
    rintro i _ hi rfl
    unfold f11_lowest_L1
    rw [isOf_n hs (by omega), h3 i hi, Option.bind_some, if_pos zB_f, nI_1]
    exact ⟨_, rfl, rfl⟩) (by
    rintro _ rfl
    unfold f11_lowest_L1
    rw [isOf_n hs (by omega), h2, Option.bind_some, if_neg (by decide)]
    exact ⟨_, rfl, rfl⟩) rfl
  unfold f11_lowest
  rw [g1, g2]
  rfl
section
variable {r : RU} {T : TW} {st sg m s4 : St}
/-- the lamps that are cast anew -/
def caB (T : TW) (l : Nat) : Bool := (T.tw l).isSome && T.snd l
theorem ca_ex (h : WfT T) : ∃ A, A < 2 ^ T.L ∧ (∀ i, A.testBit i = (decide (i < T.L) && caB T i)) ∧ pcN A % 2 = 0 ∧ ∀ x, Bm T.L (caB T) x → x = nI A := by
  have hL := h.L12
  have hx : ∃ x, Bm T.L (caB T) x := by
    have : ∀ n, n ≤ 32 → ∃ x, Bm n (caB T) x := by
      intro n
      induction n with
      | zero => intro _; exact ⟨0, Bm.zero0 _⟩
      | succ n ih =>
        intro hn
        obtain ⟨x, hx⟩ := ih (by omega)
        exact ⟨_, hx.next (by omega)⟩
    exact this T.L (by omega)
  obtain ⟨x, hx⟩ := hx
  obtain ⟨A, h1, h2, h3⟩ := hx.num (by omega)
  refine ⟨A, h1, h3, ?_, fun y hy => (hy.uniq hx).trans h2⟩
  have e : pcN A = fb_ct (caB T) T.L := fb_ct_Bm (by omega) h3
  rw [e]
  refine inv_even h _ (caB T) (fun k hk hp => ?_) rfl
  unfold caB at hp
  rw [Bool.and_eq_true] at hp
  obtain ⟨j, hj⟩ := Option.isSome_iff_exists.1 hp.1
  obtain ⟨i1, i2, i3⟩ := h.twI hk hj
  refine ⟨j, hj, ?_⟩
  have h4 := hp.2
  unfold TW.snd at h4
  rw [hj] at h4
  have h4 : T.br k = false ∧ T.br j = false := by simpa using h4
  unfold caB TW.snd
  rw [i3]
  simp [h4.1, h4.2]
theorem M_castAnew (h : RmT T m) (hR : RmR r.1 r.2 m) (hok : okR r.1 r.2) {A : Nat} (hA : A < 2 ^ T.L) (hAb : ∀ i, A.testBit i = (decide (i < T.L) && caB T i)) (hAe : pcN A % 2 = 0) (hAx : ∀ x, Bm T.L (caB T) x → x = nI A) : ∃ m', f11_castAnew m = some (nI (dpD (sfN r T) T.L A), m') ∧ Fr [] [33, 34, 40, 41, 42] m m' ∧ ∀ l, l < T.L → m'.2 42 l = eT (csT (sfN r T) T.L A 6 l) := by
  have hL := h.W.L12
  have hc : ∀ a b, sfN r T a b ≤ 24 := fun a b => sfN_24 a b
  have hA2 : A < 4096 := Nat.lt_of_lt_of_le hA (Nat.pow_le_pow_right (by decide) hL : 2 ^ T.L ≤ 2 ^ 12)
  obtain ⟨q1, h1, h2, h3, h4, h5⟩ := lpw_R (F := f11_castAnew_L1) (fun i s => s.2.1 = nI i ∧ Bm i (caB T) s.1 ∧ Fr [] [33, 34, 40, 42] m s.2.2 ∧ (∀ l, l < i → s.2.2.2 42 l = -1) ∧ ∀ a b, a < i → b < T.L → s.2.2.2 40 (12 * a + b) = nI (sfN r T a b)) (fun q => Bm T.L (caB T) q.1 ∧ Fr [] [33, 34, 40, 42] m q.2 ∧ (∀ l, l < T.L → q.2.2 42 l = -1) ∧ ∀ a b, a < T.L → b < T.L → q.2.2 40 (12 * a + b) = nI (sfN r T a b)) T.L (s := (0, 0, m)) (by
    rintro i ⟨x, _, q⟩ hi ⟨rfl, hx, hf, h42, h40⟩
    dsimp only at hx hf h42 h40
    have hq := h.fr hf
    have hf1 : Fr [] [33, 34, 40, 42] m (sA q 42 (upd (q.2 42) i (-1))) := hf.trans (Fr.sA q 42 _ (by decide))
    have hq1 := h.fr hf1
    obtain ⟨y, hy, hyb⟩ := M_couple hq1 hi
    obtain ⟨p, k1, k2, k3, k4, k5⟩ := lpw_R (F := f11_castAnew_L7 (x, nI i, q)) (fun j s => s.1 = nI j ∧ Fr [] [33, 34, 40, 42] m s.2 ∧ (∀ l, l < i + 1 → s.2.2 42 l = -1) ∧ (∀ a b, a < i → b < T.L → s.2.2 40 (12 * a + b) = nI (sfN r T a b)) ∧ ∀ b, b < j → s.2.2 40 (12 * i + b) = nI (sfN r T i b)) (fun p => Fr [] [33, 34, 40, 42] m p ∧ (∀ l, l < i + 1 → p.2 42 l = -1) ∧ (∀ a b, a < i → b < T.L → p.2 40 (12 * a + b) = nI (sfN r T a b)) ∧ ∀ b, b < T.L → p.2 40 (12 * i + b) = nI (sfN r T i b)) T.L (s := (0, sA q 42 (upd (q.2 42) i (-1)))) (by
      rintro j ⟨_, p⟩ hj ⟨rfl, hf, g42, g40, gj⟩
      dsimp only at hf g42 g40 gj
      obtain ⟨p2, w1, w2⟩ := M_strifeOf (h.fr hf) (hR.fr hf) hok hi hj
      unfold f11_castAnew_L7
      dsimp only
      rw [cl_1, (h.fr hf).eL, if_neg (nI_ge hj (by omega)), w1, Option.bind_some]
      dsimp only
      rw [show (12 : Int32) = nI 12 from rfl, pk_mul, nI_add, stS_n _ _ _ (by omega) (by omega), Option.bind_some, nI_1]
      refine ⟨_, rfl, rfl, (hf.trans (w2.mono (by decide) (by decide))).trans (Fr.sA p2 40 _ (by decide)), fun l hl => ?_, fun a b ha hb => ?_, fun b hb => ?_⟩
      · show p2.2 42 l = _
        rw [w2.2 42 (by decide)]; exact g42 l hl
      · show upd (p2.2 40) (12 * i + j) _ (12 * a + b) = _
        rw [upd_n _ _ (by omega), w2.2 40 (by decide)]; exact g40 a b ha hb
      · show upd (p2.2 40) (12 * i + j) _ (12 * i + b) = _
        by_cases e : b = j
        · rw [e, upd_e]
        · rw [upd_n _ _ (by omega), w2.2 40 (by decide)]; exact gj b (by omega)) (by
      rintro ⟨_, p⟩ ⟨rfl, hf, g42, g40, gj⟩
      refine ⟨p, ?_, hf, g42, g40, gj⟩
      unfold f11_castAnew_L7
      dsimp only
      rw [cl_1, (h.fr hf).eL, if_pos (Int32.le_refl _)]) ⟨rfl, hf1, fun l hl => by
      show upd (q.2 42) i (-1) l = -1
      by_cases e : l = i
      · rw [e, upd_e]
      · rw [upd_n _ _ e]; exact h42 l (by omega), h40, fun b hb => absurd hb (Nat.not_lt_zero b)⟩
    unfold f11_castAnew_L1
    dsimp only
    rw [cl_1, hq.eL, if_neg (nI_ge hi (by omega)), stS_n _ _ _ (by omega) (by omega), Option.bind_some, ldO_n _ (by omega) (by omega), hq1.etw hi, Option.bind_some, hy]
    simp only [eT_m1 (tw_B h.W hi), Option.bind_some, br_cp hq1.W hi hq1.ebr hyb]
    have ec : (if T.tw i = none then some 0 else if T.snd i = true then some ((1 : Int32) <<< (nI i &&& 31)) else some 0 : Option Int32) = some (if caB T i = true then ((1 : Int32) <<< (nI i &&& 31)) else 0) := by
      unfold caB
      cases e : T.tw i with
      | none => rfl
      | some j => cases T.snd i <;> rfl
    rw [ec, Option.bind_some, k1, Option.bind_some, nI_1]
    refine ⟨_, rfl, rfl, hx.next2 (by omega), k2, k3, fun a b ha hb => ?_⟩
    by_cases e : a = i
    · rw [e]; exact k5 b hb
    · exact k4 a b (by omega) hb) (by
    rintro ⟨x, _, q⟩ ⟨rfl, hx, hf, h42, h40⟩
    refine ⟨(x, q), ?_, hx, hf, h42, h40⟩
    unfold f11_castAnew_L1
    dsimp only
    rw [cl_1, (h.fr hf).eL, if_pos (Int32.le_refl _)]) ⟨rfl, Bm.zero0 _, Fr.refl _ _ _, fun l hl => absurd hl (Nat.not_lt_zero l), fun a b ha => absurd ha (Nat.not_lt_zero a)⟩
  have eA : q1.1 = nI A := hAx _ h2
  have hf1 : Fr [] [33, 34, 40, 41, 42] m (sA q1.2 41 (upd (q1.2.2 41) 0 0)) := (h3.mono (by decide) (by decide)).trans (Fr.sA q1.2 41 _ (by decide))
  obtain ⟨q2, k1, k2, k3, k4, k5⟩ := lpw_R (F := f11_castAnew_L12 q1) (fun i s => s.1 = nI (i + 1) ∧ Fr [] [33, 34, 40, 41, 42] m s.2 ∧ (∀ l, l < T.L → s.2.2 42 l = -1) ∧ (∀ a b, a < T.L → b < T.L → s.2.2 40 (12 * a + b) = nI (sfN r T a b)) ∧ ∀ s', s' < i + 1 → s.2.2 41 s' = nI (dpD (sfN r T) T.L s')) (fun q => Fr [] [33, 34, 40, 41, 42] m q ∧ (∀ l, l < T.L → q.2 42 l = -1) ∧ (∀ a b, a < T.L → b < T.L → q.2 40 (12 * a + b) = nI (sfN r T a b)) ∧ ∀ s', s' < A + 1 → q.2 41 s' = nI (dpD (sfN r T) T.L s')) A (s := (1, sA q1.2 41 (upd (q1.2.2 41) 0 0))) (by
    rintro i ⟨_, q⟩ hi ⟨rfl, hf, g42, g40, g41⟩
    dsimp only at hf g42 g40 g41
    have hs2 : i + 1 < 4096 := by omega
    have hsL : i + 1 < 2 ^ T.L := by omega
    obtain ⟨l1, l2, l3⟩ := lw_ok hs2 (show i + 1 ≠ 0 by omega)
    have hbig : ∀ j, T.L ≤ j → (i + 1).testBit j = false := fun j hj => Nat.testBit_lt_two_pow (Nat.lt_of_lt_of_le hsL (Nat.pow_le_pow_right (by decide) hj))
    have hlL : lwN (i + 1) < T.L := Nat.lt_of_not_le fun z => by rw [hbig _ z] at l2; cases l2
    obtain ⟨p, w1, w2, w3, w4, w5⟩ := lpw_R (F := f11_castAnew_L16 (nI (lwN (i + 1))) (nI (i + 1), q)) (fun d s => s.1 = nI (lwN (i + 1) + 1 + d) ∧ Fr [] [33, 34, 40, 41, 42] m s.2 ∧ (∀ l, l < T.L → s.2.2 42 l = -1) ∧ (∀ a b, a < T.L → b < T.L → s.2.2 40 (12 * a + b) = nI (sfN r T a b)) ∧ (∀ s', s' < i + 1 → s.2.2 41 s' = nI (dpD (sfN r T) T.L s')) ∧ s.2.2 41 (i + 1) = nI (mnF (sfN r T) (dpD (sfN r T) T.L) 100000 (i + 1) (lwN (i + 1)) (lwN (i + 1) + 1 + d))) (fun p => Fr [] [33, 34, 40, 41, 42] m p ∧ (∀ l, l < T.L → p.2 42 l = -1) ∧ (∀ a b, a < T.L → b < T.L → p.2 40 (12 * a + b) = nI (sfN r T a b)) ∧ ∀ s', s' < i + 1 + 1 → p.2 41 s' = nI (dpD (sfN r T) T.L s')) (T.L - (lwN (i + 1) + 1)) (s := (nI (lwN (i + 1)) + 1, sA q 41 (upd (q.2 41) (i + 1) 100000))) (by
      rintro d ⟨_, p⟩ hd ⟨rfl, hf, g42, g40, g41, gs⟩
      dsimp only at hf g42 g40 g41 gs
      generalize hb : lwN (i + 1) + 1 + d = b at *
      have hbL : b < T.L := by omega
      have nxt := mnF_s (c := sfN r T) (D := dpD (sfN r T) T.L) (X := 100000) (s := i + 1) (a := lwN (i + 1)) b
      have hX := mnF_le_X (c := sfN r T) (D := dpD (sfN r T) T.L) (X := 100000) (s := i + 1) (a := lwN (i + 1)) b
      unfold f11_castAnew_L16
      dsimp only
      rw [cl_1, (h.fr hf).eL, if_neg (nI_ge hbL (by omega)), isOf_n hs2 (by omega), Option.bind_some]
      simp only [ifz]
      rw [show lwN (i + 1) + 1 + (d + 1) = b + 1 by omega, nxt]
      cases w : (i + 1).testBit b with
      | false =>
        rw [if_neg (by decide), Option.bind_some, nI_1, if_neg (fun z => by cases z.2)]
        exact ⟨_, rfl, rfl, hf, g42, g40, g41, gs⟩
      | true =>
        have hrl := rm_lt (b := b) hs2 l2
        have hd1 := dpD_le (c := sfN r T) (L := T.L) (show rmB (i + 1) (lwN (i + 1)) b < 4096 by omega)
        have hc1 := hc (lwN (i + 1)) b
        rw [if_pos rfl, ldO_n _ (by omega) (by omega), gs, Option.bind_some, show (12 : Int32) = nI 12 from rfl, pk_mul, nI_add, ldO_n _ (by omega) (by omega), g40 _ _ hlL hbL, Option.bind_some, rm_e hs2 (by omega) (by omega), ldO_n _ (by omega) (by omega), g41 _ hrl, Option.bind_some, nI_add, jmin_n (by omega) (by omega), stS_n _ _ _ (by omega) (by omega), Option.bind_some, Option.bind_some, nI_1, if_pos ⟨by omega, rfl⟩]
        refine ⟨_, rfl, rfl, hf.trans (Fr.sA p 41 _ (by decide)), g42, g40, fun s' hs' => ?_, ?_⟩
        · show upd (p.2 41) (i + 1) _ s' = _
          rw [upd_n _ _ (by omega)]; exact g41 s' hs'
        · show upd (p.2 41) (i + 1) _ (i + 1) = _
          rw [upd_e]) (by
      rintro ⟨_, p⟩ ⟨rfl, hf, g42, g40, g41, gs⟩
      dsimp only at hf g42 g40 g41 gs
      have e : lwN (i + 1) + 1 + (T.L - (lwN (i + 1) + 1)) = T.L := by omega
      rw [e] at gs ⊢
      refine ⟨p, ?_, hf, g42, g40, fun s' hs' => ?_⟩
      · unfold f11_castAnew_L16
        dsimp only
        rw [cl_1, (h.fr hf).eL, if_pos (Int32.le_refl _)]
      · by_cases z : s' = i + 1
        · rw [z, gs, dpD_s hs2 (by omega)]
        · exact g41 s' (by omega)) ⟨by rw [nI_1], hf.trans (Fr.sA q 41 _ (by decide)), g42, g40, fun s' hs' => by
      show upd (q.2 41) (i + 1) _ s' = _
      rw [upd_n _ _ (by omega)]; exact g41 s' hs', by
      show upd (q.2 41) (i + 1) 100000 (i + 1) = _
      rw [upd_e, mnF_start _ (Nat.le_refl _)]
      rfl⟩
    unfold f11_castAnew_L12
    dsimp only
    rw [eA, if_neg (nI_nlt (a := A) (b := i + 1) (by omega) (by omega) |> fun z => by first | exact z | exact nI_nlt (by omega) (by omega)), stS_n _ _ _ (by omega) (by omega), Option.bind_some, lowest_n hs2 (by omega), Option.bind_some, w1, Option.bind_some, nI_1]
    exact ⟨_, rfl, rfl, w2, w3, w4, w5⟩) (by
    rintro ⟨_, q⟩ ⟨rfl, hf, g42, g40, g41⟩
    refine ⟨q, ?_, hf, g42, g40, g41⟩
    unfold f11_castAnew_L12
    dsimp only
    rw [eA, if_pos (nI_lt (by omega) (by omega))]) ⟨rfl, hf1, h4, h5, fun s' hs' => by
    obtain rfl : s' = 0 := by omega
    rfl⟩
  obtain ⟨q3, w1, w2, w3, w4⟩ := lpw_E (F := f11_castAnew_L24) (fun n s => s.1 = nI (chN (sfN r T) T.L A n) ∧ Fr [] [33, 34, 40, 41, 42] m s.2 ∧ (∀ l, l < T.L → s.2.2 42 l = eT (csT (sfN r T) T.L A n l)) ∧ (∀ a b, a < T.L → b < T.L → s.2.2 40 (12 * a + b) = nI (sfN r T a b)) ∧ ∀ s', s' < A + 1 → s.2.2 41 s' = nI (dpD (sfN r T) T.L s')) (fun q => Fr [] [33, 34, 40, 41, 42] m q ∧ (∀ l, l < T.L → q.2 42 l = eT (csT (sfN r T) T.L A 6 l)) ∧ ∀ s', s' < A + 1 → q.2 41 s' = nI (dpD (sfN r T) T.L s')) 6 (fun n s hn hI => by
    obtain ⟨_, q⟩ := s
    obtain ⟨e, hf, g42, g40, g41⟩ := hI
    dsimp only at e hf g42 g40 g41
    subst e
    obtain ⟨j1, j2, j3, j4⟩ := ch_ok hc hL hA hAe n
    have hs2 : chN (sfN r T) T.L A n < 4096 := Nat.lt_of_lt_of_le j1 (Nat.pow_le_pow_right (by decide) hL : 2 ^ T.L ≤ 2 ^ 12)
    unfold f11_castAnew_L24
    dsimp only
    by_cases h0 : chN (sfN r T) T.L A n = 0
    · right
      rw [h0, if_pos (by rfl)]
      obtain ⟨d, hd⟩ : ∃ d, 6 = n + d := ⟨6 - n, by omega⟩
      exact ⟨_, rfl, hf, fun l hl => by rw [hd, (cs_stop h0 d).1]; exact g42 l hl, g41⟩
    · left
      have hsA : chN (sfN r T) T.L A n ≤ A := by
        have : chN (sfN r T) T.L A n &&& A = chN (sfN r T) T.L A n := Nat.eq_of_testBit_eq fun i => by
          rw [Nat.testBit_and]
          cases z : (chN (sfN r T) T.L A n).testBit i with
          | false => rfl
          | true => rw [j4 i z]; rfl
        rw [← this]
        exact Nat.and_le_right
      obtain ⟨l1, l2, l3⟩ := lw_ok hs2 h0
      obtain ⟨b1, b2, b3⟩ := bs_ok hc hL j1 h0 j2
      obtain ⟨b4, b5, b6⟩ := bsP_iff.1 b2
      have hlL : lwN (chN (sfN r T) T.L A n) < T.L := by omega
      rw [csT_s, chN_s, if_neg h0, if_neg h0]
      generalize chN (sfN r T) T.L A n = s at *
      have sec : lpw (f11_castAnew_L27 (nI (lwN s)) (nI s, q)) (nI (lwN s) + 1) = some (nI (bsN (sfN r T) T.L s)) := by
        obtain ⟨x, x1, x2⟩ := lpw_R (F := f11_castAnew_L27 (nI (lwN s)) (nI s, q)) (fun d y => y = nI (lwN s + 1 + d)) (fun x => x = nI (bsN (sfN r T) T.L s)) (bsN (sfN r T) T.L s - (lwN s + 1)) (s := nI (lwN s) + 1) (by
          rintro d _ hd rfl
          have hb := b3 (lwN s + 1 + d) (by omega)
          generalize hbe : lwN s + 1 + d = b at *
          have hrl := rm_lt (b := b) hs2 l2
          have hd1 := dpD_le (c := sfN r T) (L := T.L) (show rmB s (lwN s) b < 4096 by omega)
          have hd2 := dpD_le (c := sfN r T) (L := T.L) hs2
          have hc1 := hc (lwN s) b
          refine ⟨nI (b + 1), ?_, by rw [show lwN s + 1 + (d + 1) = b + 1 by omega]⟩
          unfold f11_castAnew_L27
          dsimp only
          rw [isOf_n hs2 (by omega), Option.bind_some]
          simp only [ifz]
          cases w : s.testBit b with
          | false => rw [if_neg (by decide), nI_1]
          | true =>
            rw [if_pos rfl, show (12 : Int32) = nI 12 from rfl, pk_mul, nI_add, ldO_n _ (by omega) (by omega), g40 _ _ hlL (by omega), Option.bind_some, rm_e hs2 (by omega) (by omega), ldO_n _ (by omega) (by omega), g41 _ (by omega), Option.bind_some, ldO_n _ (by omega) (by omega), g41 _ (by omega), Option.bind_some, nI_add, nI_1, if_neg]
            intro z
            have z := (nI_eq (by omega) (by omega)).1 z
            have : bsP (sfN r T) T.L s b = true := bsP_iff.2 ⟨by omega, w, z⟩
            rw [hb] at this
            cases this) (by
          rintro _ rfl
          rw [show lwN s + 1 + (bsN (sfN r T) T.L s - (lwN s + 1)) = bsN (sfN r T) T.L s by omega]
          generalize bsN (sfN r T) T.L s = b at *
          have hrl := rm_lt (b := b) hs2 l2
          refine ⟨nI b, ?_, rfl⟩
          unfold f11_castAnew_L27
          dsimp only
          rw [isOf_n hs2 (by omega), b5, Option.bind_some, if_neg (by decide), show (12 : Int32) = nI 12 from rfl, pk_mul, nI_add, ldO_n _ (by omega) (by omega), g40 _ _ hlL (by omega), Option.bind_some, rm_e hs2 (by omega) (by omega), ldO_n _ (by omega) (by omega), g41 _ (by omega), Option.bind_some, ldO_n _ (by omega) (by omega), g41 _ (by omega), Option.bind_some, nI_add, if_pos (by rw [b6])]) (by rw [nI_1])
        rw [x1, x2]
      rw [if_neg (nI_ne0 (by omega) (by omega)), lowest_n hs2 h0, Option.bind_some, sec, Option.bind_some, stS_n _ _ _ (by omega) (by omega), Option.bind_some, stS_n _ _ _ (by omega) (by omega), Option.bind_some, rm_e hs2 (by omega) (by omega), Option.bind_some, sA_2e, sA_sA]
      refine ⟨_, rfl, rfl, hf.trans (Fr.sA q 42 _ (by decide)), ?_, g40, g41⟩
      show ∀ l, l < T.L → upd (upd (q.2 42) (lwN s) (nI (bsN (sfN r T) T.L s))) (bsN (sfN r T) T.L s) (nI (lwN s)) l = _
      exact upd_eT (upd_eT g42 rfl) rfl) (fun s hI => by
    obtain ⟨_, q⟩ := s
    obtain ⟨e, hf, g42, g40, g41⟩ := hI
    dsimp only at e hf g42 g40 g41
    subst e
    refine ⟨q, ?_, hf, g42, g41⟩
    unfold f11_castAnew_L24
    dsimp only
    rw [ch_6 hc hL hA hAe, if_pos (by rfl)]) (Nat.zero_le _) (s := (nI A, q2)) ⟨rfl, k2, k3, k4, k5⟩
  refine ⟨q3, ?_, w2, w3⟩
  unfold f11_castAnew
  rw [h1, Option.bind_some, Option.bind_some]
  show ((lpw (f11_castAnew_L12 q1) (1, sA q1.2 41 (upd (q1.2.2 41) (0 : Int32).toNatClampNeg 0))).bind _) = _
  rw [cl_0, k1, Option.bind_some, eA, w1, Option.bind_some, ldO_n _ (by omega) (by omega), w4 A (by omega), Option.bind_some]
end
