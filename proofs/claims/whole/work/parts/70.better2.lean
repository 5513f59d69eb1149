/-! better: the class's table, and the question -/
def cR : List Nat := [100, 101, 102, 103, 104, 105, 106, 107, 108, 109, 110, 111]
theorem cR_in : ∀ a, a < 12 → 100 + a ∈ cR := by decide
theorem cR_3 : ∀ a, a < 12 → 100 + a ∈ 3 :: cR := by decide
section
variable {r : RU} {T : TW} {st sg m s4 : St}
theorem HoE.fr {s s' : St} {A : List Nat} {l : Nat} (h : HoE r T s l) (f : Fr [] A s s') (h0 : 0 ∉ A := by decide) (h1 : 1 ∉ A := by decide) : HoE r T s' l := by
  unfold HoE
  rw [f.2 0 h0, f.2 1 h1]
  exact h
/-- the costs of every two of the set -/
def CoE (r : RU) (T : TW) (A : Nat) (s : St) : Prop := ∀ a b, a < b → b < 12 → A.testBit a = true → A.testBit b = true → s.2 (100 + a) b = nI (sfN r T a b)
theorem C_price {A : Nat} (hA : A < 4096) (hE : ∀ l, A.testBit l = true → HoE r T s4 l) : ∃ s', f4_price s4 (nI A) = some s' ∧ Fr [] cR s4 s' ∧ CoE r T A s' := by
  obtain ⟨q, h1, h2, h3⟩ := lpw_R (F := f4_price_L1 (nI A)) (fun i s => s.1 = nI i ∧ Fr [] cR s4 s.2 ∧ ∀ a b, a < i → a < b → b < 12 → A.testBit a = true → A.testBit b = true → s.2.2 (100 + a) b = nI (sfN r T a b)) (fun q => Fr [] cR s4 q ∧ CoE r T A q) 12 (s := (0, s4)) (by
    rintro i ⟨_, s⟩ hi ⟨rfl, hf, hc⟩
    dsimp only at hf hc
    obtain ⟨p, w1, w2, w3⟩ := lpw_R (F := f4_price_L3 (nI A) (nI i, s)) (fun d p => p.1 = nI (i + 1 + d) ∧ Fr [] cR s4 p.2 ∧ (∀ a b, a < i → a < b → b < 12 → A.testBit a = true → A.testBit b = true → p.2.2 (100 + a) b = nI (sfN r T a b)) ∧ ∀ b, i < b → b < i + 1 + d → A.testBit i = true → A.testBit b = true → p.2.2 (100 + i) b = nI (sfN r T i b)) (fun p => Fr [] cR s4 p ∧ ∀ a b, a < i + 1 → a < b → b < 12 → A.testBit a = true → A.testBit b = true → p.2 (100 + a) b = nI (sfN r T a b)) (12 - (i + 1)) (s := (nI i + 1, s)) (by
      rintro d ⟨_, p⟩ hd ⟨rfl, hf, hc, hi1⟩
      dsimp only at hf hc hi1
      generalize hb : i + 1 + d = j at *
      have hj : j < 12 := by omega
      unfold f4_price_L3
      dsimp only
      rw [if_neg (show ¬ (12 : Int32) ≤ nI j from nI_ge hj (by decide)), tst hA (by omega), tst hA (by omega)]
      simp only [zB_1]
      rw [show i + 1 + (d + 1) = j + 1 by omega]
      cases z1 : A.testBit i with
      | false =>
        rw [if_neg (by decide), Option.bind_some, nI_1]
        exact ⟨_, rfl, rfl, hf, hc, fun b _ _ h => by cases h⟩
      | true =>
        rw [if_pos rfl]
        cases z2 : A.testBit j with
        | false =>
          rw [if_neg (by decide), Option.bind_some, nI_1]
          refine ⟨_, rfl, rfl, hf, hc, fun b b1 b2 h3 h4 => ?_⟩
          by_cases e : b = j
          · rw [e, z2] at h4; cases h4
          · exact hi1 b b1 (by omega) z1 h4
        | true =>
          rw [if_pos rfl, ckO_n hi (by decide), Option.bind_some, C_atOdds hi hj ((hE i z1).fr hf) ((hE j z2).fr hf), Option.bind_some, stS_n _ _ _ hj (by decide), Option.bind_some, Option.bind_some, nI_1]
          refine ⟨_, rfl, rfl, hf.trans (Fr.sA p (100 + i) _ (cR_in i hi)), fun a b ha hab hb h3 h4 => ?_, fun b b1 b2 h3 h4 => ?_⟩
          · rw [sA_2n (j := 100 + a) (k := 100 + i) _ _ (by omega)]
            exact hc a b ha hab hb h3 h4
          · rw [sA_2e]
            by_cases e : b = j
            · rw [e, upd_e]
            · rw [upd_n _ _ e]
              exact hi1 b b1 (by omega) z1 h4) (by
      rintro ⟨_, p⟩ ⟨rfl, hf, hc, hi1⟩
      dsimp only at hf hc hi1
      rw [show i + 1 + (12 - (i + 1)) = 12 by omega] at *
      refine ⟨p, ?_, hf, fun a b ha hab hb h3 h4 => ?_⟩
      · unfold f4_price_L3
        dsimp only
        rw [if_pos (show (12 : Int32) ≤ nI 12 from Int32.le_refl _)]
      · by_cases e : a = i
        · subst e; exact hi1 b hab hb h3 h4
        · exact hc a b (by omega) hab hb h3 h4) ⟨by rw [nI_1], hf, hc, fun b b1 b2 => by omega⟩
    unfold f4_price_L1
    dsimp only
    rw [if_neg (show ¬ (12 : Int32) ≤ nI i from nI_ge hi (by decide)), w1, Option.bind_some, nI_1]
    exact ⟨_, rfl, rfl, w2, w3⟩) (by
    rintro ⟨_, s⟩ ⟨rfl, hf, hc⟩
    refine ⟨s, ?_, hf, fun a b hab hb h3 h4 => hc a b (by omega) hab hb h3 h4⟩
    unfold f4_price_L1
    dsimp only
    rw [if_pos (show (12 : Int32) ≤ nI 12 from Int32.le_refl _)]) ⟨rfl, Fr.refl _ _ _, fun a b ha => by omega⟩
  refine ⟨q, ?_, h2, h3⟩
  unfold f4_price
  rw [h1, Option.bind_some]
/-- the least costs of the even parts of the set, below n -/
def DpE (r : RU) (T : TW) (A n : Nat) (s : St) : Prop := ∀ j, j < n → (∀ i, j.testBit i = true → A.testBit i = true) → pcN j % 2 = 0 → s.2 3 j = nI (dpD (sfN r T) T.L j)
theorem C_costWith {A s a b n : Nat} {p : St} (hc : CoE r T A p) (hd : DpE r T A n p) (hs : s < 4096) (hsn : s ≤ n) (hsub : ∀ i, s.testBit i = true → A.testBit i = true) (he : pcN s % 2 = 0) (hab : a < b) (hb : b < 12) (ha1 : s.testBit a = true) (hb1 : s.testBit b = true) : f4_costWith p (nI s) (nI a) (nI b) = some (nI (sfN r T a b + dpD (sfN r T) T.L (rmB s a b))) := by
  have hrl := rm_lt (b := b) hs ha1
  have hp := pc_rm hs (show a < 12 by omega) hb (by omega) ha1 hb1
  unfold f4_costWith
  rw [ckO_n (by omega) (by decide), Option.bind_some, ldO_n _ hb (by decide), hc a b hab hb (hsub a ha1) (hsub b hb1), Option.bind_some, rm_e hs (by omega) hb, ldO_n _ (by omega) (by decide), hd _ (by omega) (fun i hi => by
    rw [tb_rm hs, Bool.and_eq_true] at hi
    exact hsub i hi.1) (by omega), Option.bind_some, nI_add]
theorem C_weigh (hL : T.L ≤ 12) {A : Nat} (hA : A < 2 ^ T.L) (hE : ∀ l, A.testBit l = true → HoE r T s4 l) : ∃ s', f4_weigh s4 (nI A) = some s' ∧ CoE r T A s' ∧ DpE r T A (A + 1) s' := by
  have hA2 : A < 4096 := Nat.lt_of_lt_of_le hA (Nat.pow_le_pow_right (by decide) hL : 2 ^ T.L ≤ 2 ^ 12)
  have hcc : ∀ a b, sfN r T a b ≤ 24 := fun a b => sfN_24 a b
  obtain ⟨s1, h1, h2, h3⟩ := C_price (r := r) (T := T) hA2 hE
  obtain ⟨q, k1, k2, k3⟩ := lpw_R (F := f4_weigh_L3 (nI A)) (fun i s => s.1 = nI (i + 1) ∧ CoE r T A s.2 ∧ DpE r T A (i + 1) s.2) (fun q => CoE r T A q ∧ DpE r T A (A + 1) q) A (s := (1, sA s1 3 (upd (s1.2 3) 0 0))) (by
    rintro i ⟨_, s⟩ hi ⟨rfl, hc, hd⟩
    dsimp only at hc hd
    generalize hk : i + 1 = k at *
    have hk0 : k ≠ 0 := by omega
    have hk2 : k < 4096 := by omega
    have hkL : k < 2 ^ T.L := by omega
    have e1 : (nI k &&& (nI A ^^^ (-1)) = 0) ↔ (∀ i, k.testBit i = true → A.testBit i = true) := by
      rw [((Bm.of_num (n := 12) (k := k) hk2 (by decide)).sub (Bm.of_num (n := 12) (k := A) hA2 (by decide))).eq0 (by decide)]
      constructor
      · intro h i hi
        rcases Nat.lt_or_ge i 12 with z | z
        · have := h i z
          rw [hi] at this
          simpa using this
        · rw [tb_big hk2 z] at hi; cases hi
      · intro h i _
        cases z : k.testBit i with
        | false => rfl
        | true => rw [h i z]; rfl
    have skip : (¬ ∀ i, k.testBit i = true → A.testBit i = true) ∨ pcN k % 2 ≠ 0 → DpE r T A (k + 1) s := by
      intro hn j hj hs he
      by_cases e : j = k
      · subst e
        rcases hn with hn | hn
        · exact absurd hs hn
        · exact absurd he hn
      · exact hd j (by omega) hs he
    unfold f4_weigh_L3
    dsimp only
    rw [if_neg (show ¬ (4096 : Int32) ≤ nI k from nI_ge hk2 (by decide)), if_neg (nI_nlt (show k ≤ A by omega) (by omega))]
    by_cases hsub : ∀ i, k.testBit i = true → A.testBit i = true
    case neg =>
      rw [if_neg (fun z => hsub (e1.1 z)), Option.bind_some, nI_1]
      exact ⟨_, rfl, rfl, hc, skip (.inl hsub)⟩
    rw [if_pos (e1.2 hsub), bitCount_Bm (Bm.of_num (n := 12) (k := k) hk2 (by decide)) (by decide), Option.bind_some]
    rw [show nI (fb_ct (fun i => k.testBit i) 12) = nI (pcN k) from rfl, show (2 : Int32) = nI 2 from rfl, mod_nI (by have := pcN_12 k; omega) (by decide) (by decide)]
    by_cases he : pcN k % 2 = 0
    case neg =>
      rw [if_neg (show ¬ nI (pcN k % 2) = 0 from nI_ne0 (Nat.pos_of_ne_zero he) (by omega)), Option.bind_some, nI_1]
      exact ⟨_, rfl, rfl, hc, skip (.inr he)⟩
    rw [if_pos (by rw [he]; rfl), stS_n _ _ _ hk2 (by decide), Option.bind_some, ntz_n hk2 hk0, Option.bind_some]
    obtain ⟨l1, l2, l3⟩ := lw_ok hk2 hk0
    have c0 : CoE r T A (sA s 3 (upd (s.2 3) k 1000000)) := fun a b hab hb h3 h4 => by
      rw [sA_2n (j := 100 + a) (k := 3) _ _ (by omega)]
      exact hc a b hab hb h3 h4
    have d0 : DpE r T A k (sA s 3 (upd (s.2 3) k 1000000)) := fun j hj h3 h4 => by
      rw [sA_2e, upd_n _ _ (by omega)]
      exact hd j hj h3 h4
    obtain ⟨p, w1, w2, w3⟩ := lpw_R (F := f4_weigh_L9 (nI (lwN k)) (nI k, s)) (fun d p => p.1 = nI (lwN k + 1 + d) ∧ CoE r T A p.2 ∧ DpE r T A k p.2 ∧ p.2.2 3 k = nI (mnF (sfN r T) (dpD (sfN r T) T.L) 1000000 k (lwN k) (lwN k + 1 + d))) (fun p => CoE r T A p ∧ DpE r T A (k + 1) p) (12 - (lwN k + 1)) (s := (nI (lwN k) + 1, sA s 3 (upd (s.2 3) k 1000000))) (by
      rintro d ⟨_, p⟩ hd ⟨rfl, pc, pd, ps⟩
      dsimp only at pc pd ps
      generalize hb : lwN k + 1 + d = b at *
      have hb12 : b < 12 := by omega
      have nxt := mnF_s (c := sfN r T) (D := dpD (sfN r T) T.L) (X := 1000000) (s := k) (a := lwN k) b
      have hX := mnF_le_X (c := sfN r T) (D := dpD (sfN r T) T.L) (X := 1000000) (s := k) (a := lwN k) b
      unfold f4_weigh_L9
      dsimp only
      rw [if_neg (show ¬ (12 : Int32) ≤ nI b from nI_ge hb12 (by decide)), tst hk2 (by omega)]
      simp only [zB_1]
      rw [show lwN k + 1 + (d + 1) = b + 1 by omega, nxt]
      cases w : k.testBit b with
      | false =>
        rw [if_neg (by decide), Option.bind_some, nI_1, if_neg (fun z => by cases z.2)]
        exact ⟨_, rfl, rfl, pc, pd, ps⟩
      | true =>
        have hrl := rm_lt (b := b) hk2 l2
        have hd1 := dpD_le (c := sfN r T) (L := T.L) (show rmB k (lwN k) b < 4096 by omega)
        have hc1 := hcc (lwN k) b
        rw [if_pos rfl, ldO_n _ hk2 (by decide), ps, Option.bind_some, C_costWith pc pd hk2 (Nat.le_refl _) hsub he (by omega) hb12 l2 w, Option.bind_some, jmin_n (by omega) (by omega), stS_n _ _ _ hk2 (by decide), Option.bind_some, Option.bind_some, nI_1, if_pos ⟨by omega, rfl⟩]
        refine ⟨_, rfl, rfl, fun a b hab hb h3 h4 => ?_, fun j hj h3 h4 => ?_, ?_⟩
        · rw [sA_2n (j := 100 + a) (k := 3) _ _ (by omega)]
          exact pc a b hab hb h3 h4
        · rw [sA_2e, upd_n _ _ (by omega)]
          exact pd j hj h3 h4
        · rw [sA_2e, upd_e]) (by
      rintro ⟨_, p⟩ ⟨rfl, pc, pd, ps⟩
      dsimp only at pc pd ps
      rw [show lwN k + 1 + (12 - (lwN k + 1)) = 12 by omega] at *
      refine ⟨p, ?_, pc, fun j hj h3 h4 => ?_⟩
      · unfold f4_weigh_L9
        dsimp only
        rw [if_pos (show (12 : Int32) ≤ nI 12 from Int32.le_refl _)]
      · by_cases e : j = k
        · rw [e, ps, mnF_big hcc hL hkL hk0 he]
        · exact pd j (by omega) h3 h4) ⟨by rw [nI_1], c0, d0, by
        rw [sA_2e, upd_e, mnF_start _ (Nat.le_refl _)]
        rfl⟩
    rw [w1, Option.bind_some, Option.bind_some, nI_1]
    exact ⟨_, rfl, rfl, w2, w3⟩) (by
    rintro ⟨_, s⟩ ⟨rfl, hc, hd⟩
    refine ⟨s, ?_, hc, hd⟩
    unfold f4_weigh_L3
    dsimp only
    by_cases z : (4096 : Int32) ≤ nI (A + 1)
    · rw [if_pos z]
    · rw [if_neg z, if_pos (nI_lt (by omega) (by omega))]) ⟨rfl, fun a b hab hb h3' h4 => by
      show (sA s1 3 _).2 (100 + a) b = _
      rw [sA_2n (j := 100 + a) (k := 3) _ _ (by omega)]
      exact h3 a b hab hb h3' h4, fun j hj _ _ => by
      obtain rfl : j = 0 := by omega
      show (sA s1 3 (upd (s1.2 3) 0 0)).2 3 0 = _
      rw [sA_2e, upd_e]
      rfl⟩
  refine ⟨q, ?_, k2, k3⟩
  unfold f4_weigh
  rw [h1, Option.bind_some, Option.bind_some, cl_0, k1, Option.bind_some]
theorem C_leastCost {A : Nat} (hA : A < 4096) (he : pcN A % 2 = 0) {s : St} (hd : DpE r T A (A + 1) s) : f4_leastCost s (nI A) = some (nI (dpD (sfN r T) T.L A)) := by
  unfold f4_leastCost
  rw [if_neg (nI_pos (by omega)), if_neg (show ¬ (4096 : Int32) ≤ nI A from nI_ge hA (by decide)), ldO_n _ hA (by decide), hd A (by omega) (fun _ h => h) he, Option.bind_some]
theorem C_isBest {A s a b : Nat} {p : St} (hc : CoE r T A p) (hd : DpE r T A (A + 1) p) (hsA : s ≤ A) (hs : s < 4096) (hsub : ∀ i, s.testBit i = true → A.testBit i = true) (he : pcN s % 2 = 0) (hab : lwN s < b) (hb : b < 12) (ha1 : s.testBit (lwN s) = true) (e : lwN s = a) : f4_isBest p (nI s) (nI a) (nI b) = some (bsP (sfN r T) T.L s b) := by
  subst e
  unfold f4_isBest
  rw [tst hs (by omega)]
  simp only [zB_1]
  cases w : s.testBit b with
  | false =>
    rw [if_neg (by decide)]
    congr 1
    unfold bsP
    rw [w, Bool.and_false, Bool.false_and]
  | true =>
    have hrl := rm_lt (b := b) hs ha1
    have hd1 := dpD_le (c := sfN r T) (L := T.L) (show rmB s (lwN s) b < 4096 by omega)
    have hd2 := dpD_le (c := sfN r T) (L := T.L) hs
    have hc1 := sfN_24 (r := r) (T := T) (lwN s) b
    rw [if_pos rfl, C_costWith hc hd hs (by omega) hsub he hab hb ha1 w, Option.bind_some, ldO_n _ hs (by decide), hd s (by omega) hsub he, Option.bind_some]
    rw [ifd]
    congr 1
    unfold bsP
    rw [w, decide_eq_true hab, Bool.true_and, Bool.true_and]
    exact decide_eq_decide.2 (nI_eq (by omega) (by omega))
theorem C_partner (hL : T.L ≤ 12) {A : Nat} (hA : A < 2 ^ T.L) (hAe : pcN A % 2 = 0) {s : St} (hc : CoE r T A s) (hd : DpE r T A (A + 1) s) {l : Nat} (hl : A.testBit l = true) : f4_partner s (nI A) (nI l) = some (eT (csT (sfN r T) T.L A 6 l)) := by
  have hcc : ∀ a b, sfN r T a b ≤ 24 := fun a b => sfN_24 a b
  have hA2 : A < 4096 := Nat.lt_of_lt_of_le hA (Nat.pow_le_pow_right (by decide) hL : 2 ^ T.L ≤ 2 ^ 12)
  have hl12 : l < 12 := Nat.lt_of_not_le fun z => by rw [tb_big hA2 z] at hl; cases hl
  obtain ⟨q, h1, h2⟩ := lpw_E (F := f4_partner_L1 s (nI l)) (fun n v => v.1 = nI (chN (sfN r T) T.L A n) ∧ v.2 = nI n ∧ (chN (sfN r T) T.L A n).testBit l = true) (fun q => q = .inl (eT (csT (sfN r T) T.L A 6 l)) ∨ q = .inr (.inl (eT (csT (sfN r T) T.L A 6 l)))) 6 (fun n v hn hI => by
    obtain ⟨_, _⟩ := v
    obtain ⟨e1, e2, hb⟩ := hI
    dsimp only at e1 e2
    subst e1 e2
    obtain ⟨j1, j2, j3, j4⟩ := ch_ok hcc hL hA hAe n
    have hs2 : chN (sfN r T) T.L A n < 4096 := Nat.lt_of_lt_of_le j1 (Nat.pow_le_pow_right (by decide) hL : 2 ^ T.L ≤ 2 ^ 12)
    have h0 : chN (sfN r T) T.L A n ≠ 0 := fun z => by rw [z, Nat.zero_testBit] at hb; cases hb
    have hsA : chN (sfN r T) T.L A n ≤ A := by
      have : chN (sfN r T) T.L A n &&& A = chN (sfN r T) T.L A n := Nat.eq_of_testBit_eq fun i => by
        rw [Nat.testBit_and]
        cases z : (chN (sfN r T) T.L A n).testBit i with
        | false => rfl
        | true => rw [j4 i z]; rfl
      rw [← this]
      exact Nat.and_le_right
    obtain ⟨l1, l2, l3⟩ := lw_ok hs2 h0
    obtain ⟨b1, b2, b3⟩ := bs_ok hcc hL j1 h0 j2
    obtain ⟨b4, b5, b6⟩ := bsP_iff.1 b2
    have ec := csT_s (c := sfN r T) (L := T.L) A n
    have eh := chN_s (c := sfN r T) (L := T.L) A n
    rw [if_neg h0] at ec eh
    have hk6 : ∀ {x : Option Nat}, (chN (sfN r T) T.L A (n + 1)).testBit l = false → csT (sfN r T) T.L A (n + 1) l = x → csT (sfN r T) T.L A 6 l = x := fun h h' => by
      obtain ⟨d, hd⟩ : ∃ d, 6 = (n + 1) + d := ⟨6 - (n + 1), by omega⟩
      rw [hd, (cs_keep hcc hL hA hAe h d).1, h']
    have sec : lpw (f4_partner_L4 s (nI (lwN (chN (sfN r T) T.L A n))) (nI (chN (sfN r T) T.L A n), nI n)) (nI (lwN (chN (sfN r T) T.L A n)) + 1) = some (nI (bsN (sfN r T) T.L (chN (sfN r T) T.L A n))) := by
      generalize chN (sfN r T) T.L A n = k at *
      obtain ⟨x, x1, x2⟩ := lpw_R (F := f4_partner_L4 s (nI (lwN k)) (nI k, nI n)) (fun d y => y = nI (lwN k + 1 + d)) (fun x => x = nI (bsN (sfN r T) T.L k)) (bsN (sfN r T) T.L k - (lwN k + 1)) (s := nI (lwN k) + 1) (by
        rintro d _ hd2 rfl
        have hb := b3 (lwN k + 1 + d) (by omega)
        refine ⟨nI (lwN k + 1 + d + 1), ?_, by rw [show lwN k + 1 + (d + 1) = lwN k + 1 + d + 1 by omega]⟩
        unfold f4_partner_L4
        dsimp only
        rw [if_neg (show ¬ (12 : Int32) ≤ nI (lwN k + 1 + d) from nI_ge (b := 12) (by omega) (by decide)), C_isBest (b := lwN k + 1 + d) hc hd hsA hs2 j4 j2 (by omega) (by omega) l2 rfl, hb, Option.bind_some, if_pos zB_f, nI_1]) (by
        rintro _ rfl
        rw [show lwN k + 1 + (bsN (sfN r T) T.L k - (lwN k + 1)) = bsN (sfN r T) T.L k by omega]
        refine ⟨nI (bsN (sfN r T) T.L k), ?_, rfl⟩
        unfold f4_partner_L4
        dsimp only
        rw [if_neg (show ¬ (12 : Int32) ≤ nI (bsN (sfN r T) T.L k) from nI_ge (b := 12) (by omega) (by decide)), C_isBest (b := bsN (sfN r T) T.L k) hc hd hsA hs2 j4 j2 b4 (by omega) l2 rfl, b2, Option.bind_some, if_neg (by decide)]) (by rw [nI_1])
      rw [x1, x2]
    unfold f4_partner_L1
    dsimp only
    rw [if_neg (show ¬ (12 : Int32) ≤ nI n from nI_ge (b := 12) (by omega) (by decide)), if_neg (show ¬ nI (chN (sfN r T) T.L A n) ≤ 0 from nI_ge (a := 0) (b := chN (sfN r T) T.L A n) (by omega) (by omega)), if_neg (show ¬ (4096 : Int32) ≤ nI (chN (sfN r T) T.L A n) from nI_ge hs2 (by decide)), ntz_n hs2 h0, Option.bind_some, sec, Option.bind_some]
    by_cases z1 : l = lwN (chN (sfN r T) T.L A n)
    · right
      rw [if_pos (by rw [z1])]
      refine ⟨_, rfl, .inl ?_⟩
      rw [hk6 (x := some (bsN (sfN r T) T.L (chN (sfN r T) T.L A n))) (by rw [eh, tb_rm hs2, ← z1]; simp) (by rw [ec, ← z1, updO_n _ _ (by omega), updO_e])]
      rfl
    · by_cases z2 : l = bsN (sfN r T) T.L (chN (sfN r T) T.L A n)
      · right
        rw [if_neg (fun z => z1 ((nI_eq (by omega) (by omega)).1 z)), if_pos (by rw [z2])]
        refine ⟨_, rfl, .inr ?_⟩
        rw [hk6 (x := some (lwN (chN (sfN r T) T.L A n))) (by rw [eh, tb_rm hs2, ← z2]; simp) (by rw [ec, ← z2, updO_e])]
        rfl
      · left
        rw [if_neg (fun z => z1 ((nI_eq (by omega) (by omega)).1 z)), if_neg (fun z => z2 ((nI_eq (by omega) (by omega)).1 z)), rm_e hs2 (by omega) (by omega), Option.bind_some, nI_1]
        refine ⟨_, rfl, by rw [eh], rfl, ?_⟩
        rw [eh, tb_rm hs2, hb, decide_eq_false z1, decide_eq_false z2]
        rfl) (fun v hI => by
    have := hI.2.2
    rw [ch_6 hcc hL hA hAe, Nat.zero_testBit] at this
    cases this) (Nat.zero_le _) (s := (nI A, 0)) ⟨rfl, rfl, hl⟩
  unfold f4_partner
  rw [h1, Option.bind_some]
  rcases h2 with h2 | h2
  · rw [h2]
  · rw [h2]
end
