/-! to the next token, both -/
def ByC (n : Nat) (B : Nat → Nat) (sr : St) : Prop := n ≤ 600 ∧ ∀ k, k < n → B k < 256 ∧ sr.2 4 k = sb (B k)
def ByM (n : Nat) (B : Nat → Nat) (m : St) : Prop := n ≤ 600 ∧ ∀ k, k < n → B k < 256 ∧ m.2 12 k = nI (B k)
def md (c : Nat) : Nat := if c = 0 then 0 else if c = 1 then 4 else if c = 2 then 2 else if c < 300 then 3 else 1
def LxC (n : Nat) (B : Nat → Nat) (L : LX) (sr : St) : Prop := ByC n B sr ∧ sr.1 5 = nI n ∧ sr.1 6 = 0 ∧ sr.1 7 = nI L.2.2.1 ∧ sr.1 8 = nI L.1 ∧ sr.1 9 = nI L.2.1 ∧ (L.2.2.1 = 2 → sr.1 10 = nI (L.2.1 - L.1) ∧ (L.2.1 - L.1 ≤ 4 → sr.1 11 = nI L.2.2.2))
def LxM (n : Nat) (B : Nat → Nat) (L : LX) (m : St) : Prop := ByM n B m ∧ m.1 15 = nI n ∧ m.1 20 = 0 ∧ m.1 16 = nI (md L.2.2.1) ∧ m.1 18 = nI L.1 ∧ m.1 14 = nI L.2.1 ∧ m.1 19 = nI L.2.1 ∧ (L.2.2.1 = 2 → L.2.1 - L.1 ≤ 4 → m.1 17 = nI L.2.2.2)
theorem textOf_d : ∀ j, j < 16 → f6_textOf (nI (300 + j)) = some j := by decide +kernel
theorem chO_n {i k : Nat} (hi : i < 16) (hk : k < xLen.getD i 0) : chO i (nI k) = some (chW i k) := by
  have := xLen_8 i hi
  unfold chO
  rw [inb_nI hk (by omega), if_pos rfl, cl_nI (by omega)]
  rfl
section
variable {n : Nat} {B : Nat → Nat} {sr st m : St} {a : Nat} {L : LX}
theorem ByC.ld (h : ByC n B sr) {k : Nat} (hk : k < n) : ldO 600 (sr.2 4) (nI k) = some (sb (B k)) := by
  have := h.1
  rw [ldO_n _ (by omega) (by decide), (h.2 k hk).2]
theorem ByC.fr {S : List Nat} (h : ByC n B sr) (f : Fr S [] sr st) : ByC n B st := ⟨h.1, fun k hk => ⟨(h.2 k hk).1, by rw [f.2 4 (List.not_mem_nil)]; exact (h.2 k hk).2⟩⟩
theorem ByM.at (h : ByM n B m) (h15 : m.1 15 = nI n) {k : Nat} (hk : k ≤ n) : f11_byteAt m (nI k) = some (if k < n then nI (B k) else -1) := by
  have := h.1
  unfold f11_byteAt
  rw [h15]
  by_cases z : k < n
  · rw [if_neg (nI_ge z (by omega)), if_pos z, ldO_n _ (by omega) (by decide), (h.2 k z).2, Option.bind_some]
  · rw [if_pos (by rw [show k = n by omega]; exact Int32.le_refl _), if_neg z]
theorem ByM.fr {S A : List Nat} {m' : St} (h : ByM n B m) (f : Fr S A m m') (ha : 12 ∉ A) : ByM n B m' := ⟨h.1, fun k hk => ⟨(h.2 k hk).1, by rw [f.2 12 ha]; exact (h.2 k hk).2⟩⟩
theorem C_blanks (hB : ByC n B sr) (h5 : sr.1 5 = nI n) {s : Nat} (h1 : a ≤ s) (h2 : s ≤ n) (h3 : ∀ k, a ≤ k → k < s → blkB (B k) = true) (h4 : s < n → blkB (B s) = false) : lpw f6_accept_L2 (nI a, sS sr 8 (nI a)) = some (sS sr 8 (nI s)) := by
  have hn := hB.1
  have := lpw_S (F := f6_accept_L2) (fun i => (nI (a + i), sS sr 8 (nI (a + i)))) (s - a) (r := sS sr 8 (nI s)) (fun i hi => by
    have e5 : (sS sr 8 (nI (a + i))).1 5 = nI n := h5
    have e4 : (sS sr 8 (nI (a + i))).2 4 = sr.2 4 := rfl
    unfold f6_accept_L2
    dsimp only
    rw [e5, if_neg (nI_ge (show a + i < n by omega) (by omega)), e4, hB.ld (by omega), Option.bind_some, (by_C _ (hB.2 (a + i) (by omega)).1).1, h3 (a + i) (by omega) (by omega), Option.bind_some, if_neg (by decide), Option.bind_some, sS_sS, nI_1]
    rfl) (by
    rw [show a + (s - a) = s by omega]
    have e5 : (sS sr 8 (nI s)).1 5 = nI n := h5
    have e4 : (sS sr 8 (nI s)).2 4 = sr.2 4 := rfl
    unfold f6_accept_L2
    dsimp only
    rw [e5]
    by_cases z : s < n
    · rw [if_neg (nI_ge z (by omega)), e4, hB.ld z, Option.bind_some, (by_C _ (hB.2 s z).1).1, h4 z, Option.bind_some, if_pos zB_f]
    · rw [if_pos (by rw [show s = n by omega]; exact Int32.le_refl _)])
  exact this
theorem C_isSpelt (hB : ByC n B st) (h5 : st.1 5 = nI n) {s e : Nat} (h8 : st.1 8 = nI s) (h9 : st.1 9 = nI e) (h1 : s ≤ e) (h2 : e ≤ n) (hl : ∀ k, s ≤ k → k < e → ltrB (B k) = true) {i : Nat} (hi : i < 16) : f6_isSpelt st i = some (splB B s e i) := by
  have hn := hB.1
  have h16 := xLen_8 i hi
  unfold f6_isSpelt
  rw [h8, h9, pk_sub h1]
  by_cases z : xLen.getD i 0 = e - s
  · rw [if_pos (by rw [z])]
    obtain ⟨q, q1, q2⟩ := lpw_E (F := f6_isSpelt_L1 st i) (fun k v => v = nI k ∧ allB (fun k => decide (chW i k = nI (B (s + k)))) k = true) (fun q => (q = .inl () ∧ allB (fun k => decide (chW i k = nI (B (s + k)))) (xLen.getD i 0) = false) ∨ (q = .inr () ∧ allB (fun k => decide (chW i k = nI (B (s + k)))) (xLen.getD i 0) = true)) (xLen.getD i 0) (fun k v hk hI => by
      obtain ⟨rfl, ha⟩ := hI
      have hs : sb (B (s + k)) = nI (B (s + k)) := by_e _ (hB.2 (s + k) (by omega)).1 (by rw [hl (s + k) (by omega) (by omega)]; rfl)
      unfold f6_isSpelt_L1
      rw [if_neg (nI_ge hk (by omega)), h5, h8, nI_add, if_neg (nI_ge (show s + k < n by omega) (by omega)), chO_n hi hk, Option.bind_some, hB.ld (by omega), Option.bind_some, hs, nI_1]
      by_cases y : chW i k = nI (B (s + k))
      · rw [if_pos y]
        refine .inl ⟨_, rfl, rfl, ?_⟩
        show (allB _ k && decide (chW i k = nI (B (s + k)))) = true
        rw [ha, decide_eq_true y]
        rfl
      · rw [if_neg y]
        exact .inr ⟨_, rfl, .inl ⟨rfl, allB_f hk (decide_eq_false y)⟩⟩) (fun v hI => by
      obtain ⟨rfl, ha⟩ := hI
      refine ⟨.inr (), ?_, .inr ⟨rfl, ha⟩⟩
      unfold f6_isSpelt_L1
      rw [if_pos (Int32.le_refl _)]) (Nat.zero_le _) (s := 0) ⟨rfl, rfl⟩
    rw [q1, Option.bind_some]
    unfold splB
    rw [decide_eq_true z, Bool.true_and]
    rcases q2 with ⟨rfl, q2⟩ | ⟨rfl, q2⟩ <;> rw [q2]
  · rw [if_neg (fun y => z ((nI_eq (by omega) (by omega)).1 y))]
    unfold splB
    rw [decide_eq_false z, Bool.false_and]
theorem C_readWord (hB : ByC n B st) (h5 : st.1 5 = nI n) {s e : Nat} (h8 : st.1 8 = nI s) (h9 : st.1 9 = nI s) (h1 : s ≤ e) (h2 : e ≤ n) (hl : ∀ k, s ≤ k → k < e → ltrB (B k) = true) (hl2 : e < n → ltrB (B e) = false) : ∃ st', f6_readWord st = some st' ∧ st'.1 7 = nI (wdN B s e 16) ∧ st'.1 9 = nI e ∧ Fr [7, 9] [] st st' := by
  have hn := hB.1
  have e1 : lpw f6_readWord_L1 (nI s, st) = some (sS st 9 (nI e)) := by
    have := lpw_S (F := f6_readWord_L1) (fun i => (nI (s + i), sS st 9 (nI (s + i)))) (e - s) (r := sS st 9 (nI e)) (fun i hi => by
      have e5 : (sS st 9 (nI (s + i))).1 5 = nI n := h5
      have e4 : (sS st 9 (nI (s + i))).2 4 = st.2 4 := rfl
      unfold f6_readWord_L1
      dsimp only
      rw [e5, if_neg (nI_ge (show s + i < n by omega) (by omega)), e4, hB.ld (by omega), Option.bind_some, (by_C _ (hB.2 (s + i) (by omega)).1).2.1, hl (s + i) (by omega) (by omega), Option.bind_some, if_neg (by decide), Option.bind_some, sS_sS, nI_1]
      rfl) (by
      rw [show s + (e - s) = e by omega]
      have e5 : (sS st 9 (nI e)).1 5 = nI n := h5
      have e4 : (sS st 9 (nI e)).2 4 = st.2 4 := rfl
      unfold f6_readWord_L1
      dsimp only
      rw [e5]
      by_cases z : e < n
      · rw [if_neg (nI_ge z (by omega)), e4, hB.ld z, Option.bind_some, (by_C _ (hB.2 e z).1).2.1, hl2 z, Option.bind_some, if_pos zB_f]
      · rw [if_pos (by rw [show e = n by omega]; exact Int32.le_refl _)])
    rw [show (nI s, st) = (nI (s + 0), sS st 9 (nI (s + 0))) from by rw [Nat.add_zero, ← h9, sS_self]]
    exact this
  have e2 : lpw f6_readWord_L7 (300, sS (sS st 9 (nI e)) 7 316) = some (sS (sS st 9 (nI e)) 7 (nI (wdN B s e 16))) := by
    have := lpw_S (F := f6_readWord_L7) (fun j => (nI (300 + j), sS (sS st 9 (nI e)) 7 (nI (wdN B s e j)))) 16 (r := sS (sS st 9 (nI e)) 7 (nI (wdN B s e 16))) (fun j hj => by
      have hS : ∀ x, f6_isSpelt (sS (sS st 9 (nI e)) 7 x) j = some (splB B s e j) := fun x => C_isSpelt (n := n) (st := sS (sS st 9 (nI e)) 7 x) ⟨hB.1, hB.2⟩ h5 h8 rfl h1 h2 hl hj
      unfold f6_readWord_L7
      dsimp only
      rw [if_neg (show ¬ (316 : Int32) ≤ nI (300 + j) from nI_ge (b := 316) (by omega) (by decide)), textOf_d j hj, Option.bind_some, bdO_n hj, Option.bind_some, hS, Option.bind_some]
      simp only [ifz]
      show _ = some (Sum.inl (nI (300 + j + 1), sS (sS st 9 (nI e)) 7 (nI (if splB B s e j = true then 300 + j else wdN B s e j))))
      cases splB B s e j with
      | true => rw [if_pos rfl, if_pos rfl, Option.bind_some, Option.bind_some, sS_sS, nI_1]
      | false => rw [if_neg (by decide), if_neg (by decide), Option.bind_some, nI_1]) (by
      unfold f6_readWord_L7
      dsimp only
      rw [if_pos (show (316 : Int32) ≤ nI (300 + 16) from by decide +kernel)])
    exact this
  refine ⟨_, ?_, sS_1e _ _ _, rfl, (Fr.sS st 9 (nI e) (by decide)).trans (Fr.sS _ 7 _ (by decide))⟩
  unfold f6_readWord
  rw [h8, e1, Option.bind_some, Option.bind_some, e2, Option.bind_some]
theorem C_readNumber (hB : ByC n B st) (h5 : st.1 5 = nI n) {s e : Nat} (h8 : st.1 8 = nI s) (h9 : st.1 9 = nI s) (h1 : s ≤ e) (h2 : e ≤ n) (hd : ∀ k, s ≤ k → k < e → dgtB (B k) = true) (hd2 : e < n → dgtB (B e) = false) : ∃ st', f6_readNumber st = some st' ∧ st'.1 7 = nI 2 ∧ st'.1 9 = nI e ∧ st'.1 10 = nI (e - s) ∧ (e - s ≤ 4 → st'.1 11 = nI (vlN B s (e - s))) ∧ Fr [7, 9, 10, 11] [] st st' := by
  have hn := hB.1
  obtain ⟨q, q1, q2, q3, q4, q5⟩ := lpw_R (F := f6_readNumber_L3) (fun i v => v.1 = nI (s + i) ∧ v.2.1 9 = nI (s + i) ∧ v.2.1 10 = nI i ∧ (i ≤ 4 → v.2.1 11 = nI (vlN B s i)) ∧ Fr [9, 10, 11] [] st v.2) (fun q => q.1 9 = nI e ∧ q.1 10 = nI (e - s) ∧ (e - s ≤ 4 → q.1 11 = nI (vlN B s (e - s))) ∧ Fr [9, 10, 11] [] st q) (e - s) (s := (nI s, sS (sS st 10 0) 11 0)) (by
    rintro i ⟨_, p⟩ hi ⟨rfl, p9, p10, p11, hf⟩
    dsimp only at p9 p10 p11 hf
    have hBp := hB.fr hf
    have e5 : p.1 5 = nI n := (hf.1 5 (by decide)).trans h5
    have hb := (hB.2 (s + i) (by omega)).1
    have hdd := hd (s + i) (by omega) (by omega)
    have hs : sb (B (s + i)) = nI (B (s + i)) := by_e _ hb (by rw [hdd]; simp)
    have hd3 := hdd
    unfold dgtB at hd3
    rw [Bool.and_eq_true, decide_eq_true_eq, decide_eq_true_eq] at hd3
    unfold f6_readNumber_L3
    dsimp only
    rw [e5, if_neg (nI_ge (show s + i < n by omega) (by omega)), hBp.ld (by omega), Option.bind_some, (by_C _ hb).2.2.1, hdd, Option.bind_some, if_neg (by decide), Option.bind_some, sS_1e, p10, nI_1]
    by_cases z : i + 1 ≤ 4
    · have hv := vl_le (B := B) (s := s) i (fun k x y => hd k x (by omega))
      have hp : 10 ^ i ≤ 10 ^ 4 := Nat.pow_le_pow_right (by decide) (by omega)
      rw [if_neg (show ¬ (4 : Int32) < nI (i + 1) from nI_nlt (a := 4) (by omega) (by decide)), show ldO 600 ((sS p 10 (nI (i + 1))).2 4) (nI (s + i)) = some (sb (B (s + i))) from hBp.ld (by omega), Option.bind_some, show (sS p 10 (nI (i + 1))).1 11 = nI (vlN B s i) from p11 (by omega), hs, show (10 : Int32) = nI 10 from rfl, show (48 : Int32) = nI 48 from rfl, pk_mul, nI_add, pk_sub (by omega), Option.bind_some, Option.bind_some, Option.bind_some, nI_1]
      refine ⟨_, rfl, rfl, rfl, rfl, fun _ => ?_, ((hf.trans (Fr.sS p 10 _ (by decide))).trans (Fr.sS _ 11 _ (by decide))).trans (Fr.sS _ 9 _ (by decide))⟩
      show nI (vlN B s i * 10 + B (s + i) - 48) = nI (10 * vlN B s i + (B (s + i) - 48))
      congr 1
      omega
    · rw [if_pos (show (4 : Int32) < nI (i + 1) from nI_lt (a := 4) (by omega) (by omega)), Option.bind_some, Option.bind_some, nI_1]
      exact ⟨_, rfl, rfl, rfl, rfl, fun y => absurd y z, (hf.trans (Fr.sS p 10 _ (by decide))).trans (Fr.sS _ 9 _ (by decide))⟩) (by
    rintro ⟨_, p⟩ ⟨rfl, p9, p10, p11, hf⟩
    dsimp only at p9 p10 p11 hf
    rw [show s + (e - s) = e by omega] at p9
    refine ⟨p, ?_, p9, p10, p11, hf⟩
    have hBp := hB.fr hf
    have e5 : p.1 5 = nI n := (hf.1 5 (by decide)).trans h5
    unfold f6_readNumber_L3
    dsimp only
    rw [e5, show s + (e - s) = e by omega]
    by_cases z : e < n
    · rw [if_neg (nI_ge z (by omega)), hBp.ld z, Option.bind_some, (by_C _ (hB.2 e z).1).2.2.1, hd2 z, Option.bind_some, if_pos zB_f]
    · rw [if_pos (by rw [show e = n by omega]; exact Int32.le_refl _)]) ⟨rfl, h9, rfl, fun _ => rfl, (Fr.sS st 10 0 (by decide)).trans (Fr.sS _ 11 0 (by decide))⟩
  refine ⟨sS q 7 2, ?_, rfl, q2, q3, q4, (q5.mono (by decide) (by decide)).trans (Fr.sS q 7 2 (by decide))⟩
  unfold f6_readNumber
  rw [Option.bind_some, Option.bind_some, show (sS (sS st 10 0) 11 0).1 8 = nI s from h8, q1, Option.bind_some, Option.bind_some]
theorem C_accept (hB : ByC n B sr) (h5 : sr.1 5 = nI n) (h6 : sr.1 6 = 0) (h9 : sr.1 9 = nI a) (hT : TokP n B a L) : ∃ sr', f6_accept sr = some sr' ∧ LxC n B L sr' ∧ Fr [7, 8, 9, 10, 11] [] sr sr' := by
  have hn := hB.1
  obtain ⟨h1, h2, h3, h4, hK⟩ := hT
  obtain ⟨s, e, c, v⟩ := L
  dsimp only at h1 h2 h3 h4 hK
  have hb := C_blanks hB h5 h1 h2 h3 h4
  have f7 : Fr [7, 8, 9, 10, 11] [] sr (sS (sS sr 8 (nI s)) 9 (nI s)) := (Fr.sS sr 8 _ (by decide)).trans (Fr.sS _ 9 _ (by decide))
  have hB7 := hB.fr f7
  have e5 : (sS (sS sr 8 (nI s)) 9 (nI s)).1 5 = nI n := h5
  have e6 : (sS (sS sr 8 (nI s)) 9 (nI s)).1 6 = 0 := h6
  have e8 : (sS (sS sr 8 (nI s)) 9 (nI s)).1 8 = nI s := rfl
  have e9 : (sS (sS sr 8 (nI s)) 9 (nI s)).1 9 = nI s := rfl
  unfold f6_accept
  rw [h6, if_pos rfl, h9, Option.bind_some, show (sS sr 8 (nI a)).1 9 = nI a from h9, hb, Option.bind_some, sS_1e, Option.bind_some]
  generalize sS (sS sr 8 (nI s)) 9 (nI s) = s7 at *
  rw [e8, e5]
  rcases hK with ⟨a1, a2, a3⟩ | ⟨a1, a2, a3, a4, a5⟩ | ⟨a1, a2, a3, a4, a5, a6, a7⟩ | ⟨a1, a2, a3, a4, a5⟩
  · rw [if_neg (nI_nlt (by omega) (by omega)), Option.bind_some, Option.bind_some]
    refine ⟨_, rfl, ⟨hB7.fr (Fr.sS (S := [7]) s7 7 0 (by decide)), e5, e6, ?_, e8, ?_, fun z => ?_⟩, f7.trans (Fr.sS s7 7 0 (by decide))⟩
    · rw [a3]; rfl
    · rw [a2]; exact e9
    · rw [a3] at z; cases z
  · have hb0 := hB.2 s (by omega)
    rw [if_pos (nI_lt (by omega) (by omega)), hB7.ld (by omega), Option.bind_some, (by_C _ hb0.1).2.1, a3 s (by omega) a1, Option.bind_some, if_neg (by decide)]
    obtain ⟨st', w1, w2, w3, w4⟩ := C_readWord hB7 e5 e8 e9 (by omega) a2 a3 a4
    rw [w1, Option.bind_some, Option.bind_some]
    refine ⟨_, rfl, ⟨hB7.fr w4, (w4.1 5 (by decide)).trans e5, (w4.1 6 (by decide)).trans e6, ?_, (w4.1 8 (by decide)).trans e8, w3, fun z => ?_⟩, f7.trans (w4.mono (by decide) (by decide))⟩
    · rw [w2]; exact congrArg nI a5.symm
    · have := wd_bd (B := B) (s := s) (e := e)
      have z : c = 2 := z
      have a5 : c = wdN B s e 16 := a5
      omega
  · have hb0 := hB.2 s (by omega)
    rw [if_pos (nI_lt (by omega) (by omega)), hB7.ld (by omega), Option.bind_some, (by_C _ hb0.1).2.1, a3, Option.bind_some, if_pos zB_f, Option.bind_some, (by_C _ hb0.1).2.2.1, a4 s (by omega) a1, Option.bind_some, if_neg (by decide)]
    obtain ⟨st', w1, w2, w3, w4, w5, w6⟩ := C_readNumber hB7 e5 e8 e9 (by omega) a2 a4 a5
    rw [w1, Option.bind_some, Option.bind_some]
    refine ⟨_, rfl, ⟨hB7.fr w6, (w6.1 5 (by decide)).trans e5, (w6.1 6 (by decide)).trans e6, ?_, (w6.1 8 (by decide)).trans e8, w3, fun z => ⟨w4, fun y => ?_⟩⟩, f7.trans (w6.mono (by decide) (by decide))⟩
    · rw [w2]; exact congrArg nI a6.symm
    · rw [w5 y]; exact congrArg nI a7.symm
  · have hb0 := hB.2 s a1
    have f8 : Fr [9] [] s7 (sS s7 9 (nI s + 1)) := Fr.sS s7 9 _ (by decide)
    have h88 : (sS s7 9 (nI s + 1)).1 8 = nI s := e8
    rw [if_pos (nI_lt (by omega) (by omega)), hB7.ld (by omega), Option.bind_some, (by_C _ hb0.1).2.1, a3, Option.bind_some, if_pos zB_f, Option.bind_some, (by_C _ hb0.1).2.2.1, a4, Option.bind_some, if_pos zB_f, Option.bind_some, h88, (hB7.fr f8).ld a1, Option.bind_some, (by_C _ hb0.1).2.2.2, Option.bind_some]
    have ek : (if zB (sgnB (B s)) = 0 then some 1 else (some (sb (B s))).bind fun q17 => some q17 : Option Int32) = some (nI c) := by
      have a5 : c = if sgnB (B s) = true then B s else 1 := a5
      rw [a5]
      cases hs : sgnB (B s) with
      | false => rw [if_pos zB_f, if_neg (by decide)]; rfl
      | true => rw [if_neg (by decide), if_pos rfl, Option.bind_some, by_e _ hb0.1 (by rw [hs]; simp)]
    rw [ek, Option.bind_some, Option.bind_some, Option.bind_some]
    refine ⟨_, rfl, ⟨(hB7.fr f8).fr (Fr.sS (S := [7]) _ 7 _ (by decide)), e5, e6, rfl, e8, ?_, fun z => ?_⟩, (f7.trans (f8.mono (by decide) (by decide))).trans (Fr.sS _ 7 _ (by decide))⟩
    · show nI s + 1 = nI e
      rw [a2, nI_1]
    · have z : c = 2 := z
      have a5 : c = if sgnB (B s) = true then B s else 1 := a5
      rw [z] at a5
      cases hs : sgnB (B s) with
      | false => rw [hs, if_neg (by decide)] at a5; omega
      | true => rw [hs, if_pos rfl] at a5; rw [← a5] at hs; cases hs
end
