/-! draws, and what befalls -/
def drW (s : Int32) : Int32 := s * 1103515245 + 12345
def djW (s : Int32) : Nat := (s >>> ((16 : Int32) &&& 31)).toBitVec.toNat % 2 ^ 15
theorem dj_e (s : Int32) : (s >>> ((16 : Int32) &&& 31)) &&& 32767 = nI (djW s) := pk_and _ 15 (by decide +kernel)
theorem dj_lt (s : Int32) : djW s < 32768 := Nat.mod_lt _ (by decide)
theorem rmO_n {a n : Nat} (ha : a < 2147483648) (h0 : 0 < n) (hn : n < 2147483648) : rmO (nI a) (nI n) = some (nI (a % n)) := by
  unfold rmO
  rw [if_neg (nI_ne0 h0 hn), mod_nI ha h0 hn]
theorem jmin_n {a b : Nat} (ha : a < 2147483648) (hb : b < 2147483648) : jmin (nI a) (nI b) = nI (min a b) := by
  unfold jmin
  by_cases h : b < a
  · rw [if_pos (nI_lt h ha), Nat.min_eq_right (by omega)]
  · rw [if_neg (nI_nlt (by omega) hb), Nat.min_eq_left (by omega)]
def bfT (s : Int32) (T : TW) : Int32 × TW :=
  if T.L = 0 then (s, T) else if djW (drW (drW s)) % 5 = 0 then (drW (drW s), T.flk (djW (drW s) % T.L)) else if djW (drW (drW s)) % 5 = 1 then (drW (drW (drW s)), if djW (drW (drW (drW s))) % 10 = 0 then T.sma (djW (drW s) % T.L) else T) else if djW (drW (drW s)) % 5 = 2 then (drW (drW s), T.sOi (fun k => if k = djW (drW s) % T.L then min 99 (T.oi (djW (drW s) % T.L) + 9) else T.oi k)) else (drW (drW s), T)
section
variable {T : TW} {t m d : St}
theorem C_draw (d : St) {n : Nat} (h0 : 0 < n) (hn : n < 2147483648) : f0_draw d (nI n) = some (nI (djW (drW (d.1 0)) % n), sS d 0 (drW (d.1 0))) := by
  have := dj_lt (drW (d.1 0))
  unfold f0_draw
  rw [Option.bind_some, if_pos (show (1 : Int32) ≤ nI n from nI_le (a := 1) h0 hn), sS_1e]
  show (rmO ((drW (d.1 0) >>> ((16 : Int32) &&& 31)) &&& 32767) (nI n)).bind _ = _
  rw [dj_e, rmO_n (by omega) h0 hn]
  rfl
theorem M_draw (m : St) {n : Nat} (h0 : 0 < n) (hn : n < 2147483648) : f11_drawOf m (nI n) = some (nI (djW (drW (m.1 48)) % n), sS m 48 (drW (m.1 48))) := by
  have := dj_lt (drW (m.1 48))
  unfold f11_drawOf
  rw [Option.bind_some, sS_1e]
  show (rmO ((drW (m.1 48) >>> ((16 : Int32) &&& 31)) &&& 32767) (nI n)).bind _ = _
  rw [dj_e, rmO_n (by omega) h0 hn]
  rfl
theorem oilUp_c {x : Nat → Int32} {l v : Nat} (h : ∀ k, k < T.L → x k = nI (T.oi k)) : ∀ k, k < T.L → upd x l (nI v) k = nI (if k = l then v else T.oi k) := fun k hk => by
  by_cases e : k = l
  · rw [e, upd_e, if_pos rfl]
  · rw [upd_n _ _ e, if_neg e, h k hk]
theorem oilUp_9 (h : WfT T) {l v : Nat} (hv : v ≤ 99) : ∀ k, k < T.L → (if k = l then v else T.oi k) ≤ 99 := fun k hk => by
  have := h.oi99 hk
  split <;> omega
theorem C_befall (h : RcT T t) (d : St) : ∃ d' t', f0_befall d t = some (d', t') ∧ d'.1 0 = (bfT (d.1 0) T).1 ∧ RcT (bfT (d.1 0) T).2 t' := by
  have hL := h.W.L12
  unfold f0_befall bfT
  rw [h.eL]
  rcases Nat.eq_zero_or_pos T.L with e0 | e0
  · rw [if_pos (by rw [e0]; rfl), if_pos e0]
    exact ⟨d, t, rfl, rfl, h⟩
  · rw [if_neg (nI_ne0 e0 (by omega)), if_neg (by omega), C_draw d e0 (by omega), Option.bind_some, show (5 : Int32) = nI 5 from rfl, C_draw _ (by decide) (by decide), Option.bind_some]
    dsimp only
    rw [sS_1e, sS_sS]
    generalize hl : djW (drW (d.1 0)) % T.L = l
    have hl' : l < T.L := by rw [← hl]; exact Nat.mod_lt _ e0
    generalize hb : djW (drW (drW (d.1 0))) % 5 = b
    have hb' : b < 5 := by rw [← hb]; exact Nat.mod_lt _ (by decide)
    rw [show (0 : Int32) = nI 0 from rfl, show (1 : Int32) = nI 1 from rfl, show (2 : Int32) = nI 2 from rfl]
    simp (disch := omega) only [nI_eq]
    by_cases b0 : b = 0
    · obtain ⟨t', h1, h2⟩ := C_flickByHand h hl'
      rw [if_pos b0, if_pos b0, h1]
      exact ⟨_, _, rfl, sS_1e _ _ _, h2⟩
    · rw [if_neg b0, if_neg b0]
      by_cases b1 : b = 1
      · rw [if_pos b1, if_pos b1, show (10 : Int32) = nI 10 from rfl, C_draw _ (by decide) (by decide), Option.bind_some, sS_1e, sS_sS]
        dsimp only
        have hc' : djW (drW (drW (drW (d.1 0)))) % 10 < 10 := Nat.mod_lt _ (by decide)
        generalize hc : djW (drW (drW (drW (d.1 0)))) % 10 = c at hc'
        simp (disch := omega) only [nI_eq]
        by_cases c0 : c = 0
        · obtain ⟨t', h1, h2⟩ := C_shatter h hl'
          rw [if_pos c0, if_pos c0, h1]
          exact ⟨_, _, rfl, sS_1e _ _ _, h2⟩
        · rw [if_neg c0, if_neg c0]
          exact ⟨_, _, rfl, sS_1e _ _ _, h⟩
      · rw [if_neg b1, if_neg b1]
        by_cases b2 : b = 2
        · have ho := h.W.oi99 hl'
          rw [if_pos b2, if_pos b2, ldO_n _ (by omega) (by omega), h.eoi hl', Option.bind_some, show (9 : Int32) = nI 9 from rfl, show (99 : Int32) = nI 99 from rfl, nI_add, jmin_n (by omega) (by omega), stS_n _ _ _ (by omega) (by omega), Option.bind_some]
          exact ⟨_, _, rfl, sS_1e _ _ _, h.sOi (oilUp_c (fun k hk => h.eoi hk)) (oilUp_9 h.W (Nat.min_le_left _ _))⟩
        · rw [if_neg b2, if_neg b2]
          exact ⟨_, _, rfl, sS_1e _ _ _, h⟩
theorem M_smash (h : RmT T m) {l : Nat} (hl : l < T.L) : ∃ m', f11_smash m (nI l) = some m' ∧ RmT (T.sma l) m' ∧ Fr [29, 30] [] m m' := by
  have hL := h.W.L12
  have h1 : RmT (T.sBr (fun k => T.br k || decide (k = l))) (sS m 30 (m.1 30 ||| ((1 : Int32) <<< (nI l &&& 31)))) := h.sBr (h.ebr.or (Bm.one hl (by omega)))
  obtain ⟨x, hx, h2⟩ := M_be h1 (show l < (T.sBr (fun k => T.br k || decide (k = l))).L from hl) false
  refine ⟨_, ?_, h2, (Fr.sS m 30 _ (by decide)).trans (Fr.sS _ 29 x (by decide))⟩
  unfold f11_smash
  rw [Option.bind_some, hx, Option.bind_some]
theorem eq_012 {b : Nat} (hb : b < 5) : ((nI b = 0) = (b = 0)) ∧ ((nI b = 1) = (b = 1)) ∧ ((nI b = 2) = (b = 2)) := by
  refine ⟨propext ?_, propext ?_, propext ?_⟩
  · exact nI_eq (b := 0) (by omega) (by decide)
  · exact nI_eq (b := 1) (by omega) (by decide)
  · exact nI_eq (b := 2) (by omega) (by decide)
theorem M_sth0 (h1 : RmT T m) {l : Nat} (hl' : l < T.L) : ∃ m', ((f11_isOf (m.1 29) (nI l)).bind fun q4 => if (zB q4) = 0 then ((f11_canBurn m (nI l)).bind fun q8 => if (zB q8) = 0 then some m else (f11_isOf (m.1 29) (nI l)).bind fun q9 => ((if (zB q9) = 0 then some true else some false : Option (Bool))).bind fun q10 => (f11_be m (nI l) q10).bind fun q11 => some q11) else (f11_isOf (m.1 29) (nI l)).bind fun q5 => ((if (zB q5) = 0 then some true else some false : Option (Bool))).bind fun q6 => (f11_be m (nI l) q6).bind fun q7 => some q7) = some m' ∧ RmT (T.flk l) m' ∧ Fr [29] [] m m' := by
  have hL := h1.W.L12
  rw [M_isOf h1.eli (by omega) hl', Option.bind_some]
  simp only [ifz]
  unfold TW.flk
  cases hli : T.li l with
  | true =>
    obtain ⟨x, hx, h2⟩ := M_be h1 hl' false
    rw [if_pos rfl, if_pos rfl, Option.bind_some, if_pos rfl, Option.bind_some, hx, Option.bind_some]
    exact ⟨_, rfl, h2, Fr.sS _ 29 x (by decide)⟩
  | false =>
    rw [if_neg (by decide), if_neg (by decide), M_canBurn h1 hl', Option.bind_some]
    cases hc : T.can l with
    | true =>
      obtain ⟨x, hx, h2⟩ := M_be h1 hl' true
      rw [if_pos rfl, if_pos rfl, Option.bind_some, if_neg (by decide), Option.bind_some, hx, Option.bind_some]
      exact ⟨_, rfl, h2, Fr.sS _ 29 x (by decide)⟩
    | false =>
      rw [if_neg (by decide), if_neg (by decide)]
      exact ⟨_, rfl, h1, Fr.refl _ _ _⟩
theorem M_sth1 (h1 : RmT T m) {l : Nat} (hl' : l < T.L) : ∃ m', ((f11_drawOf m (10 : Int32)).bind fun q13 => if q13.1 = 0 then ((f11_smash q13.2 (nI l)).bind fun q14 => some q14) else some q13.2) = some m' ∧ m'.1 48 = drW (m.1 48) ∧ RmT (if djW (drW (m.1 48)) % 10 = 0 then T.sma l else T) m' ∧ Fr [29, 30, 48] [] m m' := by
  have hc' : djW (drW (m.1 48)) % 10 < 10 := Nat.mod_lt _ (by decide)
  have h3 : RmT T (sS m 48 (drW (m.1 48))) := h1.fr (Fr.sS (S := [48]) (A := []) m 48 _ (by decide))
  have f3 : Fr [29, 30, 48] [] m (sS m 48 (drW (m.1 48))) := Fr.sS m 48 _ (by decide)
  rw [show (10 : Int32) = nI 10 from rfl, M_draw _ (by decide) (by decide), Option.bind_some]
  dsimp only
  generalize djW (drW (m.1 48)) % 10 = c at hc' ⊢
  have e : (nI c = 0) = (c = 0) := propext (nI_eq (b := 0) (by omega) (by decide))
  simp only [e]
  by_cases c0 : c = 0
  · obtain ⟨m', h4, h5, h6⟩ := M_smash h3 hl'
    rw [if_pos c0, if_pos c0, h4, Option.bind_some]
    exact ⟨_, rfl, (h6.1 48 (by decide)).trans (sS_1e _ _ _), h5, f3.trans (h6.mono (by decide) (by decide))⟩
  · rw [if_neg c0, if_neg c0]
    exact ⟨_, rfl, sS_1e _ _ _, h3, f3⟩
theorem M_sth2 (h1 : RmT T m) {l : Nat} (hl' : l < T.L) : ∃ m', ((ldO 12 (m.2 23) (nI l)).bind fun q16 => (stS 12 m 23 (nI l) (jmin (99 : Int32) (q16 + 9))).bind fun s17 => some s17) = some m' ∧ RmT (T.sOi (fun k => if k = l then min 99 (T.oi l + 9) else T.oi k)) m' ∧ Fr [] [23] m m' := by
  have hL := h1.W.L12
  have ho := h1.W.oi99 hl'
  rw [ldO_n _ (by omega) (by omega), h1.eoi hl', Option.bind_some, show (9 : Int32) = nI 9 from rfl, show (99 : Int32) = nI 99 from rfl, nI_add, jmin_n (by omega) (by omega), stS_n _ _ _ (by omega) (by omega), Option.bind_some]
  exact ⟨_, rfl, h1.sOi (oilUp_c (fun k hk => h1.eoi hk)) (oilUp_9 h1.W (Nat.min_le_left _ _)), Fr.sA _ 23 _ (by decide)⟩
theorem M_something (h : RmT T m) : ∃ m', f11_something m = some m' ∧ m'.1 48 = (bfT (m.1 48) T).1 ∧ RmT (bfT (m.1 48) T).2 m' ∧ Fr [29, 30, 48] [23] m m' := by
  have hL := h.W.L12
  unfold f11_something bfT
  rw [cl_1, h.eL]
  rcases Nat.eq_zero_or_pos T.L with e0 | e0
  · rw [if_pos (by rw [e0]; rfl), if_pos e0]
    exact ⟨m, rfl, rfl, h, Fr.refl _ _ _⟩
  · rw [if_neg (nI_ne0 e0 (by omega)), if_neg (by omega), M_draw m e0 (by omega), Option.bind_some, show (5 : Int32) = nI 5 from rfl, M_draw _ (by decide) (by decide), Option.bind_some]
    dsimp only
    rw [sS_1e, sS_sS]
    generalize hl : djW (drW (m.1 48)) % T.L = l
    have hl' : l < T.L := by rw [← hl]; exact Nat.mod_lt _ e0
    generalize hb : djW (drW (drW (m.1 48))) % 5 = b
    have hb' : b < 5 := by rw [← hb]; exact Nat.mod_lt _ (by decide)
    have h1 : RmT T (sS m 48 (drW (drW (m.1 48)))) := h.fr (Fr.sS (S := [48]) (A := []) m 48 _ (by decide))
    have f1 : Fr [29, 30, 48] [23] m (sS m 48 (drW (drW (m.1 48)))) := Fr.sS m 48 _ (by decide)
    have e48 : (sS m 48 (drW (drW (m.1 48)))).1 48 = drW (drW (m.1 48)) := sS_1e _ _ _
    generalize sS m 48 (drW (drW (m.1 48))) = q at h1 f1 e48 ⊢
    obtain ⟨g0, g1, g2⟩ := eq_012 hb'
    simp only [g0, g1, g2]
    by_cases b0 : b = 0
    · have b1 : ¬ b = 1 := by omega
      have b2 : ¬ b = 2 := by omega
      obtain ⟨m', h4, h5, h6⟩ := M_sth0 h1 hl'
      simp only [if_pos b0, if_neg b1, if_neg b2]
      rw [h4]
      exact ⟨m', rfl, (h6.1 48 (by decide)).trans e48, h5, f1.trans (h6.mono (by decide) (by decide))⟩
    · by_cases b1 : b = 1
      · have b2 : ¬ b = 2 := by omega
        obtain ⟨m', h4, h5, h6, h7⟩ := M_sth1 h1 hl'
        simp only [if_neg b0, if_pos b1, if_neg b2]
        rw [Option.bind_some, h4]
        rw [e48] at h5 h6
        exact ⟨m', rfl, h5, h6, f1.trans (h7.mono (by decide) (by decide))⟩
      · by_cases b2 : b = 2
        · obtain ⟨m', h4, h5, h6⟩ := M_sth2 h1 hl'
          simp only [if_neg b0, if_neg b1, if_pos b2]
          rw [Option.bind_some, Option.bind_some, h4]
          exact ⟨m', rfl, (h6.1 48 (by decide)).trans e48, h5, f1.trans (h6.mono (by decide) (by decide))⟩
        · simp only [if_neg b0, if_neg b1, if_neg b2]
          rw [Option.bind_some, Option.bind_some, Option.bind_some]
          exact ⟨q, rfl, e48, h1, f1⟩
/-! what is kept: lit ones have oil, twins burn both or neither -/
theorem LiO_put (h : LiO T) (l : Nat) : LiO (T.put l) := put_ok h l
theorem LiO_flk (h : LiO T) (l : Nat) : LiO (T.flk l) := by
  unfold TW.flk
  split
  · exact put_ok h l
  · split
    · exact lit_ok h (by assumption)
    · exact h
theorem LiO_sma (h : LiO T) (l : Nat) : LiO (T.sma l) := put_ok h l
theorem LiT_put (hW : WfT T) (h : LiT T) {l : Nat} (hl : l < T.L) : LiT (T.put l) := fun k j hk e => by
  show (T.li k && !T.cp l k) = (T.li j && !T.cp l j)
  rw [h k j hk e, cp_sym hW hl hk e]
theorem LiT_flk (hW : WfT T) (h : LiT T) {l : Nat} (hl : l < T.L) : LiT (T.flk l) := by
  unfold TW.flk
  split
  · exact LiT_put hW h hl
  · split
    · intro k j hk e
      show (T.li k || T.cp l k) = (T.li j || T.cp l j)
      rw [h k j hk e, cp_sym hW hl hk e]
    · exact h
theorem LiO_bf (h : LiO T) (s : Int32) : LiO (bfT s T).2 := by
  unfold bfT
  split
  · exact h
  · split
    · exact LiO_flk h _
    · split
      · dsimp only
        split
        · exact LiO_sma h _
        · exact h
      · split
        · intro k hk e
          have h0 := h k hk e
          show 0 < (if k = djW (drW s) % T.L then min 99 (T.oi (djW (drW s) % T.L) + 9) else T.oi k)
          by_cases q : k = djW (drW s) % T.L
          · rw [if_pos q]; omega
          · rw [if_neg q]; exact h0
        · exact h
theorem bf_st (s : Int32) : (bfT s T).2.H = T.H ∧ (bfT s T).2.L = T.L ∧ (bfT s T).2.ki = T.ki ∧ (bfT s T).2.tw = T.tw ∧ (bfT s T).2.o = T.o ∧ (bfT s T).2.ho = T.ho := by
  unfold bfT TW.flk
  repeat' split
  all_goals exact ⟨rfl, rfl, rfl, rfl, rfl, rfl⟩
end
