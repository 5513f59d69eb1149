/-! the acts that are kept -/
def RcP (h : HSt) : Prop := (∀ i, i < 40 → h.2.1 i < 40) ∧ ∀ i j, i < 40 → j < 40 → h.2.1 i = h.2.1 j → i = j
def RcH (k : Nat) (hs : Nat → TW) (h : HSt) : Prop := k ≤ 40 ∧ h.1 0 = nI k ∧ RcP h ∧ ∀ i, i < k → RcT (hs i) (h.2.2 (h.2.1 i))
def RmH (k : Nat) (hs : Nat → TW) (m : St) : Prop := m.1 31 = nI k ∧ ∀ i, i < k → PK (hs i) (m.2 27) (43 * i)
def kpN (k : Nat) : Nat := if k < 40 then k + 1 else 40
def kpH (k : Nat) (hs : Nat → TW) (T : TW) (i : Nat) : TW := if k < 40 then (if i = k then T else hs i) else if i = 39 then T else hs (i + 1)
theorem sH_1 (σ : HSt) (v : Int32) : (sH σ 0 v).1 0 = v := rfl
theorem sP_2 (σ : HSt) (i q : Nat) (j : Nat) : (sP σ i q).2.1 j = if j = i then q else σ.2.1 j := rfl
theorem sT_2 (σ : HSt) (q : Nat) (t : St) (j : Nat) : (sT σ q t).2.2 j = if j = q then t else σ.2.2 j := rfl
section
variable {T : TW} {t m : St} {h h2 : HSt} {k : Nat} {hs : Nat → TW}
theorem C_dropOldest (hP : RcP h) : ∃ h', f3_dropOldest h = some h' ∧ h'.1 0 = nI 39 ∧ RcP h' ∧ (∀ i, i < 39 → h'.2.1 i = h.2.1 (i + 1)) ∧ h'.2.2 = h.2.2 := by
  obtain ⟨q, h1, h2, h3, h4⟩ := lpw_R (F := f3_dropOldest_L3) (fun i s => s.1 = nI (i + 1) ∧ s.2.1 = h.1 ∧ s.2.2.2 = h.2.2 ∧ ∀ j, s.2.2.1 j = if j < i then h.2.1 (j + 1) else h.2.1 j) (fun q => q.1 = h.1 ∧ q.2.2 = h.2.2 ∧ ∀ j, q.2.1 j = if j < 39 then h.2.1 (j + 1) else h.2.1 j) 39 (s := (1, h)) (by
    rintro i ⟨j, q⟩ hi ⟨rfl, a1, a2, a3⟩
    dsimp only at a1 a2 a3
    unfold f3_dropOldest_L3
    dsimp only
    have e : q.2.1 (i + 1) = h.2.1 (i + 1) := by rw [a3, if_neg (by omega)]
    rw [if_neg (show ¬ (40 : Int32) ≤ nI (i + 1) from nI_ge (a := i + 1) (b := 40) (by omega) (by decide)), ckO_n (by omega) (by decide), Option.bind_some, e, bdO_n (hP.1 _ (by omega)), Option.bind_some, nI_pred, ckO_n (by omega) (by decide), Option.bind_some, Option.bind_some, nI_1]
    refine ⟨_, rfl, rfl, a1, a2, fun j => ?_⟩
    rw [sP_2, a3]
    by_cases z : j = i
    · subst z; rw [if_pos rfl, if_pos (by omega)]
    · rw [if_neg z]
      by_cases z2 : j < i
      · rw [if_pos z2, if_pos (by omega)]
      · rw [if_neg z2, if_neg (by omega)]) (by
    rintro ⟨j, q⟩ ⟨rfl, a1, a2, a3⟩
    exact ⟨q, if_pos (Int32.le_refl _), a1, a2, a3⟩) ⟨rfl, rfl, rfl, fun j => by rw [if_neg (Nat.not_lt_zero j)]⟩
  have hm : ∀ j, (sH (sP q 39 (h.2.1 0)) 0 39).2.1 j = if j = 39 then h.2.1 0 else if j < 39 then h.2.1 (j + 1) else h.2.1 j := fun j => by
    show (sP q 39 (h.2.1 0)).2.1 j = _
    rw [sP_2, h4]
  refine ⟨sH (sP q 39 (h.2.1 0)) 0 39, ?_, rfl, ⟨fun i hi => ?_, fun i j hi hj e => ?_⟩, fun i hi => ?_, h3⟩
  · unfold f3_dropOldest
    rw [show ckO 40 (0 : Int32) = some 0 from ckO_n (i := 0) (by decide) (by decide), Option.bind_some, bdO_n (hP.1 _ (by decide)), Option.bind_some, h1, Option.bind_some, show ckO 40 (39 : Int32) = some 39 from ckO_n (i := 39) (by decide) (by decide), Option.bind_some, Option.bind_some, Option.bind_some]
  · rw [hm]
    split
    · exact hP.1 _ (by decide)
    · split
      · exact hP.1 _ (by omega)
      · exact hP.1 _ hi
  · rw [hm, hm] at e
    by_cases i1 : i = 39
    · by_cases j1 : j = 39
      · omega
      · rw [if_pos i1, if_neg j1, if_pos (by omega)] at e
        have := hP.2 _ _ (by decide) (by omega) e
        omega
    · by_cases j1 : j = 39
      · rw [if_neg i1, if_pos j1, if_pos (by omega)] at e
        have := hP.2 _ _ (by omega) (by decide) e
        omega
      · rw [if_neg i1, if_neg j1, if_pos (by omega), if_pos (by omega)] at e
        have := hP.2 _ _ (by omega) (by omega) e
        omega
  · rw [hm, if_neg (by omega), if_pos hi]
theorem C_keep (hR : RcH k hs h) (hT : RcT T t) : ∃ h', f3_keep h t = some h' ∧ RcH (kpN k) (kpH k hs T) h' := by
  obtain ⟨hk, h0, hP, hI⟩ := hR
  have push : ∀ (q : HSt) (n : Nat) (gs : Nat → TW), n < 40 → q.1 0 = nI n → RcP q → (∀ i, i < n → RcT (gs i) (q.2.2 (q.2.1 i))) → ∃ h', ((ckO 40 (q.1 0)).bind fun q3 => (bdO 40 (q.2.1 q3)).bind fun q4 => (f9_copyFrom (q.2.2 q4) t).bind fun q5 => (some (sT q q4 q5)).bind fun s6 => (some (sH s6 0 ((s6.1 0) + 1))).bind fun s7 => some s7) = some h' ∧ RcH (n + 1) (fun i => if i = n then T else gs i) h' := by
    intro q n gs hn e0 hq hg
    obtain ⟨t', h1, h2⟩ := C_copyFrom (q.2.2 (q.2.1 n)) t
    rw [e0, ckO_n hn (by decide), Option.bind_some, bdO_n (hq.1 n hn), Option.bind_some, h1, Option.bind_some, Option.bind_some, Option.bind_some]
    refine ⟨_, rfl, by omega, ?_, hq, fun i hi => ?_⟩
    · show q.1 0 + 1 = _
      rw [e0, nI_1]
    · show RcT (if i = n then T else gs i) (if q.2.1 i = q.2.1 n then t' else q.2.2 (q.2.1 i))
      by_cases z : i = n
      · rw [if_pos z, if_pos (by rw [z])]; exact h2 T hT
      · rw [if_neg z, if_neg (fun e => z (hq.2 i n (by omega) hn e))]; exact hg i (by omega)
  unfold f3_keep
  rw [h0]
  by_cases h40 : k < 40
  · rw [if_pos (show nI k < 40 from nI_lt h40 (by decide)), Option.bind_some]
    obtain ⟨h', h1, h2⟩ := push h k hs h40 h0 hP hI
    refine ⟨h', h1, ?_⟩
    have e1 : kpN k = k + 1 := if_pos h40
    have e2 : kpH k hs T = fun i => if i = k then T else hs i := funext fun i => if_pos h40
    rw [e1, e2]
    exact h2
  · obtain ⟨q, h1, h2, h3, h4, h5⟩ := C_dropOldest hP
    rw [if_neg (show ¬ nI k < 40 from nI_nlt (b := 40) (by omega) (by omega)), h1, Option.bind_some, Option.bind_some]
    obtain ⟨h', h6, h7⟩ := push q 39 (fun i => hs (i + 1)) (by decide) h2 h3 (fun i hi => by rw [h4 i hi, h5]; exact hI (i + 1) (by omega))
    refine ⟨h', h6, ?_⟩
    have e1 : kpN k = 39 + 1 := if_neg h40
    have e2 : kpH k hs T = fun i => if i = 39 then T else hs (i + 1) := funext fun i => if_neg h40
    rw [e1, e2]
    exact h7
theorem C_takeBack (hR : RcH (k + 1) hs h) (t : St) : ∃ h' t', f3_takeBack h t = some (h', t') ∧ RcH k hs h' ∧ RcT (hs k) t' := by
  obtain ⟨hk, h0, hP, hI⟩ := hR
  obtain ⟨t', h1, h2⟩ := C_copyFrom t (h.2.2 (h.2.1 k))
  refine ⟨sH h 0 (nI k), t', ?_, ⟨by omega, rfl, hP, fun i hi => hI i (by omega)⟩, h2 _ (hI k (by omega))⟩
  unfold f3_takeBack
  rw [h0, if_neg (nI_nle (by omega) (by omega)), Option.bind_some, sH_1, nI_pred, ckO_n (by omega) (by decide), Option.bind_some]
  show ((bdO 40 (h.2.1 k)).bind fun q4 => (f9_copyFrom t (h.2.2 q4)).bind fun q5 => some (sH h 0 (nI k), q5)).bind (fun q1 => some (q1.1, q1.2)) = _
  rw [bdO_n (hP.1 k (by omega)), Option.bind_some, h1, Option.bind_some, Option.bind_some]
theorem C_histCopy (hP : RcP h) (hR : RcH k hs h2) : ∃ h', f3_copyFrom h h2 = some h' ∧ RcH k hs h' := by
  obtain ⟨hk, h0, hP2, hI⟩ := hR
  obtain ⟨q, h1, h3⟩ := lpw_R (F := f3_copyFrom_L2 h2) (fun i s => s.1 = nI i ∧ s.2.1 0 = nI k ∧ s.2.2.1 = h.2.1 ∧ ∀ j, j < i → RcT (hs j) (s.2.2.2 (h.2.1 j))) (fun q => q.1 0 = nI k ∧ q.2.1 = h.2.1 ∧ ∀ j, j < k → RcT (hs j) (q.2.2 (h.2.1 j))) k (s := (0, sH h 0 (nI k))) (by
    rintro i ⟨j, q⟩ hi ⟨rfl, a1, a2, a3⟩
    dsimp only at a1 a2 a3
    obtain ⟨t', h4, h5⟩ := C_copyFrom (q.2.2 (h.2.1 i)) (h2.2.2 (h2.2.1 i))
    unfold f3_copyFrom_L2
    dsimp only
    rw [a1, if_neg (nI_ge hi (by omega)), ckO_n (by omega) (by decide), Option.bind_some, a2, bdO_n (hP.1 i (by omega)), Option.bind_some, Option.bind_some, bdO_n (hP2.1 i (by omega)), Option.bind_some, h4, Option.bind_some, Option.bind_some, nI_1]
    refine ⟨_, rfl, rfl, a1, a2, fun j hj => ?_⟩
    rw [sT_2]
    by_cases z : j = i
    · subst z; rw [if_pos rfl]; exact h5 _ (hI j (by omega))
    · rw [if_neg (fun e => z (hP.2 j i (by omega) (by omega) e))]; exact a3 j (by omega)) (by
    rintro ⟨j, q⟩ ⟨rfl, a1, a2, a3⟩
    refine ⟨q, ?_, a1, a2, a3⟩
    unfold f3_copyFrom_L2
    dsimp only
    rw [a1, if_pos (Int32.le_refl _)]) ⟨rfl, rfl, rfl, fun j hj => absurd hj (Nat.not_lt_zero j)⟩
  refine ⟨q, ?_, hk, h3.1, ⟨by rw [h3.2.1]; exact hP.1, by rw [h3.2.1]; exact hP.2⟩, fun i hi => by rw [h3.2.1]; exact h3.2.2 i hi⟩
  unfold f3_copyFrom
  rw [Option.bind_some, h0, h1, Option.bind_some]
theorem M_keep (hT : RmT T m) (hk : k ≤ 40) (hR : RmH k hs m) (hW : ∀ i, i < k → (hs i).L ≤ 12 ∧ (hs i).H ≤ 8) : ∃ m', f11_keep m = some m' ∧ RmH (kpN k) (kpH k hs T) m' ∧ Fr [31] [27] m m' := by
  obtain ⟨h0, hI⟩ := hR
  have push : ∀ (q : St) (n : Nat) (gs : Nat → TW), n < 40 → RmT T q → Fr [31] [27] m q → q.1 31 = nI n → (∀ i, i < n → PK (gs i) (q.2 27) (43 * i)) → (∀ i, i < n → (gs i).L ≤ 12 ∧ (gs i).H ≤ 8) → ∃ m', ((f11_pack_27 q ((43 : Int32) * (q.1 31))).bind fun q7 => (some (sS q7 31 ((q7.1 31) + 1))).bind fun s8 => some s8) = some m' ∧ RmH (n + 1) (fun i => if i = n then T else gs i) m' ∧ Fr [31] [27] m m' := by
    intro q n gs hn hq hf e0 hg hw
    obtain ⟨f, h1, h2, h3⟩ := M_pack_27 hq (b := 43 * n) (by omega)
    rw [e0, show (43 : Int32) = nI 43 from rfl, pk_mul, h1, Option.bind_some, Option.bind_some, sA_1, e0, nI_1]
    refine ⟨_, rfl, ⟨rfl, fun i hi => ?_⟩, hf.trans ((Fr.sA q 27 f (by decide)).trans (Fr.sS _ 31 _ (by decide)))⟩
    show PK (if i = n then T else gs i) f (43 * i)
    by_cases z : i = n
    · rw [if_pos z, z]; exact h2
    · rw [if_neg z]
      exact (hg i (by omega)).cong (hw i (by omega)).1 (hw i (by omega)).2 (fun j hj => h3 _ (by omega))
  unfold f11_keep
  rw [h0]
  by_cases h40 : k < 40
  · rw [if_neg (show ¬ nI k = 40 from fun z => by have := (nI_eq (a := k) (b := 40) (by omega) (by decide)).1 z; omega), Option.bind_some]
    obtain ⟨h', h1, h2, h3⟩ := push m k hs h40 hT (Fr.refl _ _ _) h0 hI hW
    refine ⟨h', h1, ?_, h3⟩
    have e1 : kpN k = k + 1 := if_pos h40
    have e2 : kpH k hs T = fun i => if i = k then T else hs i := funext fun i => if_pos h40
    rw [e1, e2]
    exact h2
  · obtain ⟨q, h1, h2⟩ := lpw_R (F := f11_keep_L2) (fun i s => s.1 = nI (43 + i) ∧ ∃ f, s.2 = sA m 27 f ∧ ∀ j, f j = if j < i then m.2 27 (j + 43) else m.2 27 j) (fun q => ∃ f, q = sA m 27 f ∧ ∀ j, j < 1677 → f j = m.2 27 (j + 43)) 1677 (s := (43, m)) (by
      rintro i ⟨j, _⟩ hi ⟨rfl, f, rfl, a1⟩
      unfold f11_keep_L2
      dsimp only
      rw [if_neg (show ¬ (1720 : Int32) ≤ nI (43 + i) from nI_ge (a := 43 + i) (b := 1720) (by omega) (by decide)), sA_2e, ldO_n _ (by omega) (by decide), Option.bind_some, show (43 : Int32) = nI 43 from rfl, pk_sub (by omega), show 43 + i - 43 = i by omega, stS_n _ _ _ (by omega) (by decide), Option.bind_some, sA_2e, sA_sA, nI_1]
      refine ⟨_, rfl, rfl, _, rfl, fun j => ?_⟩
      by_cases z : j = i
      · subst z; rw [upd_e, a1, if_neg (by omega), if_pos (by omega), Nat.add_comm]
      · rw [upd_n _ _ z, a1]
        by_cases z2 : j < i
        · rw [if_pos z2, if_pos (by omega)]
        · rw [if_neg z2, if_neg (by omega)]) (by
      rintro ⟨j, _⟩ ⟨rfl, f, rfl, a1⟩
      exact ⟨_, if_pos (Int32.le_refl _), f, rfl, fun j hj => by rw [a1, if_pos hj]⟩) ⟨rfl, m.2 27, (sA_self m 27).symm, fun j => by rw [if_neg (Nat.not_lt_zero j)]⟩
    obtain ⟨f, rfl, h3⟩ := h2
    have e40 : k = 40 := by omega
    rw [if_pos (by rw [e40]; rfl), h1, Option.bind_some, Option.bind_some, Option.bind_some, sA_1, h0, e40, show nI 40 - 1 = nI 39 from by decide +kernel]
    obtain ⟨h', h6, h7, h8⟩ := push (sS (sA m 27 f) 31 (nI 39)) 39 (fun i => hs (i + 1)) (by decide) (hT.fr ((Fr.sA (S := [31]) (A := [27]) m 27 f (by decide)).trans (Fr.sS _ 31 _ (by decide)))) ((Fr.sA m 27 f (by decide)).trans (Fr.sS _ 31 _ (by decide))) rfl (fun i hi => by
      refine (hI (i + 1) (by omega)).cong (hW (i + 1) (by omega)).1 (hW (i + 1) (by omega)).2 (fun j hj => ?_)
      show f (43 * i + j) = _
      rw [h3 _ (by omega), show 43 * i + j + 43 = 43 * (i + 1) + j by omega]) (fun i hi => hW (i + 1) (by omega))
    refine ⟨h', h6, ?_, h8⟩
    have e1 : kpN 40 = 39 + 1 := by decide
    have e2 : kpH 40 hs T = fun i => if i = 39 then T else hs (i + 1) := funext fun i => if_neg (by decide)
    rw [e1, e2]
    exact h7
end
