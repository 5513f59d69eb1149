/-! simple questions -/
section
variable {m : St}
theorem M_copyTo_53_27 (m : St) : ∃ f, f11_copyTo_53_27 m = some (sA m 53 f) ∧ ∀ j, j < 1720 → f j = m.2 27 j := by
  obtain ⟨q, h1, f, rfl, h2⟩ := lpw_R (F := f11_copyTo_53_27_L1) (fun i s => s.1 = nI i ∧ ∃ f, s.2 = sA m 53 f ∧ ∀ j, j < i → f j = m.2 27 j) (fun q => ∃ f, q = sA m 53 f ∧ ∀ j, j < 1720 → f j = m.2 27 j) 1720 (s := (0, m)) (by
    rintro i ⟨j, _⟩ hi ⟨rfl, f, rfl, a1⟩
    unfold f11_copyTo_53_27_L1
    dsimp only
    rw [if_neg (show ¬ (1720 : Int32) ≤ nI i from nI_ge hi (by decide)), sA_2n (j := 27) (k := 53) _ _ (by decide), ldO_n _ hi (by decide), Option.bind_some, stS_n _ _ _ hi (by decide), Option.bind_some, sA_2e, sA_sA, nI_1]
    refine ⟨_, rfl, rfl, _, rfl, fun j hj => ?_⟩
    by_cases e : j = i
    · rw [e, upd_e]
    · rw [upd_n _ _ e]; exact a1 j (by omega)) (by
    rintro ⟨j, _⟩ ⟨rfl, f, rfl, a1⟩
    exact ⟨_, if_pos (Int32.le_refl _), f, rfl, a1⟩) ⟨rfl, m.2 53, (sA_self m 53).symm, fun j hj => absurd hj (Nat.not_lt_zero j)⟩
  refine ⟨f, ?_, h2⟩
  unfold f11_copyTo_53_27
  rw [h1]
  rfl
theorem M_copyTo_27_53 (m : St) : ∃ f, f11_copyTo_27_53 m = some (sA m 27 f) ∧ ∀ j, j < 1720 → f j = m.2 53 j := by
  obtain ⟨q, h1, f, rfl, h2⟩ := lpw_R (F := f11_copyTo_27_53_L1) (fun i s => s.1 = nI i ∧ ∃ f, s.2 = sA m 27 f ∧ ∀ j, j < i → f j = m.2 53 j) (fun q => ∃ f, q = sA m 27 f ∧ ∀ j, j < 1720 → f j = m.2 53 j) 1720 (s := (0, m)) (by
    rintro i ⟨j, _⟩ hi ⟨rfl, f, rfl, a1⟩
    unfold f11_copyTo_27_53_L1
    dsimp only
    rw [if_neg (show ¬ (1720 : Int32) ≤ nI i from nI_ge hi (by decide)), sA_2n (j := 53) (k := 27) _ _ (by decide), ldO_n _ hi (by decide), Option.bind_some, stS_n _ _ _ hi (by decide), Option.bind_some, sA_2e, sA_sA, nI_1]
    refine ⟨_, rfl, rfl, _, rfl, fun j hj => ?_⟩
    by_cases e : j = i
    · rw [e, upd_e]
    · rw [upd_n _ _ e]; exact a1 j (by omega)) (by
    rintro ⟨j, _⟩ ⟨rfl, f, rfl, a1⟩
    exact ⟨_, if_pos (Int32.le_refl _), f, rfl, a1⟩) ⟨rfl, m.2 27, (sA_self m 27).symm, fun j hj => absurd hj (Nat.not_lt_zero j)⟩
  refine ⟨f, ?_, h2⟩
  unfold f11_copyTo_27_53
  rw [h1]
  rfl
theorem M_copyTo_54_43 (m : St) : ∃ f, f11_copyTo_54_43 m = some (sA m 54 f) ∧ ∀ j, j < 8 → f j = m.2 43 j := by
  obtain ⟨q, h1, f, rfl, h2⟩ := lpw_R (F := f11_copyTo_54_43_L1) (fun i s => s.1 = nI i ∧ ∃ f, s.2 = sA m 54 f ∧ ∀ j, j < i → f j = m.2 43 j) (fun q => ∃ f, q = sA m 54 f ∧ ∀ j, j < 8 → f j = m.2 43 j) 8 (s := (0, m)) (by
    rintro i ⟨j, _⟩ hi ⟨rfl, f, rfl, a1⟩
    unfold f11_copyTo_54_43_L1
    dsimp only
    rw [if_neg (show ¬ (8 : Int32) ≤ nI i from nI_ge hi (by decide)), sA_2n (j := 43) (k := 54) _ _ (by decide), ldO_n _ hi (by decide), Option.bind_some, stS_n _ _ _ hi (by decide), Option.bind_some, sA_2e, sA_sA, nI_1]
    refine ⟨_, rfl, rfl, _, rfl, fun j hj => ?_⟩
    by_cases e : j = i
    · rw [e, upd_e]
    · rw [upd_n _ _ e]; exact a1 j (by omega)) (by
    rintro ⟨j, _⟩ ⟨rfl, f, rfl, a1⟩
    exact ⟨_, if_pos (Int32.le_refl _), f, rfl, a1⟩) ⟨rfl, m.2 54, (sA_self m 54).symm, fun j hj => absurd hj (Nat.not_lt_zero j)⟩
  refine ⟨f, ?_, h2⟩
  unfold f11_copyTo_54_43
  rw [h1]
  rfl
theorem M_copyTo_43_54 (m : St) : ∃ f, f11_copyTo_43_54 m = some (sA m 43 f) ∧ ∀ j, j < 8 → f j = m.2 54 j := by
  obtain ⟨q, h1, f, rfl, h2⟩ := lpw_R (F := f11_copyTo_43_54_L1) (fun i s => s.1 = nI i ∧ ∃ f, s.2 = sA m 43 f ∧ ∀ j, j < i → f j = m.2 54 j) (fun q => ∃ f, q = sA m 43 f ∧ ∀ j, j < 8 → f j = m.2 54 j) 8 (s := (0, m)) (by
    rintro i ⟨j, _⟩ hi ⟨rfl, f, rfl, a1⟩
    unfold f11_copyTo_43_54_L1
    dsimp only
    rw [if_neg (show ¬ (8 : Int32) ≤ nI i from nI_ge hi (by decide)), sA_2n (j := 54) (k := 43) _ _ (by decide), ldO_n _ hi (by decide), Option.bind_some, stS_n _ _ _ hi (by decide), Option.bind_some, sA_2e, sA_sA, nI_1]
    refine ⟨_, rfl, rfl, _, rfl, fun j hj => ?_⟩
    by_cases e : j = i
    · rw [e, upd_e]
    · rw [upd_n _ _ e]; exact a1 j (by omega)) (by
    rintro ⟨j, _⟩ ⟨rfl, f, rfl, a1⟩
    exact ⟨_, if_pos (Int32.le_refl _), f, rfl, a1⟩) ⟨rfl, m.2 43, (sA_self m 43).symm, fun j hj => absurd hj (Nat.not_lt_zero j)⟩
  refine ⟨f, ?_, h2⟩
  unfold f11_copyTo_43_54
  rw [h1]
  rfl
theorem M_copyTo_55_44 (m : St) : ∃ f, f11_copyTo_55_44 m = some (sA m 55 f) ∧ ∀ j, j < 8 → f j = m.2 44 j := by
  obtain ⟨q, h1, f, rfl, h2⟩ := lpw_R (F := f11_copyTo_55_44_L1) (fun i s => s.1 = nI i ∧ ∃ f, s.2 = sA m 55 f ∧ ∀ j, j < i → f j = m.2 44 j) (fun q => ∃ f, q = sA m 55 f ∧ ∀ j, j < 8 → f j = m.2 44 j) 8 (s := (0, m)) (by
    rintro i ⟨j, _⟩ hi ⟨rfl, f, rfl, a1⟩
    unfold f11_copyTo_55_44_L1
    dsimp only
    rw [if_neg (show ¬ (8 : Int32) ≤ nI i from nI_ge hi (by decide)), sA_2n (j := 44) (k := 55) _ _ (by decide), ldO_n _ hi (by decide), Option.bind_some, stS_n _ _ _ hi (by decide), Option.bind_some, sA_2e, sA_sA, nI_1]
    refine ⟨_, rfl, rfl, _, rfl, fun j hj => ?_⟩
    by_cases e : j = i
    · rw [e, upd_e]
    · rw [upd_n _ _ e]; exact a1 j (by omega)) (by
    rintro ⟨j, _⟩ ⟨rfl, f, rfl, a1⟩
    exact ⟨_, if_pos (Int32.le_refl _), f, rfl, a1⟩) ⟨rfl, m.2 55, (sA_self m 55).symm, fun j hj => absurd hj (Nat.not_lt_zero j)⟩
  refine ⟨f, ?_, h2⟩
  unfold f11_copyTo_55_44
  rw [h1]
  rfl
theorem M_copyTo_44_55 (m : St) : ∃ f, f11_copyTo_44_55 m = some (sA m 44 f) ∧ ∀ j, j < 8 → f j = m.2 55 j := by
  obtain ⟨q, h1, f, rfl, h2⟩ := lpw_R (F := f11_copyTo_44_55_L1) (fun i s => s.1 = nI i ∧ ∃ f, s.2 = sA m 44 f ∧ ∀ j, j < i → f j = m.2 55 j) (fun q => ∃ f, q = sA m 44 f ∧ ∀ j, j < 8 → f j = m.2 55 j) 8 (s := (0, m)) (by
    rintro i ⟨j, _⟩ hi ⟨rfl, f, rfl, a1⟩
    unfold f11_copyTo_44_55_L1
    dsimp only
    rw [if_neg (show ¬ (8 : Int32) ≤ nI i from nI_ge hi (by decide)), sA_2n (j := 55) (k := 44) _ _ (by decide), ldO_n _ hi (by decide), Option.bind_some, stS_n _ _ _ hi (by decide), Option.bind_some, sA_2e, sA_sA, nI_1]
    refine ⟨_, rfl, rfl, _, rfl, fun j hj => ?_⟩
    by_cases e : j = i
    · rw [e, upd_e]
    · rw [upd_n _ _ e]; exact a1 j (by omega)) (by
    rintro ⟨j, _⟩ ⟨rfl, f, rfl, a1⟩
    exact ⟨_, if_pos (Int32.le_refl _), f, rfl, a1⟩) ⟨rfl, m.2 44, (sA_self m 44).symm, fun j hj => absurd hj (Nat.not_lt_zero j)⟩
  refine ⟨f, ?_, h2⟩
  unfold f11_copyTo_44_55
  rw [h1]
  rfl
theorem M_copyTo_56_45 (m : St) : ∃ f, f11_copyTo_56_45 m = some (sA m 56 f) ∧ ∀ j, j < 8 → f j = m.2 45 j := by
  obtain ⟨q, h1, f, rfl, h2⟩ := lpw_R (F := f11_copyTo_56_45_L1) (fun i s => s.1 = nI i ∧ ∃ f, s.2 = sA m 56 f ∧ ∀ j, j < i → f j = m.2 45 j) (fun q => ∃ f, q = sA m 56 f ∧ ∀ j, j < 8 → f j = m.2 45 j) 8 (s := (0, m)) (by
    rintro i ⟨j, _⟩ hi ⟨rfl, f, rfl, a1⟩
    unfold f11_copyTo_56_45_L1
    dsimp only
    rw [if_neg (show ¬ (8 : Int32) ≤ nI i from nI_ge hi (by decide)), sA_2n (j := 45) (k := 56) _ _ (by decide), ldO_n _ hi (by decide), Option.bind_some, stS_n _ _ _ hi (by decide), Option.bind_some, sA_2e, sA_sA, nI_1]
    refine ⟨_, rfl, rfl, _, rfl, fun j hj => ?_⟩
    by_cases e : j = i
    · rw [e, upd_e]
    · rw [upd_n _ _ e]; exact a1 j (by omega)) (by
    rintro ⟨j, _⟩ ⟨rfl, f, rfl, a1⟩
    exact ⟨_, if_pos (Int32.le_refl _), f, rfl, a1⟩) ⟨rfl, m.2 56, (sA_self m 56).symm, fun j hj => absurd hj (Nat.not_lt_zero j)⟩
  refine ⟨f, ?_, h2⟩
  unfold f11_copyTo_56_45
  rw [h1]
  rfl
theorem M_copyTo_45_56 (m : St) : ∃ f, f11_copyTo_45_56 m = some (sA m 45 f) ∧ ∀ j, j < 8 → f j = m.2 56 j := by
  obtain ⟨q, h1, f, rfl, h2⟩ := lpw_R (F := f11_copyTo_45_56_L1) (fun i s => s.1 = nI i ∧ ∃ f, s.2 = sA m 45 f ∧ ∀ j, j < i → f j = m.2 56 j) (fun q => ∃ f, q = sA m 45 f ∧ ∀ j, j < 8 → f j = m.2 56 j) 8 (s := (0, m)) (by
    rintro i ⟨j, _⟩ hi ⟨rfl, f, rfl, a1⟩
    unfold f11_copyTo_45_56_L1
    dsimp only
    rw [if_neg (show ¬ (8 : Int32) ≤ nI i from nI_ge hi (by decide)), sA_2n (j := 56) (k := 45) _ _ (by decide), ldO_n _ hi (by decide), Option.bind_some, stS_n _ _ _ hi (by decide), Option.bind_some, sA_2e, sA_sA, nI_1]
    refine ⟨_, rfl, rfl, _, rfl, fun j hj => ?_⟩
    by_cases e : j = i
    · rw [e, upd_e]
    · rw [upd_n _ _ e]; exact a1 j (by omega)) (by
    rintro ⟨j, _⟩ ⟨rfl, f, rfl, a1⟩
    exact ⟨_, if_pos (Int32.le_refl _), f, rfl, a1⟩) ⟨rfl, m.2 45, (sA_self m 45).symm, fun j hj => absurd hj (Nat.not_lt_zero j)⟩
  refine ⟨f, ?_, h2⟩
  unfold f11_copyTo_45_56
  rw [h1]
  rfl
theorem M_copyTo_57_11 (m : St) : ∃ f, f11_copyTo_57_11 m = some (sA m 57 f) ∧ ∀ j, j < 3 → f j = m.2 11 j := by
  obtain ⟨q, h1, f, rfl, h2⟩ := lpw_R (F := f11_copyTo_57_11_L1) (fun i s => s.1 = nI i ∧ ∃ f, s.2 = sA m 57 f ∧ ∀ j, j < i → f j = m.2 11 j) (fun q => ∃ f, q = sA m 57 f ∧ ∀ j, j < 3 → f j = m.2 11 j) 3 (s := (0, m)) (by
    rintro i ⟨j, _⟩ hi ⟨rfl, f, rfl, a1⟩
    unfold f11_copyTo_57_11_L1
    dsimp only
    rw [if_neg (show ¬ (3 : Int32) ≤ nI i from nI_ge hi (by decide)), sA_2n (j := 11) (k := 57) _ _ (by decide), ldO_n _ hi (by decide), Option.bind_some, stS_n _ _ _ hi (by decide), Option.bind_some, sA_2e, sA_sA, nI_1]
    refine ⟨_, rfl, rfl, _, rfl, fun j hj => ?_⟩
    by_cases e : j = i
    · rw [e, upd_e]
    · rw [upd_n _ _ e]; exact a1 j (by omega)) (by
    rintro ⟨j, _⟩ ⟨rfl, f, rfl, a1⟩
    exact ⟨_, if_pos (Int32.le_refl _), f, rfl, a1⟩) ⟨rfl, m.2 57, (sA_self m 57).symm, fun j hj => absurd hj (Nat.not_lt_zero j)⟩
  refine ⟨f, ?_, h2⟩
  unfold f11_copyTo_57_11
  rw [h1]
  rfl
theorem M_copyTo_11_57 (m : St) : ∃ f, f11_copyTo_11_57 m = some (sA m 11 f) ∧ ∀ j, j < 3 → f j = m.2 57 j := by
  obtain ⟨q, h1, f, rfl, h2⟩ := lpw_R (F := f11_copyTo_11_57_L1) (fun i s => s.1 = nI i ∧ ∃ f, s.2 = sA m 11 f ∧ ∀ j, j < i → f j = m.2 57 j) (fun q => ∃ f, q = sA m 11 f ∧ ∀ j, j < 3 → f j = m.2 57 j) 3 (s := (0, m)) (by
    rintro i ⟨j, _⟩ hi ⟨rfl, f, rfl, a1⟩
    unfold f11_copyTo_11_57_L1
    dsimp only
    rw [if_neg (show ¬ (3 : Int32) ≤ nI i from nI_ge hi (by decide)), sA_2n (j := 57) (k := 11) _ _ (by decide), ldO_n _ hi (by decide), Option.bind_some, stS_n _ _ _ hi (by decide), Option.bind_some, sA_2e, sA_sA, nI_1]
    refine ⟨_, rfl, rfl, _, rfl, fun j hj => ?_⟩
    by_cases e : j = i
    · rw [e, upd_e]
    · rw [upd_n _ _ e]; exact a1 j (by omega)) (by
    rintro ⟨j, _⟩ ⟨rfl, f, rfl, a1⟩
    exact ⟨_, if_pos (Int32.le_refl _), f, rfl, a1⟩) ⟨rfl, m.2 11, (sA_self m 11).symm, fun j hj => absurd hj (Nat.not_lt_zero j)⟩
  refine ⟨f, ?_, h2⟩
  unfold f11_copyTo_11_57
  rw [h1]
  rfl
end
/-! the game -/
def gnF (b f x y w : Bool) : Int32 :=
  if (if f = true then (if f = true then x else y) != b else (if f = true then y else x) != (if ((if f = true then x else y) != b) = true then (if f = true then x else y) else b)) = true then
    (if ((if ((if f = true then y else x) != (if ((if f = true then x else y) != b) = true then (if f = true then x else y) else b)) = true then (if f = true then y else x) else (if f = true then x else y)) == w && (if ((if f = true then y else x) != (if ((if f = true then x else y) != b) = true then (if f = true then x else y) else b)) = true then (if f = true then y else x) else (if ((if f = true then x else y) != b) = true then (if f = true then x else y) else b)) == w) = true then 3 else 0) - 1
  else (if ((if ((if f = true then y else x) != (if ((if f = true then x else y) != b) = true then (if f = true then x else y) else b)) = true then (if f = true then y else x) else (if f = true then x else y)) == w && (if ((if f = true then y else x) != (if ((if f = true then x else y) != b) = true then (if f = true then x else y) else b)) = true then (if f = true then y else x) else (if ((if f = true then x else y) != b) = true then (if f = true then x else y) else b)) == w) = true then 3 else 0)
def rsB (b f w1 w2 x y : Bool) : Bool := !decide (gnF b f x y w1 < gnF b f (!x) y w1) && !decide (gnF b (!f) y x w2 < gnF b (!f) (!y) x w2)
def DuE (b f w1 w2 : Bool) (s : St) : Prop := s.1 0 = zB b ∧ s.1 1 = zB f ∧ s.1 2 = zB w1 ∧ s.1 3 = zB w2
theorem C_play {b f w1 w2 : Bool} {s : St} (h : DuE b f w1 w2 s) (x y : Bool) : ∃ s', f1_play s x y = some s' ∧ DuE b f w1 w2 s' ∧ s'.1 4 = gnF b f x y w1 ∧ s'.1 5 = gnF b (!f) y x w2 := by
  obtain ⟨h0, h1, h2, h3⟩ := h
  have k1 : ∀ b f x y w : Bool, (if zB (if zB f = 0 then x else y) = zB w then (3 : Int32) else 0) - zB (if zB f = 0 then (if zB (if zB f = 0 then y else x) = zB (if zB f = 0 then x else y) then false else true) else (if zB b = zB (if zB f = 0 then y else x) then false else true)) = gnF b f x y w := by decide +kernel
  have k2 : ∀ b f x y w : Bool, (if zB (if zB f = 0 then x else y) = zB w then (3 : Int32) else 0) - zB (if zB f = 0 then (if zB b = zB (if zB f = 0 then y else x) then false else true) else (if zB (if zB f = 0 then y else x) = zB (if zB f = 0 then x else y) then false else true)) = gnF b (!f) y x w := by decide +kernel
  unfold f1_play
  simp only [ifs, Option.bind_some, h0, h1, h2, sS_1n _ _ (show 3 ≠ 4 by decide), sS_1n _ _ (show 1 ≠ 4 by decide), h3]
  refine ⟨_, rfl, ⟨h0, h1, h2, h3⟩, ?_, ?_⟩
  · rw [sS_1n _ _ (show 4 ≠ 5 by decide), sS_1e]
    exact k1 b f x y w1
  · rw [sS_1e]
    exact k2 b f x y w2
theorem C_rests {b f w1 w2 : Bool} {s : St} (h : DuE b f w1 w2 s) {a c : Nat} (ha : a < 2) (hc : c < 2) : ∃ s', f1_rests s (nI a) (nI c) = some (rsB b f w1 w2 (decide (a = 1)) (decide (c = 1)), s') ∧ DuE b f w1 w2 s' := by
  have e1 : ∀ a, a < 2 → (nI a = 1) = (a = 1) := fun a ha => propext (nI_eq (b := 1) (by omega) (by decide))
  have e0 : ∀ a, a < 2 → (if nI a = 0 then some true else some false : Option Bool) = some (!decide (a = 1)) := by decide +kernel
  obtain ⟨s1, p1, q1, r1, t1⟩ := C_play h (decide (a = 1)) (decide (c = 1))
  obtain ⟨s2, p2, q2, r2, t2⟩ := C_play q1 (!decide (a = 1)) (decide (c = 1))
  obtain ⟨s3, p3, q3, r3, t3⟩ := C_play q2 (decide (a = 1)) (!decide (c = 1))
  unfold f1_rests
  simp only [e0 a ha, e0 c hc]
  simp only [e1 a ha, e1 c hc, ifd, Option.bind_some, p1, p2, p3]
  refine ⟨s3, ?_, q3⟩
  rw [r1, r2, t1, t3]
  unfold rsB
  by_cases z1 : gnF b f (decide (a = 1)) (decide (c = 1)) w1 < gnF b f (!decide (a = 1)) (decide (c = 1)) w1
  · rw [if_pos z1, decide_eq_true z1]; rfl
  · rw [if_neg z1, decide_eq_false z1]
    by_cases z2 : gnF b (!f) (decide (c = 1)) (decide (a = 1)) w2 < gnF b (!f) (!decide (c = 1)) (decide (a = 1)) w2
    · rw [if_pos z2, decide_eq_true z2]; rfl
    · rw [if_neg z2, decide_eq_false z2]; rfl
def rsP (b f w1 w2 : Bool) (q : Nat) : Bool := rsB b f w1 w2 (decide (q / 2 = 1)) (decide (q % 2 = 1))
def rs1 (p : Nat → Bool) : Int32 := if fa_first p 4 < 4 then nI (10 * (fa_first p 4 / 2) + fa_first p 4 % 2) else -1
theorem C_restingCouples {b f w1 w2 : Bool} {s : St} (h : DuE b f w1 w2 s) : ∃ s', f1_restingCouples s = some (nI (fb_ct (rsP b f w1 w2) 4), s') := by
  obtain ⟨q, h1, h2⟩ := lpw_R (F := f1_restingCouples_L1) (fun i s => s.1 = nI (fb_ct (rsP b f w1 w2) (2 * i)) ∧ s.2.1 = nI i ∧ DuE b f w1 w2 s.2.2) (fun q => q.1 = nI (fb_ct (rsP b f w1 w2) 4)) 2 (s := (0, 0, s)) (by
    rintro i ⟨_, _, s⟩ hi ⟨rfl, rfl, hD⟩
    dsimp only at hD
    obtain ⟨p, g1, g2, g3⟩ := lpw_R (F := f1_restingCouples_L3 (nI (fb_ct (rsP b f w1 w2) (2 * i)), nI i, s)) (fun c s => s.1 = nI (fb_ct (rsP b f w1 w2) (2 * i + c)) ∧ s.2.1 = nI c ∧ DuE b f w1 w2 s.2.2) (fun p => p.1 = nI (fb_ct (rsP b f w1 w2) (2 * i + 2)) ∧ DuE b f w1 w2 p.2) 2 (s := (nI (fb_ct (rsP b f w1 w2) (2 * i)), 0, s)) (by
      rintro c ⟨_, _, s⟩ hc ⟨rfl, rfl, hD⟩
      dsimp only at hD
      obtain ⟨s', k1, k2⟩ := C_rests hD hi hc
      have e : rsB b f w1 w2 (decide (i = 1)) (decide (c = 1)) = rsP b f w1 w2 (2 * i + c) := by
        unfold rsP
        rw [show (2 * i + c) / 2 = i by omega, show (2 * i + c) % 2 = c by omega]
      unfold f1_restingCouples_L3
      dsimp only
      rw [if_neg (show ¬ (2 : Int32) ≤ nI c from nI_ge hc (by decide)), k1, Option.bind_some]
      simp only [ifz, ifb, Option.bind_some]
      rw [e, zB_nI, nI_add, nI_1]
      exact ⟨_, rfl, by rw [show 2 * i + (c + 1) = (2 * i + c) + 1 by omega, fb_ct_succ], rfl, k2⟩) (by
      rintro ⟨_, _, s⟩ ⟨rfl, rfl, hD⟩
      exact ⟨_, if_pos (Int32.le_refl _), rfl, hD⟩) ⟨rfl, rfl, hD⟩
    unfold f1_restingCouples_L1
    dsimp only
    rw [if_neg (show ¬ (2 : Int32) ≤ nI i from nI_ge hi (by decide)), g1, Option.bind_some, nI_1, g2]
    exact ⟨_, rfl, by rw [show 2 * (i + 1) = 2 * i + 2 by omega], rfl, g3⟩) (by
    rintro ⟨_, _, s⟩ ⟨rfl, rfl, hD⟩
    exact ⟨_, if_pos (Int32.le_refl _), rfl⟩) ⟨rfl, rfl, h⟩
  refine ⟨q.2, ?_⟩
  unfold f1_restingCouples
  rw [h1, Option.bind_some, h2]
theorem C_firstRestingCouple {b f w1 w2 : Bool} {s : St} (h : DuE b f w1 w2 s) : ∃ s', f1_firstRestingCouple s = some (rs1 (rsP b f w1 w2), s') := by
  obtain ⟨q, h1, h2⟩ := lpw_E (F := f1_firstRestingCouple_L1) (fun i s => s.1 = nI i ∧ DuE b f w1 w2 s.2 ∧ ∀ j, j < 2 * i → rsP b f w1 w2 j = false) (fun q => (∃ s' i c, q = .inl (nI i, nI c, s') ∧ rs1 (rsP b f w1 w2) = nI (10 * i + c)) ∨ ∃ s', q = .inr s' ∧ rs1 (rsP b f w1 w2) = -1) 2 (fun i s hi hI => by
    obtain ⟨_, s⟩ := s
    obtain ⟨h2, hD, h3⟩ := hI
    dsimp only at h2 hD
    subst h2
    obtain ⟨p, g1, g2⟩ := lpw_E (F := f1_firstRestingCouple_L3 (nI i, s)) (fun c s => s.1 = nI c ∧ DuE b f w1 w2 s.2 ∧ ∀ j, j < 2 * i + c → rsP b f w1 w2 j = false) (fun p => (∃ s' c, p = .inl (nI c, s') ∧ rs1 (rsP b f w1 w2) = nI (10 * i + c)) ∨ ∃ s', p = .inr s' ∧ DuE b f w1 w2 s' ∧ ∀ j, j < 2 * i + 2 → rsP b f w1 w2 j = false) 2 (fun c s hc hI => by
      obtain ⟨_, s⟩ := s
      obtain ⟨h2, hD, h3⟩ := hI
      dsimp only at h2 hD
      subst h2
      obtain ⟨s', k1, k2⟩ := C_rests hD hi hc
      have e : rsB b f w1 w2 (decide (i = 1)) (decide (c = 1)) = rsP b f w1 w2 (2 * i + c) := by
        unfold rsP
        rw [show (2 * i + c) / 2 = i by omega, show (2 * i + c) % 2 = c by omega]
      unfold f1_firstRestingCouple_L3
      dsimp only
      rw [if_neg (show ¬ (2 : Int32) ≤ nI c from nI_ge hc (by decide)), k1, Option.bind_some]
      simp only [ifz]
      rw [e]
      cases z : rsP b f w1 w2 (2 * i + c) with
      | true =>
        right
        rw [if_pos rfl]
        refine ⟨_, rfl, .inl ⟨s', c, rfl, ?_⟩⟩
        unfold rs1
        rw [fst_at (i := 2 * i + c) (by omega) z h3, if_pos (by omega), show (2 * i + c) / 2 = i by omega, show (2 * i + c) % 2 = c by omega]
      | false =>
        left
        rw [if_neg (by decide), nI_1]
        exact ⟨_, rfl, rfl, k2, by rw [← Nat.add_assoc]; exact lt_snoc h3 z⟩) (fun s hI => by
      obtain ⟨_, s⟩ := s
      obtain ⟨h2, hD, h3⟩ := hI
      dsimp only at h2 hD
      subst h2
      exact ⟨_, if_pos (Int32.le_refl _), .inr ⟨s, rfl, hD, h3⟩⟩) (Nat.zero_le _) (s := (0, s)) ⟨rfl, hD, h3⟩
    unfold f1_firstRestingCouple_L1
    dsimp only
    rw [if_neg (show ¬ (2 : Int32) ≤ nI i from nI_ge hi (by decide)), g1, Option.bind_some]
    rcases g2 with ⟨s', c, rfl, k1⟩ | ⟨s', rfl, k1, k2⟩
    · right
      exact ⟨_, rfl, .inl ⟨s', i, c, rfl, k1⟩⟩
    · left
      dsimp only
      rw [nI_1]
      exact ⟨_, rfl, rfl, k1, by rw [show 2 * (i + 1) = 2 * i + 2 by omega]; exact k2⟩) (fun s hI => by
    obtain ⟨_, s⟩ := s
    obtain ⟨h2, hD, h3⟩ := hI
    dsimp only at h2 hD
    subst h2
    refine ⟨_, if_pos (Int32.le_refl _), .inr ⟨s, rfl, ?_⟩⟩
    unfold rs1
    rw [fst_none h3, if_neg (Nat.lt_irrefl _)]) (Nat.zero_le _) (s := (0, s)) ⟨rfl, h, fun j hj => absurd hj (Nat.not_lt_zero j)⟩
  unfold f1_firstRestingCouple
  rw [h1, Option.bind_some]
  rcases h2 with ⟨s', i, c, rfl, k1⟩ | ⟨s', rfl, k1⟩
  · refine ⟨s', ?_⟩
    dsimp only
    rw [k1, show (10 : Int32) = nI 10 from rfl, pk_mul, nI_add]
  · exact ⟨s', by rw [k1]⟩
section
variable {r : RU} {T U : TW} {k : Nat} {hs : Nat → TW} {V : SV} {sx sr st sg sv m sp spt spv e : St} {sh sph : HSt}
theorem M_gain (h : RmT T m) (hR : RmR r.1 r.2 m) (hok : okR r.1 r.2) {l j : Nat} (hl : l < T.L) (hj : j < T.L) (hne : l ≠ j) (hb : T.li l = T.li j) (x y : Bool) : ∃ m', f11_gain m (nI l) (nI j) (zB x) (zB y) = some (gnF (T.li l) (decide (l < j)) x y (wn r T l (T.o % 24)), m') ∧ Fr [] [33, 34] m m' := by
  have hL := h.W.L12
  have hoB := h.W.oB
  obtain ⟨m', h1, h2⟩ := M_wants h hR hok hl (show T.o % 24 < 24 by omega)
  have e1 : (jmin (nI l) (nI j) = nI l) = (decide (l < j) = true) := by
    rw [jmin_n (by omega) (by omega)]
    refine propext ?_
    rw [nI_eq (by omega) (by omega), decide_eq_true_eq]
    omega
  have e2 : f11_isOf (m.1 29) (jmin (nI l) (nI j)) = some (T.li l) := by
    rw [jmin_n (by omega) (by omega), M_isOf h.eli (by omega) (show min l j < T.L by omega)]
    rcases Nat.lt_or_ge l j with q | q
    · rw [Nat.min_eq_left (by omega)]
    · rw [Nat.min_eq_right q, hb]
  have e3 : f11_isOf (m.1 29) (jmax (nI l) (nI j)) = some (T.li l) := by
    unfold jmax
    rcases Nat.lt_or_ge l j with q | q
    · rw [if_pos (nI_lt q (by omega)), M_isOf h.eli (by omega) hj, hb]
    · rw [if_neg (nI_nlt q (by omega)), M_isOf h.eli (by omega) hl]
  have ex : ∀ b x y : Bool, (if b = true then some (zB x) else some (zB y) : Option Int32) = some (zB (if b = true then x else y)) := by decide +kernel
  have e4 : ∀ (w : Int32) (b c : Bool), (if b = true then (if zB c = 0 then some (w, m') else some (w - 1, m')) else (if zB c = 0 then some (w, m') else some (w - 1, m')) : Option (Int32 × St)) = some (if c = true then w - 1 else w, m') := by
    intro w b c
    cases b <;> cases c <;> rfl
  refine ⟨m', ?_, h2⟩
  unfold f11_gain
  rw [e2, Option.bind_some, e3, h.eo, m24 (by omega), h1]
  simp only [e1, ex, Option.bind_some, zB_1, ifb, zB_e]
  generalize T.li l = b
  generalize wn r T l (T.o % 24) = w
  generalize decide (l < j) = f
  cases b <;> cases w <;> cases f <;> cases x <;> cases y <;> rfl
end
