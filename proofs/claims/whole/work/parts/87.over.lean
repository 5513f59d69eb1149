/-! the draft is taken over -/
theorem half_gen {N j : Nat} (hN : N < 10000) {F : Int32 × St → Option ((Int32 × St) ⊕ St)} (m : St) (hF : ∀ v, F v = if nI N ≤ v.1 then some (.inr v.2) else (ldO (2 * N) (v.2.2 j) (nI N + v.1)).bind fun q3 => (stS (2 * N) v.2 j v.1 q3).bind fun s4 => some (.inl (v.1 + 1, s4))) : ∃ f, lpw F (0, m) = some (sA m j f) ∧ ∀ k, k < N → f k = m.2 j (N + k) := by
  obtain ⟨r, h1, f, h2, h3⟩ := lpw_R (F := F) (fun i v => ∃ f, v = (nI i, sA m j f) ∧ (∀ k, k < i → f k = m.2 j (N + k)) ∧ ∀ k, i ≤ k → f k = m.2 j k) (fun r => ∃ f, r = sA m j f ∧ ∀ k, k < N → f k = m.2 j (N + k)) N (fun i v hi hI => by
    obtain ⟨f, rfl, a1, a2⟩ := hI
    rw [hF]
    dsimp only
    rw [if_neg (nI_ge hi (by omega)), nI_add, sA_2e, ldO_n _ (by omega) (by omega), Option.bind_some, stS_n _ _ _ (by omega) (by omega), Option.bind_some, sA_2e, sA_sA, nI_1]
    refine ⟨_, rfl, _, rfl, fun k hk => ?_, fun k hk => ?_⟩
    · by_cases e : k = i
      · rw [e, upd_e, a2 _ (by omega)]
      · rw [upd_n _ _ e, a1 k (by omega)]
    · rw [upd_n _ _ (by omega), a2 k (by omega)]) (fun v hI => by
    obtain ⟨f, rfl, a1, a2⟩ := hI
    rw [hF]
    dsimp only
    rw [if_pos (Int32.le_refl _)]
    exact ⟨_, rfl, f, rfl, a1⟩) (s := (0, m)) ⟨m.2 j, by rw [sA_self]; rfl, fun k hk => absurd hk (Nat.not_lt_zero k), fun k _ => rfl⟩
  exact ⟨f, by rw [h1, h2], h3⟩
theorem d2_8 : (8 : Int32) / 2 = nI 4 := by decide +kernel
theorem d2_16 : (16 : Int32) / 2 = nI 8 := by decide +kernel
theorem d2_24 : (24 : Int32) / 2 = nI 12 := by decide +kernel
theorem d2_1200 : (1200 : Int32) / 2 = nI 600 := by decide +kernel
section
variable {m : St}
theorem half_3 (m : St) : ∃ f, f11_takeHalf_3 m = some (sA m 3 f) ∧ ∀ k, k < 4 → f k = m.2 3 (4 + k) := by
  obtain ⟨f, h1, h2⟩ := half_gen (N := 4) (j := 3) (F := f11_takeHalf_3_L1) (by decide) m (fun v => by unfold f11_takeHalf_3_L1; rw [d2_8])
  exact ⟨f, by unfold f11_takeHalf_3; rw [h1]; rfl, h2⟩
theorem half_4 (m : St) : ∃ f, f11_takeHalf_4 m = some (sA m 4 f) ∧ ∀ k, k < 8 → f k = m.2 4 (8 + k) := by
  obtain ⟨f, h1, h2⟩ := half_gen (N := 8) (j := 4) (F := f11_takeHalf_4_L1) (by decide) m (fun v => by unfold f11_takeHalf_4_L1; rw [d2_16])
  exact ⟨f, by unfold f11_takeHalf_4; rw [h1]; rfl, h2⟩
theorem half_5 (m : St) : ∃ f, f11_takeHalf_5 m = some (sA m 5 f) ∧ ∀ k, k < 8 → f k = m.2 5 (8 + k) := by
  obtain ⟨f, h1, h2⟩ := half_gen (N := 8) (j := 5) (F := f11_takeHalf_5_L1) (by decide) m (fun v => by unfold f11_takeHalf_5_L1; rw [d2_16])
  exact ⟨f, by unfold f11_takeHalf_5; rw [h1]; rfl, h2⟩
theorem half_6 (m : St) : ∃ f, f11_takeHalf_6 m = some (sA m 6 f) ∧ ∀ k, k < 8 → f k = m.2 6 (8 + k) := by
  obtain ⟨f, h1, h2⟩ := half_gen (N := 8) (j := 6) (F := f11_takeHalf_6_L1) (by decide) m (fun v => by unfold f11_takeHalf_6_L1; rw [d2_16])
  exact ⟨f, by unfold f11_takeHalf_6; rw [h1]; rfl, h2⟩
theorem half_7 (m : St) : ∃ f, f11_takeHalf_7 m = some (sA m 7 f) ∧ ∀ k, k < 12 → f k = m.2 7 (12 + k) := by
  obtain ⟨f, h1, h2⟩ := half_gen (N := 12) (j := 7) (F := f11_takeHalf_7_L1) (by decide) m (fun v => by unfold f11_takeHalf_7_L1; rw [d2_24])
  exact ⟨f, by unfold f11_takeHalf_7; rw [h1]; rfl, h2⟩
theorem half_8 (m : St) : ∃ f, f11_takeHalf_8 m = some (sA m 8 f) ∧ ∀ k, k < 12 → f k = m.2 8 (12 + k) := by
  obtain ⟨f, h1, h2⟩ := half_gen (N := 12) (j := 8) (F := f11_takeHalf_8_L1) (by decide) m (fun v => by unfold f11_takeHalf_8_L1; rw [d2_24])
  exact ⟨f, by unfold f11_takeHalf_8; rw [h1]; rfl, h2⟩
theorem half_9 (m : St) : ∃ f, f11_takeHalf_9 m = some (sA m 9 f) ∧ ∀ k, k < 12 → f k = m.2 9 (12 + k) := by
  obtain ⟨f, h1, h2⟩ := half_gen (N := 12) (j := 9) (F := f11_takeHalf_9_L1) (by decide) m (fun v => by unfold f11_takeHalf_9_L1; rw [d2_24])
  exact ⟨f, by unfold f11_takeHalf_9; rw [h1]; rfl, h2⟩
theorem half_10 (m : St) : ∃ f, f11_takeHalf_10 m = some (sA m 10 f) ∧ ∀ k, k < 600 → f k = m.2 10 (600 + k) := by
  obtain ⟨f, h1, h2⟩ := half_gen (N := 600) (j := 10) (F := f11_takeHalf_10_L1) (by decide) m (fun v => by unfold f11_takeHalf_10_L1; rw [d2_1200])
  exact ⟨f, by unfold f11_takeHalf_10; rw [h1]; rfl, h2⟩
/-- oil and houses of the lamps -/
theorem over_lamps {N : Nat} (hN : N ≤ 12) (h31 : m.2 3 1 = nI N) : ∃ f g, lpw f11_takeOver_L12 (0, m) = some (sA (sA m 23 f) 24 g) ∧ ∀ k, k < N → f k = m.2 8 k ∧ g k = m.2 7 k := by
  obtain ⟨r, h1, f, g, h2, h3⟩ := lpw_R (F := f11_takeOver_L12) (fun i v => ∃ f g, v = (nI i, sA (sA m 23 f) 24 g) ∧ ∀ k, k < i → k < N → f k = m.2 8 k ∧ g k = m.2 7 k) (fun r => ∃ f g, r = sA (sA m 23 f) 24 g ∧ ∀ k, k < N → f k = m.2 8 k ∧ g k = m.2 7 k) 12 (fun i v hi hI => by
    obtain ⟨f, g, rfl, a1⟩ := hI
    have s1 : ∀ f g : Nat → Int32, (sA (sA m 23 f) 24 g).2 3 1 = nI N := fun f g => h31
    have s8 : ∀ f g : Nat → Int32, (sA (sA m 23 f) 24 g).2 8 = m.2 8 := fun f g => rfl
    have s7 : ∀ f g : Nat → Int32, (sA (sA m 23 f) 24 g).2 7 = m.2 7 := fun f g => rfl
    have s23 : ∀ f g : Nat → Int32, (sA (sA m 23 f) 24 g).2 23 = f := fun f g => rfl
    have sw : ∀ f g f' : Nat → Int32, sA (sA (sA m 23 f) 24 g) 23 f' = sA (sA m 23 f') 24 g := fun f g f' => by
      unfold sA
      refine Prod.ext rfl (funext fun j => ?_)
      dsimp only
      by_cases e : j = 23
      · rw [if_pos e, if_neg (by omega), if_pos e]
      · by_cases e2 : j = 24
        · rw [if_neg e, if_pos e2, if_pos e2]
        · rw [if_neg e, if_neg e2, if_neg e, if_neg e2, if_neg e]
    unfold f11_takeOver_L12
    dsimp only
    rw [cl_1, s1, if_neg (show ¬ (12 : Int32) ≤ nI i from nI_ge (b := 12) hi (by decide))]
    by_cases w : N ≤ i
    · rw [if_pos (nI_le w (by omega)), Option.bind_some, stS_n _ _ _ hi (by decide), Option.bind_some, s23, sw, s1, if_pos (nI_le w (by omega)), Option.bind_some, stS_n _ _ _ hi (by decide), Option.bind_some, sA_2e, sA_sA, nI_1]
      refine ⟨_, rfl, _, _, rfl, fun k hk hk2 => ?_⟩
      rw [upd_n _ _ (by omega), upd_n _ _ (by omega)]
      exact a1 k (by omega) hk2
    · rw [if_neg (nI_ge (by omega) (by omega)), s8, ldO_n _ (by omega) (by decide), Option.bind_some, Option.bind_some, stS_n _ _ _ hi (by decide), Option.bind_some, s23, sw, s1, if_neg (nI_ge (by omega) (by omega)), s7, ldO_n _ (by omega) (by decide), Option.bind_some, Option.bind_some, stS_n _ _ _ hi (by decide), Option.bind_some, sA_2e, sA_sA, nI_1]
      refine ⟨_, rfl, _, _, rfl, fun k hk hk2 => ?_⟩
      by_cases e : k = i
      · rw [e, upd_e, upd_e]
        exact ⟨rfl, rfl⟩
      · rw [upd_n _ _ e, upd_n _ _ e]
        exact a1 k (by omega) hk2) (fun v hI => by
    obtain ⟨f, g, rfl, a1⟩ := hI
    exact ⟨_, if_pos (Int32.le_refl _), f, g, rfl, fun k hk => a1 k (by omega) hk⟩) (s := (0, m)) ⟨m.2 23, m.2 24, by
      rw [sA_self, sA_self]; rfl, fun k hk => absurd hk (Nat.not_lt_zero k)⟩
  exact ⟨f, g, by rw [h1, h2], h3⟩
/-- hours of the houses -/
theorem over_houses (m : St) : ∃ f g, lpw f11_takeOver_L20 (0, m) = some (sA (sA m 25 f) 26 g) ∧ ∀ k, k < 8 → f k = m.2 5 k ∧ g k = m.2 6 k := by
  obtain ⟨r, h1, f, g, h2, h3⟩ := lpw_R (F := f11_takeOver_L20) (fun i v => ∃ f g, v = (nI i, sA (sA m 25 f) 26 g) ∧ ∀ k, k < i → f k = m.2 5 k ∧ g k = m.2 6 k) (fun r => ∃ f g, r = sA (sA m 25 f) 26 g ∧ ∀ k, k < 8 → f k = m.2 5 k ∧ g k = m.2 6 k) 8 (fun i v hi hI => by
    obtain ⟨f, g, rfl, a1⟩ := hI
    have s5 : ∀ f g : Nat → Int32, (sA (sA m 25 f) 26 g).2 5 = m.2 5 := fun f g => rfl
    have s6 : ∀ f g : Nat → Int32, (sA (sA m 25 f) 26 g).2 6 = m.2 6 := fun f g => rfl
    have s25 : ∀ f g : Nat → Int32, (sA (sA m 25 f) 26 g).2 25 = f := fun f g => rfl
    have sw : ∀ f g f' : Nat → Int32, sA (sA (sA m 25 f) 26 g) 25 f' = sA (sA m 25 f') 26 g := fun f g f' => by
      unfold sA
      refine Prod.ext rfl (funext fun j => ?_)
      dsimp only
      by_cases e : j = 25
      · rw [if_pos e, if_neg (by omega), if_pos e]
      · by_cases e2 : j = 26
        · rw [if_neg e, if_pos e2, if_pos e2]
        · rw [if_neg e, if_neg e2, if_neg e, if_neg e2, if_neg e]
    unfold f11_takeOver_L20
    dsimp only
    rw [if_neg (show ¬ (8 : Int32) ≤ nI i from nI_ge (b := 8) hi (by decide)), s5, ldO_n _ (by omega) (by decide), Option.bind_some, stS_n _ _ _ hi (by decide), Option.bind_some, s25, sw, s6, ldO_n _ (by omega) (by decide), Option.bind_some, stS_n _ _ _ hi (by decide), Option.bind_some, sA_2e, sA_sA, nI_1]
    refine ⟨_, rfl, _, _, rfl, fun k hk => ?_⟩
    by_cases e : k = i
    · rw [e, upd_e, upd_e]
      exact ⟨rfl, rfl⟩
    · rw [upd_n _ _ e, upd_n _ _ e]
      exact a1 k (by omega)) (fun v hI => by
    obtain ⟨f, g, rfl, a1⟩ := hI
    exact ⟨_, if_pos (Int32.le_refl _), f, g, rfl, a1⟩) (s := (0, m)) ⟨m.2 25, m.2 26, by
      rw [sA_self, sA_self]; rfl, fun k hk => absurd hk (Nat.not_lt_zero k)⟩
  exact ⟨f, g, by rw [h1, h2], h3⟩
theorem M_takeOver {U : TW} {tp l : Nat} {c : Nat → Nat} (hW : WfT U) (hC : CleanT U) (hD : DmT U tp m) (hR : DrR l c m) (hl : l ≤ 600) : ∃ m', f11_takeOver m = some m' ∧ RmT U m' ∧ RmR l c m' ∧ m'.2 3 2 = nI tp ∧ m'.1 31 = 0 ∧ m'.1 32 = 0 ∧ m'.1 49 = 0 ∧ Fr [28, 29, 30, 31, 32, 49] [3, 4, 5, 6, 7, 8, 9, 10, 23, 24, 25, 26] m m' := by
  obtain ⟨d1, d2, d3, d4, d5⟩ := hD
  obtain ⟨r1, r2⟩ := hR
  have hL := hW.L12
  have hH := hW.H8
  obtain ⟨f3, a3, b3⟩ := half_3 m
  obtain ⟨f4, a4, b4⟩ := half_4 (sA m 3 f3)
  obtain ⟨f5, a5, b5⟩ := half_5 (sA (sA m 3 f3) 4 f4)
  obtain ⟨f6, a6, b6⟩ := half_6 (sA (sA (sA m 3 f3) 4 f4) 5 f5)
  obtain ⟨f7, a7, b7⟩ := half_7 (sA (sA (sA (sA m 3 f3) 4 f4) 5 f5) 6 f6)
  obtain ⟨f8, a8, b8⟩ := half_8 (sA (sA (sA (sA (sA m 3 f3) 4 f4) 5 f5) 6 f6) 7 f7)
  obtain ⟨f9, a9, b9⟩ := half_9 (sA (sA (sA (sA (sA (sA m 3 f3) 4 f4) 5 f5) 6 f6) 7 f7) 8 f8)
  obtain ⟨f10, a10, b10⟩ := half_10 (sA (sA (sA (sA (sA (sA (sA m 3 f3) 4 f4) 5 f5) 6 f6) 7 f7) 8 f8) 9 f9)
  obtain ⟨q, hq⟩ : ∃ q, q = sS (sS (sS (sA (sA (sA (sA (sA (sA (sA (sA m 3 f3) 4 f4) 5 f5) 6 f6) 7 f7) 8 f8) 9 f9) 10 f10) 28 0) 29 0) 30 0 := ⟨_, rfl⟩
  have g3 : ∀ k, k < 4 → q.2 3 k = m.2 3 (4 + k) := fun k hk => by rw [hq]; exact b3 k hk
  have g4 : ∀ k, k < 8 → q.2 4 k = m.2 4 (8 + k) := fun k hk => by rw [hq]; exact b4 k hk
  have g5 : ∀ k, k < 8 → q.2 5 k = m.2 5 (8 + k) := fun k hk => by rw [hq]; exact b5 k hk
  have g6 : ∀ k, k < 8 → q.2 6 k = m.2 6 (8 + k) := fun k hk => by rw [hq]; exact b6 k hk
  have g7 : ∀ k, k < 12 → q.2 7 k = m.2 7 (12 + k) := fun k hk => by rw [hq]; exact b7 k hk
  have g8 : ∀ k, k < 12 → q.2 8 k = m.2 8 (12 + k) := fun k hk => by rw [hq]; exact b8 k hk
  have g9 : ∀ k, k < 12 → q.2 9 k = m.2 9 (12 + k) := fun k hk => by rw [hq]; exact b9 k hk
  have g10 : ∀ k, k < 600 → q.2 10 k = m.2 10 (600 + k) := fun k hk => by rw [hq]; exact b10 k hk
  have gF : Fr [28, 29, 30, 31, 32, 49] [3, 4, 5, 6, 7, 8, 9, 10, 23, 24, 25, 26] m q := by
    rw [hq]
    refine Fr.trans ?_ (Fr.sS _ 30 _ (by decide))
    refine Fr.trans ?_ (Fr.sS _ 29 _ (by decide))
    refine Fr.trans ?_ (Fr.sS _ 28 _ (by decide))
    refine Fr.trans ?_ (Fr.sA _ 10 _ (by decide))
    refine Fr.trans ?_ (Fr.sA _ 9 _ (by decide))
    refine Fr.trans ?_ (Fr.sA _ 8 _ (by decide))
    refine Fr.trans ?_ (Fr.sA _ 7 _ (by decide))
    refine Fr.trans ?_ (Fr.sA _ 6 _ (by decide))
    refine Fr.trans ?_ (Fr.sA _ 5 _ (by decide))
    refine Fr.trans ?_ (Fr.sA _ 4 _ (by decide))
    exact Fr.sA _ 3 _ (by decide)
  have q28 : q.1 28 = 0 := by rw [hq]; rfl
  have q29 : q.1 29 = 0 := by rw [hq]; rfl
  have q30 : q.1 30 = 0 := by rw [hq]; rfl
  have q31 : q.2 3 1 = nI U.L := (g3 1 (by decide)).trans d2
  obtain ⟨fo, fh, u1, u2⟩ := over_lamps (m := q) hL q31
  obtain ⟨fw, fs, v1, v2⟩ := over_houses (sA (sA q 23 fo) 24 fh)
  refine ⟨sS (sS (sS (sA (sA (sA (sA q 23 fo) 24 fh) 25 fw) 26 fs) 31 0) 32 0) 49 0, ?_, ?_, ?_, ?_, rfl, rfl, rfl, ?_⟩
  · unfold f11_takeOver
    rw [a3, Option.bind_some, a4, Option.bind_some, a5, Option.bind_some, a6, Option.bind_some, a7, Option.bind_some, a8, Option.bind_some, a9, Option.bind_some, a10, Option.bind_some, Option.bind_some, Option.bind_some, Option.bind_some, ← hq, u1, Option.bind_some, v1, Option.bind_some, Option.bind_some, Option.bind_some, Option.bind_some]
  · refine ⟨hW, (g3 0 (by decide)).trans d1, q31, ?_, ?_, ?_, fun k hk => ⟨?_, ?_, ?_⟩, fun k hk => ⟨?_, ?_, ?_⟩⟩
    · show q.1 28 = nI U.o
      rw [q28, hC.1]; rfl
    · show Bm U.L U.li (q.1 29)
      rw [q29]
      exact (Bm.zero U.L).cong fun i _ => (hC.2.1 i).symm
    · show Bm U.L U.br (q.1 30)
      rw [q30]
      exact (Bm.zero U.L).cong fun i _ => (hC.2.2 i).symm
    · exact (g4 k (by omega)).trans (d4 k hk).1
    · exact ((v2 k (by omega)).1.trans (g5 k (by omega))).trans (d4 k hk).2.1
    · exact ((v2 k (by omega)).2.trans (g6 k (by omega))).trans (d4 k hk).2.2
    · exact ((u2 k hk).2.trans (g7 k (by omega))).trans (d5 k hk).1
    · exact ((u2 k hk).1.trans (g8 k (by omega))).trans (d5 k hk).2.1
    · exact (g9 k (by omega)).trans (d5 k hk).2.2
  · exact ⟨(g3 3 (by decide)).trans r1, fun k hk => (g10 k (by omega)).trans (r2 k hk)⟩
  · exact (g3 2 (by decide)).trans d3
  · refine Fr.trans ?_ (Fr.sS _ 49 _ (by decide))
    refine Fr.trans ?_ (Fr.sS _ 32 _ (by decide))
    refine Fr.trans ?_ (Fr.sS _ 31 _ (by decide))
    refine Fr.trans ?_ (Fr.sA _ 26 _ (by decide))
    refine Fr.trans ?_ (Fr.sA _ 25 _ (by decide))
    refine Fr.trans ?_ (Fr.sA _ 24 _ (by decide))
    refine Fr.trans ?_ (Fr.sA _ 23 _ (by decide))
    exact gF
end
