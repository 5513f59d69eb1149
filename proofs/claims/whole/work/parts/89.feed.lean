/-! twenty bytes -/
theorem by_z (z : Int32) : ∃ b, b < 256 ∧ z &&& 255 = nI b ∧ z.toInt8.toInt32 = (nI b).toInt8.toInt32 := by
  refine ⟨z.toBitVec.toNat % 256, Nat.mod_lt _ (by decide), ?_, ?_⟩
  · refine Int32.toBitVec.inj (BitVec.eq_of_toNat_eq ?_)
    show (z.toBitVec &&& 255#32).toNat = (BitVec.ofNat 32 (z.toBitVec.toNat % 256)).toNat
    rw [BitVec.toNat_and, BitVec.toNat_ofNat, BitVec.toNat_ofNat, show 255 % 2 ^ 32 = 2 ^ 8 - 1 from rfl, Nat.and_two_pow_sub_one_eq_mod]
    omega
  · refine congrArg Int8.toInt32 (Int8.toBitVec.inj (BitVec.eq_of_toNat_eq ?_))
    show (z.toBitVec.signExtend 8).toNat = ((BitVec.ofNat 32 (z.toBitVec.toNat % 256)).signExtend 8).toNat
    rw [BitVec.signExtend_eq_setWidth_of_le _ (by decide), BitVec.signExtend_eq_setWidth_of_le _ (by decide), BitVec.toNat_setWidth, BitVec.toNat_setWidth, BitVec.toNat_ofNat]
    omega
theorem nar_b (z : Int32) : vp_nar .byte z.toInt8.toInt32 = z.toInt8.toInt32 := by
  show z.toInt8.toInt32.toInt8.toInt32 = _
  rw [Int8.toInt8_toInt32]
def by4 (x : Int32) (j : Nat) : Int32 := x >>> (nI (24 - 8 * j) &&& 31)
section
variable {n : Nat} {sr m : St}
theorem ap_step (x s : Int32) (σ : St) (hs : ¬ s < 0) (h : σ.1 2 = nI n) (hn : n < 600) : f6_append_L1 x (s, σ) = some (.inl (s + (-8), sS (sA σ 4 (upd (σ.2 4) n ((x >>> (s &&& 31)).toInt8.toInt32))) 2 (nI (n + 1)))) := by
  unfold f6_append_L1
  dsimp only
  rw [if_neg hs, h, if_neg (show ¬ (600 : Int32) ≤ nI n from nI_ge (b := 600) hn (by decide)), stS_n _ _ _ hn (by decide), Option.bind_some, Option.bind_some, Option.bind_some, nar_b, sA_1, h, nI_1]
theorem C_append (x : Int32) (h : sr.1 2 = nI n) (hn : n + 4 ≤ 600) : ∃ sr', f6_append sr x = some sr' ∧ sr'.1 2 = nI (n + 4) ∧ (∀ k, k < n → sr'.2 4 k = sr.2 4 k) ∧ ∀ j, j < 4 → sr'.2 4 (n + j) = (by4 x j).toInt8.toInt32 := by
  have e1 := ap_step x 24 sr (by decide) h (by omega)
  obtain ⟨a1, ha1⟩ : ∃ a1, a1 = sS (sA sr 4 (upd (sr.2 4) n ((x >>> ((24 : Int32) &&& 31)).toInt8.toInt32))) 2 (nI (n + 1)) := ⟨_, rfl⟩
  have b1 : a1.1 2 = nI (n + 1) := by rw [ha1]; rfl
  have e2 := ap_step x 16 a1 (by decide) b1 (by omega)
  obtain ⟨a2, ha2⟩ : ∃ a2, a2 = sS (sA a1 4 (upd (a1.2 4) (n + 1) ((x >>> ((16 : Int32) &&& 31)).toInt8.toInt32))) 2 (nI (n + 1 + 1)) := ⟨_, rfl⟩
  have b2 : a2.1 2 = nI (n + 2) := by rw [ha2]; rfl
  have e3 := ap_step x 8 a2 (by decide) b2 (by omega)
  obtain ⟨a3, ha3⟩ : ∃ a3, a3 = sS (sA a2 4 (upd (a2.2 4) (n + 2) ((x >>> ((8 : Int32) &&& 31)).toInt8.toInt32))) 2 (nI (n + 2 + 1)) := ⟨_, rfl⟩
  have b3 : a3.1 2 = nI (n + 3) := by rw [ha3]; rfl
  have e4 := ap_step x 0 a3 (by decide) b3 (by omega)
  rw [← ha1] at e1
  rw [← ha2] at e2
  rw [← ha3] at e3
  have c1 : a1.2 4 = upd (sr.2 4) n ((x >>> ((24 : Int32) &&& 31)).toInt8.toInt32) := by rw [ha1]; rfl
  have c2 : a2.2 4 = upd (a1.2 4) (n + 1) ((x >>> ((16 : Int32) &&& 31)).toInt8.toInt32) := by rw [ha2]; rfl
  have c3 : a3.2 4 = upd (a2.2 4) (n + 2) ((x >>> ((8 : Int32) &&& 31)).toInt8.toInt32) := by rw [ha3]; rfl
  refine ⟨sS (sA a3 4 (upd (a3.2 4) (n + 3) ((x >>> ((0 : Int32) &&& 31)).toInt8.toInt32))) 2 (nI (n + 3 + 1)), ?_, rfl, fun k hk => ?_, fun j hj => ?_⟩
  · unfold f6_append
    rw [lpw_inl e1, show (24 : Int32) + (-8) = 16 from by decide +kernel, lpw_inl e2, show (16 : Int32) + (-8) = 8 from by decide +kernel, lpw_inl e3, show (8 : Int32) + (-8) = 0 from by decide +kernel, lpw_inl e4, lpw_inr (r := sS (sA a3 4 (upd (a3.2 4) (n + 3) ((x >>> ((0 : Int32) &&& 31)).toInt8.toInt32))) 2 (nI (n + 3 + 1))) (by unfold f6_append_L1; dsimp only; rw [if_pos (by decide)]), Option.bind_some]
  · show upd (a3.2 4) (n + 3) _ k = _
    rw [upd_n _ _ (by omega), c3, upd_n _ _ (by omega), c2, upd_n _ _ (by omega), c1, upd_n _ _ (by omega)]
  · show upd (a3.2 4) (n + 3) _ (n + j) = _
    unfold by4
    by_cases j3 : j = 3
    · rw [j3, upd_e]; rfl
    rw [upd_n _ _ (by omega), c3]
    by_cases j2 : j = 2
    · rw [j2, upd_e]; rfl
    rw [upd_n _ _ (by omega), c2]
    by_cases j1 : j = 1
    · rw [j1, upd_e]; rfl
    obtain rfl : j = 0 := by omega
    rw [upd_n _ _ (by omega), c1, Nat.add_zero, upd_e]
    rfl
def fw5 (x1 x2 x3 x4 x5 : Int32) (i : Nat) : Int32 := if i = 0 then x1 else if i = 1 then x2 else if i = 2 then x3 else if i = 3 then x4 else x5
theorem C_feed5 (x1 x2 x3 x4 x5 : Int32) (h : sr.1 2 = nI n) (hn : n ≤ 580) : ∃ sr', (f6_append sr x1).bind (fun q1 => (f6_append q1 x2).bind fun q2 => (f6_append q2 x3).bind fun q3 => (f6_append q3 x4).bind fun q4 => (f6_append q4 x5).bind fun q5 => some ((q5.1 2), q5)) = some (nI (n + 20), sr') ∧ sr'.1 2 = nI (n + 20) ∧ (∀ k, k < n → sr'.2 4 k = sr.2 4 k) ∧ ∀ i, i < 20 → sr'.2 4 (n + i) = (by4 (fw5 x1 x2 x3 x4 x5 (i / 4)) (i % 4)).toInt8.toInt32 := by
  obtain ⟨s1, a1, a2, a3, a4⟩ := C_append x1 h (by omega)
  obtain ⟨s2, b1, b2, b3, b4⟩ := C_append x2 a2 (by omega)
  obtain ⟨s3, c1, c2, c3, c4⟩ := C_append x3 b2 (by omega)
  obtain ⟨s4, d1, d2, d3, d4⟩ := C_append x4 c2 (by omega)
  obtain ⟨s5, e1, e2, e3, e4⟩ := C_append x5 d2 (by omega)
  refine ⟨s5, ?_, e2, fun k hk => ?_, fun i hi => ?_⟩
  · rw [a1, Option.bind_some, b1, Option.bind_some, c1, Option.bind_some, d1, Option.bind_some, e1, Option.bind_some, e2]
  · rw [e3 k (by omega), d3 k (by omega), c3 k (by omega), b3 k (by omega), a3 k hk]
  · unfold fw5
    by_cases i4 : 16 ≤ i
    · have := e4 (i - 16) (by omega)
      rw [show n + 4 + 4 + 4 + 4 + (i - 16) = n + i by omega] at this
      rw [this, if_neg (by omega), if_neg (by omega), if_neg (by omega), if_neg (by omega), show i - 16 = i % 4 by omega]
    rw [e3 _ (by omega)]
    by_cases i3 : 12 ≤ i
    · have := d4 (i - 12) (by omega)
      rw [show n + 4 + 4 + 4 + (i - 12) = n + i by omega] at this
      rw [this, if_neg (by omega), if_neg (by omega), if_neg (by omega), if_pos (by omega), show i - 12 = i % 4 by omega]
    rw [d3 _ (by omega)]
    by_cases i2 : 8 ≤ i
    · have := c4 (i - 8) (by omega)
      rw [show n + 4 + 4 + (i - 8) = n + i by omega] at this
      rw [this, if_neg (by omega), if_neg (by omega), if_pos (by omega), show i - 8 = i % 4 by omega]
    rw [c3 _ (by omega)]
    by_cases i1 : 4 ≤ i
    · have := b4 (i - 4) (by omega)
      rw [show n + 4 + (i - 4) = n + i by omega] at this
      rw [this, if_neg (by omega), if_pos (by omega), show i - 4 = i % 4 by omega]
    rw [b3 _ (by omega), a4 i (by omega), if_pos (by omega), show i % 4 = i by omega]
theorem sh_k : ∀ k, k < 20 → (24 : Int32) - (8 : Int32) * (nI k - nI k / 4 * 4) = nI (24 - 8 * (k % 4)) := by decide +kernel
theorem M_feed20 (x1 x2 x3 x4 x5 : Int32) (h : m.1 13 = nI n) (hn : n ≤ 580) : ∃ f, lpw (f11_feed_L2 x1 x2 x3 x4 x5) (0, m) = some (sS (sA m 12 f) 13 (nI (n + 20))) ∧ (∀ k, k < n → f k = m.2 12 k) ∧ ∀ i, i < 20 → f (n + i) = by4 (fw5 x1 x2 x3 x4 x5 (i / 4)) (i % 4) &&& 255 := by
  obtain ⟨r, h1, f, h2, h3, h4⟩ := lpw_R (F := f11_feed_L2 x1 x2 x3 x4 x5) (fun k v => ∃ f, v = (nI k, sS (sA m 12 f) 13 (nI (n + k))) ∧ (∀ k, k < n → f k = m.2 12 k) ∧ ∀ i, i < k → f (n + i) = by4 (fw5 x1 x2 x3 x4 x5 (i / 4)) (i % 4) &&& 255) (fun r => ∃ f, r = sS (sA m 12 f) 13 (nI (n + 20)) ∧ (∀ k, k < n → f k = m.2 12 k) ∧ ∀ i, i < 20 → f (n + i) = by4 (fw5 x1 x2 x3 x4 x5 (i / 4)) (i % 4) &&& 255) 20 (fun k v hk hI => by
    obtain ⟨f, rfl, a1, a2⟩ := hI
    have sel : (if (4 : Int32) ≤ nI k then if (8 : Int32) ≤ nI k then if (12 : Int32) ≤ nI k then if (16 : Int32) ≤ nI k then some x5 else some x4 else some x3 else some x2 else some x1 : Option Int32) = some (fw5 x1 x2 x3 x4 x5 (k / 4)) := by
      unfold fw5
      by_cases k1 : 4 ≤ k
      · rw [if_pos (show (4 : Int32) ≤ nI k from nI_le (a := 4) k1 (by omega)), if_neg (show ¬ k / 4 = 0 by omega)]
        by_cases k2 : 8 ≤ k
        · rw [if_pos (show (8 : Int32) ≤ nI k from nI_le (a := 8) k2 (by omega)), if_neg (show ¬ k / 4 = 1 by omega)]
          by_cases k3 : 12 ≤ k
          · rw [if_pos (show (12 : Int32) ≤ nI k from nI_le (a := 12) k3 (by omega)), if_neg (show ¬ k / 4 = 2 by omega)]
            by_cases k4 : 16 ≤ k
            · rw [if_pos (show (16 : Int32) ≤ nI k from nI_le (a := 16) k4 (by omega)), if_neg (show ¬ k / 4 = 3 by omega)]
            · rw [if_neg (show ¬ (16 : Int32) ≤ nI k from nI_ge (b := 16) (by omega) (by decide)), if_pos (show k / 4 = 3 by omega)]
          · rw [if_neg (show ¬ (12 : Int32) ≤ nI k from nI_ge (b := 12) (by omega) (by decide)), if_pos (show k / 4 = 2 by omega)]
        · rw [if_neg (show ¬ (8 : Int32) ≤ nI k from nI_ge (b := 8) (by omega) (by decide)), if_pos (show k / 4 = 1 by omega)]
      · rw [if_neg (show ¬ (4 : Int32) ≤ nI k from nI_ge (b := 4) (by omega) (by decide)), if_pos (show k / 4 = 0 by omega)]
    have e13 : (sS (sA m 12 f) 13 (nI (n + k))).1 13 = nI (n + k) := rfl
    have e12 : (sS (sA m 12 f) 13 (nI (n + k))).2 12 = f := rfl
    unfold f11_feed_L2
    dsimp only
    rw [if_neg (show ¬ (20 : Int32) ≤ nI k from nI_ge (b := 20) hk (by decide)), sel, Option.bind_some, sh_k k hk, e13, stS_n _ _ _ (by omega) (by decide), Option.bind_some, Option.bind_some, sA_1, e13, e12, nI_1, nI_1]
    refine ⟨_, rfl, upd f (n + k) (by4 (fw5 x1 x2 x3 x4 x5 (k / 4)) (k % 4) &&& 255), ?_, fun i hi => ?_, fun i hi => ?_⟩
    · refine Prod.ext rfl ?_
      refine Prod.ext ?_ ?_
      · refine funext fun j => ?_
        show (if j = 13 then nI (n + k + 1) else if j = 13 then nI (n + k) else m.1 j) = if j = 13 then nI (n + (k + 1)) else m.1 j
        by_cases e : j = 13
        · rw [if_pos e, if_pos e]; rfl
        · rw [if_neg e, if_neg e, if_neg e]
      · refine funext fun j => ?_
        show (if j = 12 then _ else if j = 12 then f else m.2 j) = if j = 12 then _ else m.2 j
        by_cases e : j = 12
        · rw [if_pos e, if_pos e]; rfl
        · rw [if_neg e, if_neg e, if_neg e]
    · rw [upd_n _ _ (by omega), a1 i hi]
    · by_cases e : i = k
      · rw [e, upd_e]
      · rw [upd_n _ _ (by omega), a2 i (by omega)]) (fun v hI => by
    obtain ⟨f, rfl, a1, a2⟩ := hI
    exact ⟨_, if_pos (Int32.le_refl _), f, rfl, a1, a2⟩) (s := (0, m)) ⟨m.2 12, by
      refine Prod.ext rfl (Prod.ext ?_ ?_)
      · refine funext fun j => ?_
        show m.1 j = if j = 13 then nI (n + 0) else m.1 j
        by_cases e : j = 13
        · rw [if_pos e, e, h]; rfl
        · rw [if_neg e]
      · show m.2 = (sA m 12 (m.2 12)).2
        rw [sA_self], fun k _ => rfl, fun i hi => absurd hi (Nat.not_lt_zero i)⟩
  exact ⟨f, by rw [h1, h2], h3, h4⟩
end
section
variable {r : RU} {T U : TW} {k : Nat} {hs : Nat → TW} {V : SV} {sx sr st sg sv m sp spt spv : St} {sh sph : HSt}
theorem A_feed (h : Rel r T k hs V sx sr st sg sh sv m) (hi : ImR T sp spt sph spv m) (y1 y2 y3 y4 y5 : Int32) : ∃ w sr' m', f10_feed sx sr y1 y2 y3 y4 y5 = some (w, sr') ∧ f11_feed m y1 y2 y3 y4 y5 = some (w, m') ∧ AllR sx sr' st sg sh sv sp spt sph spv m' := by
  obtain ⟨n, n1, n2, n3, n4⟩ := h.tape
  have n3' : (sS m 2 0).1 13 = nI n := n3
  unfold f10_feed f11_feed
  rw [n2, Option.bind_some, n3', show (20 : Int32) = nI 20 from rfl, nI_add]
  by_cases z : n ≤ 580
  · obtain ⟨sr', a1, a2, a3, a4⟩ := C_feed5 y1 y2 y3 y4 y5 n2 z
    obtain ⟨f, b1, b2, b3⟩ := M_feed20 y1 y2 y3 y4 y5 n3' z
    rw [if_pos (show nI n ≤ 580 from nI_le (b := 580) z (by decide)), if_pos (show nI (n + 20) ≤ 600 from nI_le (b := 600) (by omega) (by decide)), a1, b1, Option.bind_some]
    have fr : Fr [2, 13] [12] m (sS (sA (sS m 2 0) 12 f) 13 (nI (n + 20))) := ((Fr.sS m 2 0 (by decide)).trans (Fr.sA _ 12 f (by decide))).trans (Fr.sS _ 13 _ (by decide))
    refine ⟨nI (n + 20), sr', _, rfl, rfl, r, T, k, hs, V, ⟨⟨n + 20, by omega, a2, rfl, fun i hi => ?_⟩, h.fp, h.sta, h.ok, h.cr, h.mr.fr fr, h.ct, h.mt.fr fr, h.okT, h.ch, h.mh, h.okH, h.cv, h.mv, h.tws⟩, hi.fr fr⟩
    by_cases e : i < n
    · obtain ⟨b, c1, c2, c3⟩ := n4 i e
      exact ⟨b, c1, (b2 i e).trans c2, (a3 i e).trans c3⟩
    · obtain ⟨b, c1, c2, c3⟩ := by_z (by4 (fw5 y1 y2 y3 y4 y5 ((i - n) / 4)) ((i - n) % 4))
      have d1 := b3 (i - n) (by omega)
      have d2 := a4 (i - n) (by omega)
      rw [show n + (i - n) = i by omega] at d1 d2
      exact ⟨b, c1, d1.trans c2, d2.trans c3⟩
  · rw [if_neg (show ¬ nI n ≤ 580 from nI_ge (a := 580) (by omega) (by omega)), if_neg (show ¬ nI (n + 20) ≤ 600 from nI_ge (a := 600) (by omega) (by omega))]
    exact ⟨-1, sr, _, rfl, rfl, AllR.q h hi ⟨h.cr, h.mt.s2, (fr2 m).mono (by decide) (by decide)⟩⟩
end
