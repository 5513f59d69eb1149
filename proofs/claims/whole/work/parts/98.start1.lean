/-! the law's loop -/
theorem lg_and63 (z : Int32) : ∃ k, k < 64 ∧ z &&& 63 = nI k := by
  refine ⟨z.toBitVec.toNat % 64, Nat.mod_lt _ (by decide), ?_⟩
  refine Int32.toBitVec.inj (BitVec.eq_of_toNat_eq ?_)
  show (z.toBitVec &&& 63#32).toNat = (BitVec.ofNat 32 (z.toBitVec.toNat % 64)).toNat
  rw [BitVec.toNat_and, BitVec.toNat_ofNat, BitVec.toNat_ofNat, show 63 % 2 ^ 32 = 2 ^ 6 - 1 from rfl, Nat.and_two_pow_sub_one_eq_mod]
  omega
theorem lg_lim {i L : Nat} (hL : L ≤ 3072) (hi : i ≤ L) (h : ¬ nI L - 6 < nI i) : i + 5 < L := by
  have h1 : (nI L - 6).toInt = (L : Int) - 6 := by
    have h0 := nI_toInt (n := L) (by omega)
    have h3 : (6 : Int32).toInt = 6 := by decide +kernel
    rw [fb_subI (by rw [h0, h3]; omega) (by rw [h0, h3]; omega), h0, h3]
  rw [fa_lt, h1, nI_toInt (by omega)] at h
  omega
set_option maxHeartbeats 4000000 in
set_option maxRecDepth 100000 in
theorem lg_switch {p : Program} {l : Launch} {e : Env} {s : State} {m : MethodId} {below : List Frame} {meth : Method} {c : Code} {D : va_G} {cs : xE} {b L : Nat} {xs : Nat → Int32} {o mo qo : Nat} {x : Nat → Nat → Nat} {xm : Nat → Nat} {i cells slots : Nat} {H : Heap} {locs : List Loc} {ls : Array Slot} {sx : St} {sr : St} {srt : St} {srg : St} {st : St} {sg : St} {sh : HSt} {sv : St} {sp : St} {spt : St} {sph : HSt} {spv : St} {se : St} {st2 : St} {sm : St} {sd : St} {su : St} {mm : St} {fo : Nat → Int64} (F : LFx p l s m meth c D cs b L xs) (hc : cells + 1 ≤ room_1.cells ∧ slots + 6 ≤ room_1.slots) (hi : i + 5 < L) (h : AllR sx sr st sg sh sv sp spt sph spv mm) (hP : va_P D vwCl (LW cs o mo qo x xm sx sr srt srg st sg sh sv sp spt sph spv se st2 sm sd su mm fo).flatten H) (hD : va_D (LA s) (LW cs o mo qo x xm sx sr srt srg st sg sh sv sp spt sph spv se st2 sm sd su mm fo).flatten) (hS : va_S (LA s) s.heap H locs) (hl : lv_has ls 7 (LV b o mo qo i)) (kk : LKx p l e s m below meth c D cs b o mo qo x xm i (cells + 1) (slots + 6)) {k : Nat} (hk : k < 64) : W p l e room_1 s m #[Value.ref b] below meth c H locs cells slots (lw_Z below #[Value.ref b] s) (F0 m 40 ls [.int (nI k)]) := by
  have hx : p.tables.exec = Jvm.exec := F.1.1
  have hb : c.code = code := F.1.2.1
  by_cases e0 : k = 0
  · rw [e0]
    exact lv_tableIn (off := 156) (tgt := 196) hx hb dL_law_40 (by decide +kernel) (by decide +kernel) (by decide +kernel) (by decide) (lc_feed F hc hi h hP hD hS hl kk)
  by_cases e1 : k = 1
  · rw [e1]
    exact lv_tableIn (off := 229) (tgt := 269) hx hb dL_law_40 (by decide +kernel) (by decide +kernel) (by decide +kernel) (by decide) (lc_street F hc hi h hP hD hS hl kk)
  by_cases e2 : k = 2
  · rw [e2]
    exact lv_tableIn (off := 285) (tgt := 325) hx hb dL_law_40 (by decide +kernel) (by decide +kernel) (by decide +kernel) (by decide) (lc_fault F hc hi h hP hD hS hl kk)
  by_cases e3 : k = 3
  · rw [e3]
    exact lv_tableIn (off := 298) (tgt := 338) hx hb dL_law_40 (by decide +kernel) (by decide +kernel) (by decide +kernel) (by decide) (lc_count F hc hi h hP hD hS hl kk)
  by_cases e4 : k = 4
  · rw [e4]
    exact lv_tableIn (off := 354) (tgt := 394) hx hb dL_law_40 (by decide +kernel) (by decide +kernel) (by decide +kernel) (by decide) (lc_house F hc hi h hP hD hS hl kk)
  by_cases e5 : k = 5
  · rw [e5]
    exact lv_tableIn (off := 422) (tgt := 462) hx hb dL_law_40 (by decide +kernel) (by decide +kernel) (by decide +kernel) (by decide) (lc_lamp F hc hi h hP hD hS hl kk)
  by_cases e6 : k = 6
  · rw [e6]
    exact lv_tableIn (off := 490) (tgt := 530) hx hb dL_law_40 (by decide +kernel) (by decide +kernel) (by decide +kernel) (by decide) (lc_hours F hc hi h hP hD hS hl kk)
  by_cases e7 : k = 7
  · rw [e7]
    exact lv_tableIn (off := 515) (tgt := 555) hx hb dL_law_40 (by decide +kernel) (by decide +kernel) (by decide +kernel) (by decide) (lc_flick F hc hi h hP hD hS hl kk)
  by_cases e8 : k = 8
  · rw [e8]
    exact lv_tableIn (off := 571) (tgt := 611) hx hb dL_law_40 (by decide +kernel) (by decide +kernel) (by decide +kernel) (by decide) (lc_trim F hc hi h hP hD hS hl kk)
  by_cases e9 : k = 9
  · rw [e9]
    exact lv_tableIn (off := 639) (tgt := 679) hx hb dL_law_40 (by decide +kernel) (by decide +kernel) (by decide +kernel) (by decide) (lc_breaks F hc hi h hP hD hS hl kk)
  by_cases e10 : k = 10
  · rw [e10]
    exact lv_tableIn (off := 702) (tgt := 742) hx hb dL_law_40 (by decide +kernel) (by decide +kernel) (by decide +kernel) (by decide) (lc_give F hc hi h hP hD hS hl kk)
  by_cases e11 : k = 11
  · rw [e11]
    exact lv_tableIn (off := 770) (tgt := 810) hx hb dL_law_40 (by decide +kernel) (by decide +kernel) (by decide +kernel) (by decide) (lc_sleep F hc hi h hP hD hS hl kk)
  by_cases e12 : k = 12
  · rw [e12]
    exact lv_tableIn (off := 850) (tgt := 890) hx hb dL_law_40 (by decide +kernel) (by decide +kernel) (by decide +kernel) (by decide) (lc_undo F hc hi h hP hD hS hl kk)
  by_cases e13 : k = 13
  · rw [e13]
    exact lv_tableIn (off := 863) (tgt := 903) hx hb dL_law_40 (by decide +kernel) (by decide +kernel) (by decide +kernel) (by decide) (lc_then F hc hi h hP hD hS hl kk)
  by_cases e14 : k = 14
  · rw [e14]
    exact lv_tableIn (off := 919) (tgt := 959) hx hb dL_law_40 (by decide +kernel) (by decide +kernel) (by decide +kernel) (by decide) (lc_burnt F hc hi h hP hD hS hl kk)
  by_cases e15 : k = 15
  · rw [e15]
    exact lv_tableIn (off := 987) (tgt := 1027) hx hb dL_law_40 (by decide +kernel) (by decide +kernel) (by decide +kernel) (by decide) (lc_shining F hc hi h hP hD hS hl kk)
  by_cases e16 : k = 16
  · rw [e16]
    exact lv_tableIn (off := 1055) (tgt := 1095) hx hb dL_law_40 (by decide +kernel) (by decide +kernel) (by decide +kernel) (by decide) (lc_soonest F hc hi h hP hD hS hl kk)
  by_cases e17 : k = 17
  · rw [e17]
    exact lv_tableIn (off := 1111) (tgt := 1151) hx hb dL_law_40 (by decide +kernel) (by decide +kernel) (by decide +kernel) (by decide) (lc_busiest F hc hi h hP hD hS hl kk)
  by_cases e18 : k = 18
  · rw [e18]
    exact lv_tableIn (off := 1167) (tgt := 1207) hx hb dL_law_40 (by decide +kernel) (by decide +kernel) (by decide +kernel) (by decide) (lc_lasts F hc hi h hP hD hS hl kk)
  by_cases e19 : k = 19
  · rw [e19]
    exact lv_tableIn (off := 1223) (tgt := 1263) hx hb dL_law_40 (by decide +kernel) (by decide +kernel) (by decide +kernel) (by decide) (lc_grief F hc hi h hP hD hS hl kk)
  by_cases e20 : k = 20
  · rw [e20]
    exact lv_tableIn (off := 1291) (tgt := 1331) hx hb dL_law_40 (by decide +kernel) (by decide +kernel) (by decide +kernel) (by decide) (lc_quarrels F hc hi h hP hD hS hl kk)
  by_cases e21 : k = 21
  · rw [e21]
    exact lv_tableIn (off := 1347) (tgt := 1387) hx hb dL_law_40 (by decide +kernel) (by decide +kernel) (by decide +kernel) (by decide) (lc_joined F hc hi h hP hD hS hl kk)
  by_cases e22 : k = 22
  · rw [e22]
    exact lv_tableIn (off := 1415) (tgt := 1455) hx hb dL_law_40 (by decide +kernel) (by decide +kernel) (by decide +kernel) (by decide) (lc_strife F hc hi h hP hD hS hl kk)
  by_cases e23 : k = 23
  · rw [e23]
    exact lv_tableIn (off := 1483) (tgt := 1523) hx hb dL_law_40 (by decide +kernel) (by decide +kernel) (by decide +kernel) (by decide) (lc_better F hc hi h hP hD hS hl kk)
  by_cases e24 : k = 24
  · rw [e24]
    exact lv_tableIn (off := 1539) (tgt := 1579) hx hb dL_law_40 (by decide +kernel) (by decide +kernel) (by decide +kernel) (by decide) (lc_treaty F hc hi h hP hD hS hl kk)
  by_cases e25 : k = 25
  · rw [e25]
    exact lv_tableIn (off := 1595) (tgt := 1635) hx hb dL_law_40 (by decide +kernel) (by decide +kernel) (by decide +kernel) (by decide) (lc_fund F hc hi h hP hD hS hl kk)
  by_cases e26 : k = 26
  · rw [e26]
    exact lv_tableIn (off := 1651) (tgt := 1691) hx hb dL_law_40 (by decide +kernel) (by decide +kernel) (by decide +kernel) (by decide) (lc_signals F hc hi h hP hD hS hl kk)
  by_cases e27 : k = 27
  · rw [e27]
    exact lv_tableIn (off := 1707) (tgt := 1747) hx hb dL_law_40 (by decide +kernel) (by decide +kernel) (by decide +kernel) (by decide) (lc_see F hc hi h hP hD hS hl kk)
  by_cases e28 : k = 28
  · rw [e28]
    exact lv_tableIn (off := 1803) (tgt := 1843) hx hb dL_law_40 (by decide +kernel) (by decide +kernel) (by decide +kernel) (by decide) (lc_whose F hc hi h hP hD hS hl kk)
  by_cases e29 : k = 29
  · rw [e29]
    exact lv_tableIn (off := 1859) (tgt := 1899) hx hb dL_law_40 (by decide +kernel) (by decide +kernel) (by decide +kernel) (by decide) (lc_look F hc hi h hP hD hS hl kk)
  by_cases e30 : k = 30
  · rw [e30]
    exact lv_tableIn (off := 1927) (tgt := 1967) hx hb dL_law_40 (by decide +kernel) (by decide +kernel) (by decide +kernel) (by decide) (lc_forget F hc hi h hP hD hS hl kk)
  by_cases e31 : k = 31
  · rw [e31]
    exact lv_tableIn (off := 1938) (tgt := 1978) hx hb dL_law_40 (by decide +kernel) (by decide +kernel) (by decide +kernel) (by decide) (lc_game F hc hi h hP hD hS hl kk)
  by_cases e32 : k = 32
  · rw [e32]
    exact lv_tableIn (off := 2018) (tgt := 2058) hx hb dL_law_40 (by decide +kernel) (by decide +kernel) (by decide +kernel) (by decide) (lc_winter F hc hi h hP hD hS hl kk)
  by_cases e33 : k = 33
  · rw [e33]
    exact lv_tableIn (off := 2098) (tgt := 2138) hx hb dL_law_40 (by decide +kernel) (by decide +kernel) (by decide +kernel) (by decide) (lc_image F hc hi h hP hD hS hl kk)
  by_cases e34 : k = 34
  · rw [e34]
    exact lv_tableIn (off := 2109) (tgt := 2149) hx hb dL_law_40 (by decide +kernel) (by decide +kernel) (by decide +kernel) (by decide) (lc_restore F hc hi h hP hD hS hl kk)
  refine lv_tableOut (tgt := 2162) hx hb dL_law_40 (.inr ?_) (by decide) ?_
  · rw [nI_toInt (by omega)]
    omega
  · refine W.widen (k := cells + 1) (n := slots + 6) (by omega) (by omega) ?_
    exact kk sx sr srt srg st sg sh sv sp spt sph spv se st2 sm sd su mm fo H locs ls h hP hD hS hl
set_option maxHeartbeats 4000000 in
set_option maxRecDepth 100000 in
theorem lg_loop {p : Program} {l : Launch} {e : Env} {s : State} {m : MethodId} {below : List Frame} {meth : Method} {c : Code} {D : va_G} {cs : xE} {b L : Nat} {xs : Nat → Int32} {o mo qo : Nat} {x : Nat → Nat → Nat} {xm : Nat → Nat} (F : LFx p l s m meth c D cs b L xs) : ∀ (n i : Nat), i ≤ L → L + 1 ≤ i + n → ∀ (cells slots : Nat), cells + n ≤ 601024 → slots + 6 * n ≤ 7293034 → ∀ (sx : St) (sr : St) (srt : St) (srg : St) (st : St) (sg : St) (sh : HSt) (sv : St) (sp : St) (spt : St) (sph : HSt) (spv : St) (se : St) (st2 : St) (sm : St) (sd : St) (su : St) (mm : St) (fo : Nat → Int64) (H : Heap) (locs : List Loc) (ls : Array Slot), AllR sx sr st sg sh sv sp spt sph spv mm → va_P D vwCl (LW cs o mo qo x xm sx sr srt srg st sg sh sv sp spt sph spv se st2 sm sd su mm fo).flatten H → va_D (LA s) (LW cs o mo qo x xm sx sr srt srg st sg sh sv sp spt sph spv se st2 sm sd su mm fo).flatten → va_S (LA s) s.heap H locs → lv_has ls 7 (LV b o mo qo i) → W p l e room_1 s m #[Value.ref b] below meth c H locs cells slots (lw_Z below #[Value.ref b] s) (F0 m 23 ls []) := by
  obtain ⟨⟨hx, hb, hr, hml, hown, hts, hX, hbl, hlocks, hgv⟩, hl0, hK, hG, hW, hL⟩ := id F
  intro n
  induction n with
  | zero => intro i h1 h2; exact absurd h2 (by omega)
  | succ n ih =>
    intro i hi hin cells slots hc hs sx sr srt srg st sg sh sv sp spt sph spv se st2 sm sd su mm fo H locs ls h hP hD hS hl
    refine lv_iload hx hb dL_law_23 (lv_at hl 4 rfl) ?_
    refine lv_aload_n hx hb dL_law_25 rfl (lv_at hl 0 rfl) ?_
    refine va_slen hx hb hX hbl F.bA hS dL_law_26 ?_
    refine lv_bipush (v := 6) hx hb dL_law_27 (by decide) ?_
    refine lv_isub hx hb dL_law_29 ?_
    refine lv_icmp_gt (tgt := 2168) hx hb dL_law_30 (by decide) (fun _ => ?_) (fun hlt => ?_)
    · refine lv_iconst (v := 1) hx hb dL_law_2168 (by decide) ?_
      refine va_forget (fun q hq => hS.2.2 q hq) ?_
      refine W.widen (k := 601024) (n := 7293034) (by omega) (by omega) ?_
      exact lw_ret hx hb hr hlocks dL_law_2169
    · have hi5 : i + 5 < L := lg_lim hL hi hlt
      refine lv_aload_n hx hb dL_law_33 rfl (lv_at hl 0 rfl) ?_
      refine lv_iload hx hb dL_law_34 (lv_at hl 4 rfl) ?_
      refine va_sld hx hb hX hbl F.bA hS (vp_in_nI (by omega) (by omega)) dL_law_36 ?_
      refine lv_bipush (v := 63) hx hb dL_law_37 (by decide) ?_
      refine lv_iand hx hb dL_law_39 ?_
      obtain ⟨k, hk, hv⟩ := lg_and63 (xs (nI i).toNatClampNeg)
      rw [hv]
      refine lg_switch F ⟨show cells + 1 ≤ 601024 by omega, show slots + 6 ≤ 7293034 by omega⟩ hi5 h hP hD hS hl ?_ hk
      intro sx sr srt srg st sg sh sv sp spt sph spv se st2 sm sd su mm fo H locs ls h hP hD hS hl
      refine lv_iinc (k := 4) (v := nI (i + 6)) (lv' := [(4, .int (nI (i + 6))), (0, .ref b), (1, .ref o), (2, .ref mo), (3, .ref qo)]) hx hb dL_law_2162 hl rfl (by rw [show Int32.ofInt 6 = nI 6 from by decide, nI_add]) (by decide) rfl (fun ls hl => ?_)
      refine lv_goto (tgt := 23) hx hb dL_law_2165 (by decide) ?_
      exact ih (i + 6) (by omega) (by omega) (cells + 1) (slots + 6) (by omega) (by omega) sx sr srt srg st sg sh sv sp spt sph spv se st2 sm sd su mm fo H locs ls h hP hD hS (lv_sub hl [1, 2, 3, 4, 0] rfl)
