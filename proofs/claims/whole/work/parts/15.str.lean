/-! texts: length and charAt, the JDK's own code over the constants -/
def chO (i : Nat) (k : Int32) : Option Int32 := if inb k (xLen.getD i 0) = true then some ((xByt.getD i []).getD k.toNatClampNeg 0) else none
theorem xLen_lt : ∀ i, i < 16 → xLen.getD i 0 < 2 ^ 31 := by decide +kernel
theorem xByt_ok : ∀ i, i < 16 → ∀ j, j < 8 → ((((xByt.getD i []).getD j 0) &&& 255).toUInt32 % 65536).toInt32 = (xByt.getD i []).getD j 0 ∧ narrow .char (.int ((xByt.getD i []).getD j 0)) = .int ((xByt.getD i []).getD j 0) := by decide +kernel
theorem xLen_8 : ∀ i, i < 16 → xLen.getD i 0 ≤ 8 := by decide +kernel
set_option maxHeartbeats 4000000 in
set_option maxRecDepth 100000 in
theorem cJ0_coder (l : Launch) (D : va_G) (cs : xE) (sz : Nat) (i : Nat) (hi : i < 16) : Met l yJ0_coder_7d493 (Cond.code yJ0_coder_7d493 cJ0_coder_7d493 1 (some .byte) :: WG) { frames := 0, cells := 0, slots := 0, locals := 0 } (va_Pc [.ref (cs.2.1 i)] (mP D cs [] sz)) (qI D cs 0 [] (va_A [] sz)) 0 0 (va_A [] sz) := by
  refine mgo (Qc := qI D cs 0 []) (cc := cJ0_coder_7d493) (maxL := 1) (ret := (some .byte)) (by decide) rfl (Nat.le_of_ble_eq_true rfl) ?_
  intro p e s m below meth c ls A R Q args H hR hQ hx hb hml hr hlocks hown hts hP hK hD hA hS hG hl
  have hown : s.vm.findClass RJ0 = some m.cls := hown
  have hW : ∀ w ∈ WG, w.before args s = true := fun w h => hts w (List.mem_cons_of_mem _ h)
  have hl : lv_has ls 1 [(0, .ref (cs.2.1 i))] := hl
  refine va_gets (C := "java/lang/String") (n := "COMPACT_STRINGS") (d := "Z") (own := RJ0) (ref := "java/lang/String") hx hb hG.2.2.2.2.1 hS hown (hW _ wd745) (fun _ h => h) dJ0_coder_7d493_0 ?_
  refine lv_if_eq (tgt := 13) hx hb dJ0_coder_7d493_3 (by decide) (fun hc => absurd hc (by decide)) (fun _ => ?_)
  refine lv_aload_n hx hb dJ0_coder_7d493_6 rfl (lv_at hl 0 rfl) ?_
  refine (vk_getf (o := "java/lang/String") (n := "coder") (d := "B") (own := RJ0) (ref := "java/lang/String") hx hb (hG.2.1.1 i hi).2.1 hS hown (hW _ wd1969) (fun _ h => h) dJ0_coder_7d493_7 ?_)
  refine lv_goto (tgt := 14) hx hb dJ0_coder_7d493_10 (by decide) ?_
  exact mretT hx hb hr hlocks (by decide +kernel) hK hP hD hS rfl hQ dJ0_coder_7d493_14
set_option maxHeartbeats 4000000 in
set_option maxRecDepth 100000 in
theorem cJ0_isLatin1 (l : Launch) (D : va_G) (cs : xE) (sz : Nat) (i : Nat) (hi : i < 16) : Met l yJ0_isLatin1_aae02 (Cond.code yJ0_isLatin1_aae02 cJ0_isLatin1_aae02 1 (some .boolean) :: WG) { frames := 0, cells := 0, slots := 0, locals := 0 } (va_Pc [.ref (cs.2.1 i)] (mP D cs [] sz)) (qI D cs 1 [] (va_A [] sz)) 0 0 (va_A [] sz) := by
  refine mgo (Qc := qI D cs 1 []) (cc := cJ0_isLatin1_aae02) (maxL := 1) (ret := (some .boolean)) (by decide) rfl (Nat.le_of_ble_eq_true rfl) ?_
  intro p e s m below meth c ls A R Q args H hR hQ hx hb hml hr hlocks hown hts hP hK hD hA hS hG hl
  have hown : s.vm.findClass RJ0 = some m.cls := hown
  have hW : ∀ w ∈ WG, w.before args s = true := fun w h => hts w (List.mem_cons_of_mem _ h)
  have hl : lv_has ls 1 [(0, .ref (cs.2.1 i))] := hl
  refine va_gets (C := "java/lang/String") (n := "COMPACT_STRINGS") (d := "Z") (own := RJ0) (ref := "java/lang/String") hx hb hG.2.2.2.2.1 hS hown (hW _ wd745) (fun _ h => h) dJ0_isLatin1_aae02_0 ?_
  refine lv_if_eq (tgt := 17) hx hb dJ0_isLatin1_aae02_3 (by decide) (fun hc => absurd hc (by decide)) (fun _ => ?_)
  refine lv_aload_n hx hb dJ0_isLatin1_aae02_6 rfl (lv_at hl 0 rfl) ?_
  refine (vk_getf (o := "java/lang/String") (n := "coder") (d := "B") (own := RJ0) (ref := "java/lang/String") hx hb (hG.2.1.1 i hi).2.1 hS hown (hW _ wd1969) (fun _ h => h) dJ0_isLatin1_aae02_7 ?_)
  refine lv_if_ne (tgt := 17) hx hb dJ0_isLatin1_aae02_10 (by decide) (fun hc => absurd rfl hc) (fun _ => ?_)
  refine lv_iconst (v := 1) hx hb dJ0_isLatin1_aae02_13 (by decide) ?_
  refine lv_goto (tgt := 18) hx hb dJ0_isLatin1_aae02_14 (by decide) ?_
  exact mretT hx hb hr hlocks (by decide +kernel) hK hP hD hS rfl hQ dJ0_isLatin1_aae02_18
set_option maxHeartbeats 4000000 in
set_option maxRecDepth 100000 in
theorem cJ0_length (l : Launch) (D : va_G) (cs : xE) (sz : Nat) (i : Nat) (hi : i < 16) : Met l yJ0_length_8abf5 (Cond.code yJ0_length_8abf5 cJ0_length_8abf5 1 (some .int) :: WG) { frames := 1, cells := 0, slots := 0, locals := 20 } (va_Pc [.ref (cs.2.1 i)] (mP D cs [] sz)) (qI D cs (nI (xLen.getD i 0)) [] (va_A [] sz)) 0 0 (va_A [] sz) := by
  refine mgo (Qc := qI D cs (nI (xLen.getD i 0)) []) (cc := cJ0_length_8abf5) (maxL := 1) (ret := (some .int)) (by decide) rfl (Nat.le_of_ble_eq_true rfl) ?_
  intro p e s m below meth c ls A R Q args H hR hQ hx hb hml hr hlocks hown hts hP hK hD hA hS hG hl
  have hown : s.vm.findClass RJ0 = some m.cls := hown
  have hW : ∀ w ∈ WG, w.before args s = true := fun w h => hts w (List.mem_cons_of_mem _ h)
  have hl : lv_has ls 1 [(0, .ref (cs.2.1 i))] := hl
  refine lv_aload_n hx hb dJ0_length_8abf5_0 rfl (lv_at hl 0 rfl) ?_
  refine (vk_getf (o := "java/lang/String") (n := "value") (d := "[B") (own := RJ0) (ref := "java/lang/String") hx hb (hG.2.1.1 i hi).2.2.1 hS hown (hW _ wd1968) (fun _ h => h) dJ0_length_8abf5_1 ?_)
  refine va_tlen hx hb (hG.2.1.1 i hi).2.2.2 hS (v := nI (xLen.getD i 0)) rfl dJ0_length_8abf5_4 ?_
  refine lv_aload_n hx hb dJ0_length_8abf5_5 rfl (lv_at hl 0 rfl) ?_
  refine mcVi0 (v := 0) (rest := [.int (nI (xLen.getD i 0))]) ⟨hx, hb, hml, hown, hts⟩ hK hP hS hA hG (cJ0_coder l D cs H.size i hi) (cwV 0 hts (gV wd741 wd742 wd743 wd121 wd744) rfl rfl rfl (by decide +kernel) ⟨by rw [hR]; exact Nat.le_of_ble_eq_true rfl, by rw [hR]; exact Nat.le_of_ble_eq_true rfl⟩) (vk_recv hG.2.1 hi hS) rfl hl.1 rfl (Nat.le_of_ble_eq_true rfl) ⟨Nat.zero_le _, Nat.zero_le _⟩ dJ0_length_8abf5_6 (fun H locs hP hS => ?_)
  refine lv_ishr hx hb dJ0_length_8abf5_9 ?_
  exact mretI hx hb hr hlocks hK hP hD hS (by generalize nI (xLen.getD i 0) = z; apply Int32.toBitVec_inj.mp; simp) hQ dJ0_length_8abf5_10
set_option maxHeartbeats 4000000 in
set_option maxRecDepth 100000 in
theorem cJ3_checkIndexN (l : Launch) (D : va_G) (cs : xE) (sz : Nat) (k n : Int32) (h0 : ¬ k < 0) (h1 : k < n) : Met l yJ3_checkIndex_8e157 (Cond.code yJ3_checkIndex_8e157 cJ3_checkIndex_8e157 3 (some .int) :: WG) { frames := 0, cells := 0, slots := 0, locals := 0 } (va_Pc [.int k, .int n, .null] (mP D cs [] sz)) (qI D cs k [] (va_A [] sz)) 0 0 (va_A [] sz) := by
  refine mgo (Qc := qI D cs k []) (cc := cJ3_checkIndex_8e157) (maxL := 3) (ret := (some .int)) (by decide) rfl (Nat.le_of_ble_eq_true rfl) ?_
  intro p e s m below meth c ls A R Q args H hR hQ hx hb hml hr hlocks hown hts hP hK hD hA hS hG hl
  have hown : s.vm.findClass RJ3 = some m.cls := hown
  have hW : ∀ w ∈ WG, w.before args s = true := fun w h => hts w (List.mem_cons_of_mem _ h)
  have hl : lv_has ls 3 [(0, .int k), (1, .int n), (2, .null)] := hl
  refine lv_iload_n hx hb dJ3_checkIndex_8e157_0 rfl (lv_at hl 0 rfl) ?_
  refine lv_if_lt (tgt := 9) hx hb dJ3_checkIndex_8e157_1 (by decide) (fun hc => absurd hc h0) (fun _ => ?_)
  refine lv_iload_n hx hb dJ3_checkIndex_8e157_4 rfl (lv_at hl 0 rfl) ?_
  refine lv_iload_n hx hb dJ3_checkIndex_8e157_5 rfl (lv_at hl 1 rfl) ?_
  refine lv_icmp_lt (tgt := 16) hx hb dJ3_checkIndex_8e157_6 (by decide) (fun _ => ?_) (fun hc => absurd h1 hc)
  refine lv_iload_n hx hb dJ3_checkIndex_8e157_16 rfl (lv_at hl 0 rfl) ?_
  exact mretI hx hb hr hlocks hK hP hD hS rfl hQ dJ3_checkIndex_8e157_17
set_option maxHeartbeats 4000000 in
set_option maxRecDepth 100000 in
theorem cJ3_checkIndexR (l : Launch) (D : va_G) (cs : xE) (sz : Nat) (k n : Int32) (t : Nat) (h0 : ¬ k < 0) (h1 : k < n) : Met l yJ3_checkIndex_8e157 (Cond.code yJ3_checkIndex_8e157 cJ3_checkIndex_8e157 3 (some .int) :: WG) { frames := 0, cells := 0, slots := 0, locals := 0 } (va_Pc [.int k, .int n, .ref t] (mP D cs [] sz)) (qI D cs k [] (va_A [] sz)) 0 0 (va_A [] sz) := by
  refine mgo (Qc := qI D cs k []) (cc := cJ3_checkIndex_8e157) (maxL := 3) (ret := (some .int)) (by decide) rfl (Nat.le_of_ble_eq_true rfl) ?_
  intro p e s m below meth c ls A R Q args H hR hQ hx hb hml hr hlocks hown hts hP hK hD hA hS hG hl
  have hown : s.vm.findClass RJ3 = some m.cls := hown
  have hW : ∀ w ∈ WG, w.before args s = true := fun w h => hts w (List.mem_cons_of_mem _ h)
  have hl : lv_has ls 3 [(0, .int k), (1, .int n), (2, .ref t)] := hl
  refine lv_iload_n hx hb dJ3_checkIndex_8e157_0 rfl (lv_at hl 0 rfl) ?_
  refine lv_if_lt (tgt := 9) hx hb dJ3_checkIndex_8e157_1 (by decide) (fun hc => absurd hc h0) (fun _ => ?_)
  refine lv_iload_n hx hb dJ3_checkIndex_8e157_4 rfl (lv_at hl 0 rfl) ?_
  refine lv_iload_n hx hb dJ3_checkIndex_8e157_5 rfl (lv_at hl 1 rfl) ?_
  refine lv_icmp_lt (tgt := 16) hx hb dJ3_checkIndex_8e157_6 (by decide) (fun _ => ?_) (fun hc => absurd h1 hc)
  refine lv_iload_n hx hb dJ3_checkIndex_8e157_16 rfl (lv_at hl 0 rfl) ?_
  exact mretI hx hb hr hlocks hK hP hD hS rfl hQ dJ3_checkIndex_8e157_17
set_option maxHeartbeats 4000000 in
set_option maxRecDepth 100000 in
theorem cJ0_checkIndex (l : Launch) (D : va_G) (cs : xE) (sz : Nat) (k n : Int32) (h0 : ¬ k < 0) (h1 : k < n) : Met l yJ0_checkIndex_df160 (Cond.code yJ0_checkIndex_df160 cJ0_checkIndex_df160 2 none :: WG) { frames := 1, cells := 0, slots := 0, locals := 30 } (va_Pc [.int k, .int n] (mP D cs [] sz)) (qV D cs [] (va_A [] sz)) 0 0 (va_A [] sz) := by
  refine mgo (Qc := qV D cs []) (cc := cJ0_checkIndex_df160) (maxL := 2) (ret := none) (by decide) rfl (Nat.le_of_ble_eq_true rfl) ?_
  intro p e s m below meth c ls A R Q args H hR hQ hx hb hml hr hlocks hown hts hP hK hD hA hS hG hl
  have hown : s.vm.findClass RJ0 = some m.cls := hown
  have hW : ∀ w ∈ WG, w.before args s = true := fun w h => hts w (List.mem_cons_of_mem _ h)
  have hl : lv_has ls 2 [(0, .int k), (1, .int n)] := hl
  refine lv_iload_n hx hb dJ0_checkIndex_df160_0 rfl (lv_at hl 0 rfl) ?_
  refine lv_iload_n hx hb dJ0_checkIndex_df160_1 rfl (lv_at hl 1 rfl) ?_
  rcases hG.2.2.2.2.2.1 with hZ | ⟨t, hZ⟩
  · refine va_gets (C := "jdk/internal/util/Preconditions") (n := "SIOOBE_FORMATTER") (d := "Ljava/util/function/BiFunction;") (own := RJ0) (ref := "jdk/internal/util/Preconditions") hx hb hZ hS hown (hW _ wd761) (fun _ h => h) dJ0_checkIndex_df160_2 ?_
    refine mcSi0 (v := k) (As := [.int k, .int n, .null]) (rest := []) ⟨hx, hb, hml, hown, hts⟩ hK hP hS hA hG (cJ3_checkIndexN l D cs H.size k n h0 h1) (va_cwS 3 hts (gS wd763 wd764 wd123 wd765) rfl rfl rfl (by decide +kernel) ⟨by rw [hR]; exact Nat.le_of_ble_eq_true rfl, by rw [hR]; exact Nat.le_of_ble_eq_true rfl⟩) rfl hl.1 rfl (Nat.le_of_ble_eq_true rfl) ⟨Nat.zero_le _, Nat.zero_le _⟩ dJ0_checkIndex_df160_5 (fun H locs hP hS => ?_)
    refine lv_pop hx hb dJ0_checkIndex_df160_8 rfl ?_
    exact mretV hx hb hr hlocks hK hP hD hS hQ dJ0_checkIndex_df160_9
  · refine va_gets (C := "jdk/internal/util/Preconditions") (n := "SIOOBE_FORMATTER") (d := "Ljava/util/function/BiFunction;") (own := RJ0) (ref := "jdk/internal/util/Preconditions") hx hb hZ hS hown (hW _ wd761) (fun _ h => h) dJ0_checkIndex_df160_2 ?_
    refine mcSi0 (v := k) (As := [.int k, .int n, .ref t]) (rest := []) ⟨hx, hb, hml, hown, hts⟩ hK hP hS hA hG (cJ3_checkIndexR l D cs H.size k n t h0 h1) (va_cwS 3 hts (gS wd763 wd764 wd123 wd765) rfl rfl rfl (by decide +kernel) ⟨by rw [hR]; exact Nat.le_of_ble_eq_true rfl, by rw [hR]; exact Nat.le_of_ble_eq_true rfl⟩) rfl hl.1 rfl (Nat.le_of_ble_eq_true rfl) ⟨Nat.zero_le _, Nat.zero_le _⟩ dJ0_checkIndex_df160_5 (fun H locs hP hS => ?_)
    refine lv_pop hx hb dJ0_checkIndex_df160_8 rfl ?_
    exact mretV hx hb hr hlocks hK hP hD hS hQ dJ0_checkIndex_df160_9
set_option maxHeartbeats 4000000 in
set_option maxRecDepth 100000 in
theorem cJ1_charAt (l : Launch) (D : va_G) (cs : xE) (sz : Nat) (i : Nat) (hi : i < 16) (k r : Int32) (h : chO i k = some r) : Met l yJ1_charAt_3b067 (Cond.code yJ1_charAt_3b067 cJ1_charAt_3b067 2 (some .char) :: WG) { frames := 2, cells := 0, slots := 0, locals := 60 } (va_Pc [.ref (cs.2.2 i), .int k] (mP D cs [] sz)) (qI D cs r [] (va_A [] sz)) 0 0 (va_A [] sz) := by
  refine mgo (Qc := qI D cs r []) (cc := cJ1_charAt_3b067) (maxL := 2) (ret := (some .char)) (by decide) rfl (Nat.le_of_ble_eq_true rfl) ?_
  intro p e s m below meth c ls A R Q args H hR hQ hx hb hml hr hlocks hown hts hP hK hD hA hS hG hl
  have hown : s.vm.findClass RJ1 = some m.cls := hown
  have hW : ∀ w ∈ WG, w.before args s = true := fun w h => hts w (List.mem_cons_of_mem _ h)
  have hl : lv_has ls 2 [(0, .ref (cs.2.2 i)), (1, .int k)] := hl
  unfold chO at h
  by_cases hin : inb k (xLen.getD i 0) = true
  · rw [if_pos hin] at h
    have hr0 := Option.some.inj h
    have hv := inb_in hin
    have h0 : ¬ k < 0 := fun z => hv (Or.inl z)
    have hlt : k.toNatClampNeg < xLen.getD i 0 := Nat.not_le.mp fun z => hv (Or.inr z)
    have h8 := xLen_8 i hi
    obtain ⟨j, hj, rfl⟩ := nI_of h0
    rw [nI_clamp hj] at hlt hr0
    have h1 : nI j < nI (xLen.getD i 0) := nI_lt hlt (xLen_lt i hi)
    obtain ⟨e1, e2⟩ := xByt_ok i hi j (by omega)
    refine lv_iload_n hx hb dJ1_charAt_3b067_0 rfl (lv_at hl 1 rfl) ?_
    refine lv_aload_n hx hb dJ1_charAt_3b067_1 rfl (lv_at hl 0 rfl) ?_
    refine va_tlen hx hb (hG.2.1.1 i hi).2.2.2 hS (v := nI (xLen.getD i 0)) rfl dJ1_charAt_3b067_2 ?_
    refine mcSv0 (As := [.int (nI j), .int (nI (xLen.getD i 0))]) (rest := []) ⟨hx, hb, hml, hown, hts⟩ hK hP hS hA hG (cJ0_checkIndex l D cs H.size (nI j) (nI (xLen.getD i 0)) h0 h1) (va_cwS 2 hts (gS wd758 wd759 wd121 wd760) rfl rfl rfl (by decide +kernel) ⟨by rw [hR]; exact Nat.le_of_ble_eq_true rfl, by rw [hR]; exact Nat.le_of_ble_eq_true rfl⟩) rfl hl.1 rfl (Nat.le_of_ble_eq_true rfl) ⟨Nat.zero_le _, Nat.zero_le _⟩ dJ1_charAt_3b067_3 (fun H locs hP hS => ?_)
    refine lv_aload_n hx hb dJ1_charAt_3b067_6 rfl (lv_at hl 0 rfl) ?_
    refine lv_iload_n hx hb dJ1_charAt_3b067_7 rfl (lv_at hl 1 rfl) ?_
    refine va_tb hx hb (hG.2.1.1 i hi).2.2.2 hS hv (v := .int ((xByt.getD i []).getD j 0)) (by rw [nI_clamp hj]) dJ1_charAt_3b067_8 ?_
    refine lv_sipush (v := 255) hx hb dJ1_charAt_3b067_9 (by decide) ?_
    refine lv_iand hx hb dJ1_charAt_3b067_12 ?_
    refine lv_i2c hx hb dJ1_charAt_3b067_13 e1 ?_
    exact mretT hx hb hr hlocks e2 hK hP hD hS hr0 hQ dJ1_charAt_3b067_14
  · rw [if_neg hin] at h
    cases h
set_option maxHeartbeats 4000000 in
set_option maxRecDepth 100000 in
theorem cJ0_charAt (l : Launch) (D : va_G) (cs : xE) (sz : Nat) (i : Nat) (hi : i < 16) (k r : Int32) (h : chO i k = some r) : Met l yJ0_charAt_5068e (Cond.code yJ0_charAt_5068e cJ0_charAt_5068e 2 (some .char) :: WG) { frames := 3, cells := 0, slots := 0, locals := 100 } (va_Pc [.ref (cs.2.1 i), .int k] (mP D cs [] sz)) (qI D cs r [] (va_A [] sz)) 0 0 (va_A [] sz) := by
  refine mgo (Qc := qI D cs r []) (cc := cJ0_charAt_5068e) (maxL := 2) (ret := (some .char)) (by decide) rfl (Nat.le_of_ble_eq_true rfl) ?_
  intro p e s m below meth c ls A R Q args H hR hQ hx hb hml hr hlocks hown hts hP hK hD hA hS hG hl
  have hown : s.vm.findClass RJ0 = some m.cls := hown
  have hW : ∀ w ∈ WG, w.before args s = true := fun w h => hts w (List.mem_cons_of_mem _ h)
  have hl : lv_has ls 2 [(0, .ref (cs.2.1 i)), (1, .int k)] := hl
  refine lv_aload_n hx hb dJ0_charAt_5068e_0 rfl (lv_at hl 0 rfl) ?_
  refine mcVi0 (v := 1) (rest := []) ⟨hx, hb, hml, hown, hts⟩ hK hP hS hA hG (cJ0_isLatin1 l D cs H.size i hi) (cwV 0 hts (gV wd751 wd752 wd753 wd121 wd754) rfl rfl rfl (by decide +kernel) ⟨by rw [hR]; exact Nat.le_of_ble_eq_true rfl, by rw [hR]; exact Nat.le_of_ble_eq_true rfl⟩) (vk_recv hG.2.1 hi hS) rfl hl.1 rfl (Nat.le_of_ble_eq_true rfl) ⟨Nat.zero_le _, Nat.zero_le _⟩ dJ0_charAt_5068e_1 (fun H locs hP hS => ?_)
  refine lv_if_eq (tgt := 16) hx hb dJ0_charAt_5068e_4 (by decide) (fun hc => absurd hc (by decide)) (fun _ => ?_)
  refine lv_aload_n hx hb dJ0_charAt_5068e_7 rfl (lv_at hl 0 rfl) ?_
  refine (vk_getf (o := "java/lang/String") (n := "value") (d := "[B") (own := RJ0) (ref := "java/lang/String") hx hb (hG.2.1.1 i hi).2.2.1 hS hown (hW _ wd1968) (fun _ h => h) dJ0_charAt_5068e_8 ?_)
  refine lv_iload_n hx hb dJ0_charAt_5068e_11 rfl (lv_at hl 1 rfl) ?_
  refine mcSi0 (v := r) (As := [.ref (cs.2.2 i), .int k]) (rest := []) ⟨hx, hb, hml, hown, hts⟩ hK hP hS hA hG (cJ1_charAt l D cs H.size i hi k r h) (va_cwS 2 hts (gS wd755 wd756 wd122 wd757) rfl rfl rfl (by decide +kernel) ⟨by rw [hR]; exact Nat.le_of_ble_eq_true rfl, by rw [hR]; exact Nat.le_of_ble_eq_true rfl⟩) rfl hl.1 rfl (Nat.le_of_ble_eq_true rfl) ⟨Nat.zero_le _, Nat.zero_le _⟩ dJ0_charAt_5068e_12 (fun H locs hP hS => ?_)
  refine mretT hx hb hr hlocks ?_ hK hP hD hS rfl hQ dJ0_charAt_5068e_15
  unfold chO at h
  by_cases hin : inb k (xLen.getD i 0) = true
  · rw [if_pos hin] at h
    have hr0 := Option.some.inj h
    have hv := inb_in hin
    have hlt : k.toNatClampNeg < xLen.getD i 0 := Nat.not_le.mp fun z => hv (Or.inr z)
    have h8 := xLen_8 i hi
    rw [← hr0]
    exact (xByt_ok i hi _ (by omega)).2
  · rw [if_neg hin] at h
    cases h
