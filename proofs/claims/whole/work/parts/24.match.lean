/-! the matching -/
def fs4 (a : Nat → Nat) (σ : St) : List Value := [.ref (a 0), .ref (a 1), .ref (a 2), .ref (a 3)]
def w4 (cs : xE) (o : Nat) (a : Nat → Nat) (σ : St) : va_W := [(o, .inr (4, fs4 a σ)), (a 0, .inl (cs.1 0, 12, .inl (σ.2 0))), (a 1, .inl (cs.1 0, 12, .inl (σ.2 1))), (a 3, .inl (cs.1 0, 4096, .inl (σ.2 3))), (a 2, .inl (cs.1 3, 12, .inr (.inr (.inr (.inr (fun i => some (a (100 + i)))))))), (a 100, .inl (cs.1 0, 12, .inl (σ.2 100))), (a 101, .inl (cs.1 0, 12, .inl (σ.2 101))), (a 102, .inl (cs.1 0, 12, .inl (σ.2 102))), (a 103, .inl (cs.1 0, 12, .inl (σ.2 103))), (a 104, .inl (cs.1 0, 12, .inl (σ.2 104))), (a 105, .inl (cs.1 0, 12, .inl (σ.2 105))), (a 106, .inl (cs.1 0, 12, .inl (σ.2 106))), (a 107, .inl (cs.1 0, 12, .inl (σ.2 107))), (a 108, .inl (cs.1 0, 12, .inl (σ.2 108))), (a 109, .inl (cs.1 0, 12, .inl (σ.2 109))), (a 110, .inl (cs.1 0, 12, .inl (σ.2 110))), (a 111, .inl (cs.1 0, 12, .inl (σ.2 111)))]
theorem e4 {cs : xE} {o : Nat} {a : Nat → Nat} {σ : St} : (w4 cs o a σ)[0]? = some (o, .inr (4, fs4 a σ)) := rfl
theorem a4_0 {cs : xE} {o : Nat} {a : Nat → Nat} {σ : St} : (w4 cs o a σ)[1]? = some (a 0, .inl (cs.1 0, 12, .inl (σ.2 0))) := rfl
theorem v4_0 {cs : xE} {o : Nat} {a : Nat → Nat} {σ : St} {f : Nat → Int32} : (w4 cs o a σ).set 1 (a 0, .inl (cs.1 0, 12, .inl f)) = w4 cs o a (sA σ 0 f) := rfl
theorem a4_1 {cs : xE} {o : Nat} {a : Nat → Nat} {σ : St} : (w4 cs o a σ)[2]? = some (a 1, .inl (cs.1 0, 12, .inl (σ.2 1))) := rfl
theorem v4_1 {cs : xE} {o : Nat} {a : Nat → Nat} {σ : St} {f : Nat → Int32} : (w4 cs o a σ).set 2 (a 1, .inl (cs.1 0, 12, .inl f)) = w4 cs o a (sA σ 1 f) := rfl
theorem a4_3 {cs : xE} {o : Nat} {a : Nat → Nat} {σ : St} : (w4 cs o a σ)[3]? = some (a 3, .inl (cs.1 0, 4096, .inl (σ.2 3))) := rfl
theorem v4_3 {cs : xE} {o : Nat} {a : Nat → Nat} {σ : St} {f : Nat → Int32} : (w4 cs o a σ).set 3 (a 3, .inl (cs.1 0, 4096, .inl f)) = w4 cs o a (sA σ 3 f) := rfl
theorem a4_2 {cs : xE} {o : Nat} {a : Nat → Nat} {σ : St} : (w4 cs o a σ)[4]? = some (a 2, .inl (cs.1 3, 12, .inr (.inr (.inr (.inr (fun i => some (a (100 + i)))))))) := rfl
theorem r4_2 {cs : xE} {o : Nat} {a : Nat → Nat} {σ : St} : ∀ (q : Nat) (_ : q < 12), (w4 cs o a σ)[5 + q]? = some (a (100 + q), .inl (cs.1 0, 12, .inl (σ.2 (100 + q)))) := fun q h => match q, h with | 0, _ => rfl | 1, _ => rfl | 2, _ => rfl | 3, _ => rfl | 4, _ => rfl | 5, _ => rfl | 6, _ => rfl | 7, _ => rfl | 8, _ => rfl | 9, _ => rfl | 10, _ => rfl | 11, _ => rfl | q + 12, h => absurd h (by omega)
theorem rv4_2 {cs : xE} {o : Nat} {a : Nat → Nat} {σ : St} {f : Nat → Int32} : ∀ (q : Nat) (_ : q < 12), (w4 cs o a σ).set (5 + q) (a (100 + q), .inl (cs.1 0, 12, .inl f)) = w4 cs o a (sA σ (100 + q) f) := fun q h => match q, h with | 0, _ => rfl | 1, _ => rfl | 2, _ => rfl | 3, _ => rfl | 4, _ => rfl | 5, _ => rfl | 6, _ => rfl | 7, _ => rfl | 8, _ => rfl | 9, _ => rfl | 10, _ => rfl | 11, _ => rfl | q + 12, h => absurd h (by omega)
/-! TwinLamps$Matching.setHours -/
noncomputable def f4_setHours (s_m : St) (x1 : Int32) (x2 : Int32) (x3 : Int32) : Option (St) :=
  (stS 12 s_m 0 x1 x2).bind fun s1 =>
  (stS 12 s1 1 x1 x3).bind fun s2 =>
  some s2
set_option maxHeartbeats 4000000 in
set_option maxRecDepth 100000 in
theorem c4_setHours (l : Launch) (D : va_G) (cs : xE) (o_m : Nat) (a_m : Nat → Nat) (s_m : St) (sz : Nat) (x1 : Int32) (x2 : Int32) (x3 : Int32) (res : St) (hf : f4_setHours s_m x1 x2 x3 = some res) : Met l yX4_setHours (Cond.code yX4_setHours cX4_setHours 4 none :: WG) { frames := 0, cells := 0, slots := 0, locals := 0 } (va_Pc [.ref o_m, .int x1, .int x2, .int x3] (mP D cs (List.flatten [w4 cs o_m a_m s_m]) sz)) (qV D cs (List.flatten [w4 cs o_m a_m res]) (va_A (List.flatten [w4 cs o_m a_m s_m]) sz)) 0 0 (va_A (List.flatten [w4 cs o_m a_m s_m]) sz) := by
  refine mgo (Qc := qV D cs (List.flatten [w4 cs o_m a_m res])) (cc := cX4_setHours) (maxL := 4) (ret := none) (by decide) rfl (Nat.le_of_ble_eq_true rfl) ?_
  intro p e s m below meth c ls A R Q args H hR hQ hx hb hml hr hlocks hown hts hP hK hD hA hS hG hl
  have hown : s.vm.findClass RX4 = some m.cls := hown
  have hl : lv_has ls 4 [(0, .ref o_m), (1, .int x1), (2, .int x2), (3, .int x3)] := hl
  have hW : ∀ w ∈ WG, w.before args s = true := fun w h => hts w (List.mem_cons_of_mem _ h)
  have htX4 : ∀ w ∈ u_ws RX4 TX4 4, w.before args s = true := fun w h => hW w (inW_X4 w h)
  unfold f4_setHours at hf
  refine lv_aload_n hx hb dX4_setHours_0 rfl (lv_at hl 0 rfl) ?_
  refine gfB (i0 := 0) (own := RX4) (T := TX4) (k := 0) (v := .ref (a_m 0)) hx hb htX4 hown hK hP rfl e4 rfl (by decide) (hW _ wd374) rfl dX4_setHours_1 ?_
  refine lv_iload_n hx hb dX4_setHours_4 rfl (lv_at hl 1 rfl) ?_
  refine lv_iload_n hx hb dX4_setHours_5 rfl (lv_at hl 2 rfl) ?_
  obtain ⟨s1, es1, hf⟩ := bnd hf
  obtain ⟨gs1, es1⟩ := stS_e es1
  refine astB (i0 := 0) (Bn := [w4 cs o_m a_m s1]) hx hb hK hP hD hS rfl a4_0 gs1 rfl dX4_setHours_6 (by rw [← es1]; exact v4_0) rfl (fun H locs hP hD hS => ?_)
  refine lv_aload_n hx hb dX4_setHours_7 rfl (lv_at hl 0 rfl) ?_
  refine gfB (i0 := 0) (own := RX4) (T := TX4) (k := 1) (v := .ref (a_m 1)) hx hb htX4 hown hK hP rfl e4 rfl (by decide) (hW _ wd375) rfl dX4_setHours_8 ?_
  refine lv_iload_n hx hb dX4_setHours_11 rfl (lv_at hl 1 rfl) ?_
  refine lv_iload_n hx hb dX4_setHours_12 rfl (lv_at hl 3 rfl) ?_
  obtain ⟨s2, es2, hf⟩ := bnd hf
  obtain ⟨gs2, es2⟩ := stS_e es2
  refine astB (i0 := 0) (Bn := [w4 cs o_m a_m s2]) hx hb hK hP hD hS rfl a4_1 gs2 rfl dX4_setHours_13 (by rw [← es2]; exact v4_1) rfl (fun H locs hP hD hS => ?_)
  obtain rfl := Option.some.inj hf
  exact mretV hx hb hr hlocks hK hP hD hS hQ dX4_setHours_14
/-! TwinLamps$Matching.hoursAtOdds -/
noncomputable def f4_hoursAtOdds (s_m : St) (x1 : Int32) (x2 : Int32) : Option (Int32) :=
  (ldO 12 (s_m.2 0) x1).bind fun q1 =>
  (ldO 12 (s_m.2 0) x2).bind fun q2 =>
  (ldO 12 (s_m.2 1) x1).bind fun q3 =>
  (ldO 12 (s_m.2 1) x2).bind fun q4 =>
  (ldO 12 (s_m.2 0) x1).bind fun q5 =>
  (ldO 12 (s_m.2 0) x2).bind fun q6 =>
  (ldO 12 (s_m.2 1) x1).bind fun q7 =>
  (ldO 12 (s_m.2 0) x2).bind fun q8 =>
  (ldO 12 (s_m.2 0) x1).bind fun q9 =>
  (ldO 12 (s_m.2 1) x2).bind fun q10 =>
  (fJ6_bitCount ((((q1 &&& q2) &&& (q3 ^^^ q4)) ||| ((q5 &&& (q6 ^^^ (-1))) &&& q7)) ||| ((q8 &&& (q9 ^^^ (-1))) &&& q10))).bind fun q11 =>
  some q11
set_option maxHeartbeats 4000000 in
set_option maxRecDepth 100000 in
theorem c4_hoursAtOdds (l : Launch) (D : va_G) (cs : xE) (o_m : Nat) (a_m : Nat → Nat) (s_m : St) (sz : Nat) (x1 : Int32) (x2 : Int32) (res : Int32) (hf : f4_hoursAtOdds s_m x1 x2 = some res) : Met l yX4_hoursAtOdds (Cond.code yX4_hoursAtOdds cX4_hoursAtOdds 6 (some .int) :: WG) { frames := 1, cells := 0, slots := 0, locals := 20 } (va_Pc [.ref o_m, .int x1, .int x2] (mP D cs (List.flatten [w4 cs o_m a_m s_m]) sz)) (qI D cs res (List.flatten [w4 cs o_m a_m s_m]) (va_A (List.flatten [w4 cs o_m a_m s_m]) sz)) 0 0 (va_A (List.flatten [w4 cs o_m a_m s_m]) sz) := by
  refine mgo (Qc := qI D cs res (List.flatten [w4 cs o_m a_m s_m])) (cc := cX4_hoursAtOdds) (maxL := 6) (ret := (some .int)) (by decide) rfl (Nat.le_of_ble_eq_true rfl) ?_
  intro p e s m below meth c ls A R Q args H hR hQ hx hb hml hr hlocks hown hts hP hK hD hA hS hG hl
  have hown : s.vm.findClass RX4 = some m.cls := hown
  have hl : lv_has ls 6 [(0, .ref o_m), (1, .int x1), (2, .int x2)] := hl
  have hW : ∀ w ∈ WG, w.before args s = true := fun w h => hts w (List.mem_cons_of_mem _ h)
  have htX4 : ∀ w ∈ u_ws RX4 TX4 4, w.before args s = true := fun w h => hW w (inW_X4 w h)
  unfold f4_hoursAtOdds at hf
  refine lv_aload_n hx hb dX4_hoursAtOdds_0 rfl (lv_at hl 0 rfl) ?_
  refine gfB (i0 := 0) (own := RX4) (T := TX4) (k := 0) (v := .ref (a_m 0)) hx hb htX4 hown hK hP rfl e4 rfl (by decide) (hW _ wd374) rfl dX4_hoursAtOdds_1 ?_
  refine lv_iload_n hx hb dX4_hoursAtOdds_4 rfl (lv_at hl 1 rfl) ?_
  obtain ⟨q1, eq1, hf⟩ := bnd hf
  obtain ⟨gq1, eq1⟩ := ldO_e eq1
  refine aldB (i0 := 0) hx hb hK hP rfl a4_0 gq1 dX4_hoursAtOdds_5 ?_
  refine lv_nm eq1 ?_
  refine lv_aload_n hx hb dX4_hoursAtOdds_6 rfl (lv_at hl 0 rfl) ?_
  refine gfB (i0 := 0) (own := RX4) (T := TX4) (k := 0) (v := .ref (a_m 0)) hx hb htX4 hown hK hP rfl e4 rfl (by decide) (hW _ wd374) rfl dX4_hoursAtOdds_7 ?_
  refine lv_iload_n hx hb dX4_hoursAtOdds_10 rfl (lv_at hl 2 rfl) ?_
  obtain ⟨q2, eq2, hf⟩ := bnd hf
  obtain ⟨gq2, eq2⟩ := ldO_e eq2
  refine aldB (i0 := 0) hx hb hK hP rfl a4_0 gq2 dX4_hoursAtOdds_11 ?_
  refine lv_nm eq2 ?_
  refine lv_iand hx hb dX4_hoursAtOdds_12 ?_
  refine lv_aload_n hx hb dX4_hoursAtOdds_13 rfl (lv_at hl 0 rfl) ?_
  refine gfB (i0 := 0) (own := RX4) (T := TX4) (k := 1) (v := .ref (a_m 1)) hx hb htX4 hown hK hP rfl e4 rfl (by decide) (hW _ wd375) rfl dX4_hoursAtOdds_14 ?_
  refine lv_iload_n hx hb dX4_hoursAtOdds_17 rfl (lv_at hl 1 rfl) ?_
  obtain ⟨q3, eq3, hf⟩ := bnd hf
  obtain ⟨gq3, eq3⟩ := ldO_e eq3
  refine aldB (i0 := 0) hx hb hK hP rfl a4_1 gq3 dX4_hoursAtOdds_18 ?_
  refine lv_nm eq3 ?_
  refine lv_aload_n hx hb dX4_hoursAtOdds_19 rfl (lv_at hl 0 rfl) ?_
  refine gfB (i0 := 0) (own := RX4) (T := TX4) (k := 1) (v := .ref (a_m 1)) hx hb htX4 hown hK hP rfl e4 rfl (by decide) (hW _ wd375) rfl dX4_hoursAtOdds_20 ?_
  refine lv_iload_n hx hb dX4_hoursAtOdds_23 rfl (lv_at hl 2 rfl) ?_
  obtain ⟨q4, eq4, hf⟩ := bnd hf
  obtain ⟨gq4, eq4⟩ := ldO_e eq4
  refine aldB (i0 := 0) hx hb hK hP rfl a4_1 gq4 dX4_hoursAtOdds_24 ?_
  refine lv_nm eq4 ?_
  refine lv_ixor hx hb dX4_hoursAtOdds_25 ?_
  refine lv_iand hx hb dX4_hoursAtOdds_26 ?_
  refine lv_istore_n (lv' := [(3, .int ((q1 &&& q2) &&& (q3 ^^^ q4))), (0, .ref o_m), (1, .int x1), (2, .int x2)]) hx hb dX4_hoursAtOdds_27 rfl hl (by decide) rfl (fun ls hl => ?_)
  refine lv_aload_n hx hb dX4_hoursAtOdds_28 rfl (lv_at hl 1 rfl) ?_
  refine gfB (i0 := 0) (own := RX4) (T := TX4) (k := 0) (v := .ref (a_m 0)) hx hb htX4 hown hK hP rfl e4 rfl (by decide) (hW _ wd374) rfl dX4_hoursAtOdds_29 ?_
  refine lv_iload_n hx hb dX4_hoursAtOdds_32 rfl (lv_at hl 2 rfl) ?_
  obtain ⟨q5, eq5, hf⟩ := bnd hf
  obtain ⟨gq5, eq5⟩ := ldO_e eq5
  refine aldB (i0 := 0) hx hb hK hP rfl a4_0 gq5 dX4_hoursAtOdds_33 ?_
  refine lv_nm eq5 ?_
  refine lv_aload_n hx hb dX4_hoursAtOdds_34 rfl (lv_at hl 1 rfl) ?_
  refine gfB (i0 := 0) (own := RX4) (T := TX4) (k := 0) (v := .ref (a_m 0)) hx hb htX4 hown hK hP rfl e4 rfl (by decide) (hW _ wd374) rfl dX4_hoursAtOdds_35 ?_
  refine lv_iload_n hx hb dX4_hoursAtOdds_38 rfl (lv_at hl 3 rfl) ?_
  obtain ⟨q6, eq6, hf⟩ := bnd hf
  obtain ⟨gq6, eq6⟩ := ldO_e eq6
  refine aldB (i0 := 0) hx hb hK hP rfl a4_0 gq6 dX4_hoursAtOdds_39 ?_
  refine lv_nm eq6 ?_
  refine lv_iconst (v := (-1)) hx hb dX4_hoursAtOdds_40 (by decide) ?_
  refine lv_ixor hx hb dX4_hoursAtOdds_41 ?_
  refine lv_iand hx hb dX4_hoursAtOdds_42 ?_
  refine lv_aload_n hx hb dX4_hoursAtOdds_43 rfl (lv_at hl 1 rfl) ?_
  refine gfB (i0 := 0) (own := RX4) (T := TX4) (k := 1) (v := .ref (a_m 1)) hx hb htX4 hown hK hP rfl e4 rfl (by decide) (hW _ wd375) rfl dX4_hoursAtOdds_44 ?_
  refine lv_iload_n hx hb dX4_hoursAtOdds_47 rfl (lv_at hl 2 rfl) ?_
  obtain ⟨q7, eq7, hf⟩ := bnd hf
  obtain ⟨gq7, eq7⟩ := ldO_e eq7
  refine aldB (i0 := 0) hx hb hK hP rfl a4_1 gq7 dX4_hoursAtOdds_48 ?_
  refine lv_nm eq7 ?_
  refine lv_iand hx hb dX4_hoursAtOdds_49 ?_
  refine lv_istore (lv' := [(4, .int ((q5 &&& (q6 ^^^ (-1))) &&& q7)), (3, .int ((q1 &&& q2) &&& (q3 ^^^ q4))), (0, .ref o_m), (1, .int x1), (2, .int x2)]) hx hb dX4_hoursAtOdds_50 hl (by decide) rfl (fun ls hl => ?_)
  refine lv_aload_n hx hb dX4_hoursAtOdds_52 rfl (lv_at hl 2 rfl) ?_
  refine gfB (i0 := 0) (own := RX4) (T := TX4) (k := 0) (v := .ref (a_m 0)) hx hb htX4 hown hK hP rfl e4 rfl (by decide) (hW _ wd374) rfl dX4_hoursAtOdds_53 ?_
  refine lv_iload_n hx hb dX4_hoursAtOdds_56 rfl (lv_at hl 4 rfl) ?_
  obtain ⟨q8, eq8, hf⟩ := bnd hf
  obtain ⟨gq8, eq8⟩ := ldO_e eq8
  refine aldB (i0 := 0) hx hb hK hP rfl a4_0 gq8 dX4_hoursAtOdds_57 ?_
  refine lv_nm eq8 ?_
  refine lv_aload_n hx hb dX4_hoursAtOdds_58 rfl (lv_at hl 2 rfl) ?_
  refine gfB (i0 := 0) (own := RX4) (T := TX4) (k := 0) (v := .ref (a_m 0)) hx hb htX4 hown hK hP rfl e4 rfl (by decide) (hW _ wd374) rfl dX4_hoursAtOdds_59 ?_
  refine lv_iload_n hx hb dX4_hoursAtOdds_62 rfl (lv_at hl 3 rfl) ?_
  obtain ⟨q9, eq9, hf⟩ := bnd hf
  obtain ⟨gq9, eq9⟩ := ldO_e eq9
  refine aldB (i0 := 0) hx hb hK hP rfl a4_0 gq9 dX4_hoursAtOdds_63 ?_
  refine lv_nm eq9 ?_
  refine lv_iconst (v := (-1)) hx hb dX4_hoursAtOdds_64 (by decide) ?_
  refine lv_ixor hx hb dX4_hoursAtOdds_65 ?_
  refine lv_iand hx hb dX4_hoursAtOdds_66 ?_
  refine lv_aload_n hx hb dX4_hoursAtOdds_67 rfl (lv_at hl 2 rfl) ?_
  refine gfB (i0 := 0) (own := RX4) (T := TX4) (k := 1) (v := .ref (a_m 1)) hx hb htX4 hown hK hP rfl e4 rfl (by decide) (hW _ wd375) rfl dX4_hoursAtOdds_68 ?_
  refine lv_iload_n hx hb dX4_hoursAtOdds_71 rfl (lv_at hl 4 rfl) ?_
  obtain ⟨q10, eq10, hf⟩ := bnd hf
  obtain ⟨gq10, eq10⟩ := ldO_e eq10
  refine aldB (i0 := 0) hx hb hK hP rfl a4_1 gq10 dX4_hoursAtOdds_72 ?_
  refine lv_nm eq10 ?_
  refine lv_iand hx hb dX4_hoursAtOdds_73 ?_
  refine lv_istore (lv' := [(5, .int ((q8 &&& (q9 ^^^ (-1))) &&& q10)), (4, .int ((q5 &&& (q6 ^^^ (-1))) &&& q7)), (3, .int ((q1 &&& q2) &&& (q3 ^^^ q4))), (0, .ref o_m), (1, .int x1), (2, .int x2)]) hx hb dX4_hoursAtOdds_74 hl (by decide) rfl (fun ls hl => ?_)
  refine lv_iload_n hx hb dX4_hoursAtOdds_76 rfl (lv_at hl 2 rfl) ?_
  refine lv_iload hx hb dX4_hoursAtOdds_77 (lv_at hl 1 rfl) ?_
  refine lv_ior hx hb dX4_hoursAtOdds_79 ?_
  refine lv_iload hx hb dX4_hoursAtOdds_80 (lv_at hl 0 rfl) ?_
  refine lv_ior hx hb dX4_hoursAtOdds_82 ?_
  obtain ⟨q11, eq11, hf⟩ := bnd hf
  refine mcSi0 (v := q11) (As := [.int ((((q1 &&& q2) &&& (q3 ^^^ q4)) ||| ((q5 &&& (q6 ^^^ (-1))) &&& q7)) ||| ((q8 &&& (q9 ^^^ (-1))) &&& q10))]) (rest := []) ⟨hx, hb, hml, hown, hts⟩ hK hP hS hA hG (cJ6_bitCount l D cs H.size ((((q1 &&& q2) &&& (q3 ^^^ q4)) ||| ((q5 &&& (q6 ^^^ (-1))) &&& q7)) ||| ((q8 &&& (q9 ^^^ (-1))) &&& q10)) _ eq11) (va_cwS 1 hts (gS wd1121 wd535 wd127 wd536) rfl rfl rfl (by decide +kernel) ⟨by rw [hR]; exact Nat.le_of_ble_eq_true rfl, by rw [hR]; exact Nat.le_of_ble_eq_true rfl⟩) rfl hl.1 rfl (Nat.le_of_ble_eq_true rfl) ⟨Nat.zero_le _, Nat.zero_le _⟩ dX4_hoursAtOdds_83 (fun H locs hP hS => ?_)
  obtain rfl := Option.some.inj hf
  exact mretI hx hb hr hlocks hK hP hD hS rfl hQ dX4_hoursAtOdds_86
/-! TwinLamps$Matching.price -/
noncomputable def f4_price_L3 (x1 : Int32) (v2 : Int32 × St) (v4 : Int32 × St) : Option ((Int32 × St) ⊕ (St)) :=
  if (12 : Int32) ≤ v4.1 then some (.inr v4.2) else ((if ((x1 >>> (v2.1 &&& 31)) &&& 1) = 1 then (if ((x1 >>> (v4.1 &&& 31)) &&& 1) = 1 then ((ckO 12 v2.1).bind fun q6 =>
  (f4_hoursAtOdds v4.2 v2.1 v4.1).bind fun q7 =>
  (stS 12 v4.2 (100 + q6) v4.1 q7).bind fun s8 =>
  some s8)
  else some v4.2)
  else some v4.2 : Option (St))).bind fun q5 =>
  some (.inl ((v4.1 + 1), q5))
noncomputable def f4_price_L1 (x1 : Int32) (v2 : Int32 × St) : Option ((Int32 × St) ⊕ (St)) :=
  if (12 : Int32) ≤ v2.1 then some (.inr v2.2) else (lpw (f4_price_L3 x1 v2) ((v2.1 + 1), v2.2)).bind fun q3 =>
  some (.inl ((v2.1 + 1), q3))
noncomputable def f4_price (s_m : St) (x1 : Int32) : Option (St) :=
  (lpw (f4_price_L1 x1) (0, s_m)).bind fun q1 =>
  some q1
set_option maxHeartbeats 4000000 in
set_option maxRecDepth 100000 in
theorem c4_price (l : Launch) (D : va_G) (cs : xE) (o_m : Nat) (a_m : Nat → Nat) (s_m : St) (sz : Nat) (x1 : Int32) (res : St) (hf : f4_price s_m x1 = some res) : Met l yX4_price (Cond.code yX4_price cX4_price 4 none :: WG) { frames := 2, cells := 0, slots := 0, locals := 45 } (va_Pc [.ref o_m, .int x1] (mP D cs (List.flatten [w4 cs o_m a_m s_m]) sz)) (qV D cs (List.flatten [w4 cs o_m a_m res]) (va_A (List.flatten [w4 cs o_m a_m s_m]) sz)) 0 0 (va_A (List.flatten [w4 cs o_m a_m s_m]) sz) := by
  refine mgo (Qc := qV D cs (List.flatten [w4 cs o_m a_m res])) (cc := cX4_price) (maxL := 4) (ret := none) (by decide) rfl (Nat.le_of_ble_eq_true rfl) ?_
  intro p e s m below meth c ls A R Q args H hR hQ hx hb hml hr hlocks hown hts hP hK hD hA hS hG hl
  have hown : s.vm.findClass RX4 = some m.cls := hown
  have hl : lv_has ls 4 [(0, .ref o_m), (1, .int x1)] := hl
  have hW : ∀ w ∈ WG, w.before args s = true := fun w h => hts w (List.mem_cons_of_mem _ h)
  have htX4 : ∀ w ∈ u_ws RX4 TX4 4, w.before args s = true := fun w h => hW w (inW_X4 w h)
  unfold f4_price at hf
  refine lv_iconst (v := 0) hx hb dX4_price_0 (by decide) ?_
  refine lv_istore_n (lv' := [(2, .int 0), (0, .ref o_m), (1, .int x1)]) hx hb dX4_price_1 rfl hl (by decide) rfl (fun ls hl => ?_)
  obtain ⟨q1, hq1, hf⟩ := bnd hf
  obtain ⟨n1, hq1⟩ := lpw_ex hq1
  have Jq1_0 : ∀ rr1_0 : St, q1 = rr1_0 → ∀ (H : Heap) (locs : List Loc) (ls : Array Slot), va_P D vwCl (List.flatten [w4 cs o_m a_m rr1_0]) H → va_D A (List.flatten [w4 cs o_m a_m rr1_0]) → va_S A s.heap H locs → lv_has ls 4 [] → W p l e R s m args below meth c H locs 0 0 Q (F0 m 62 ls []) := by
    intro rr1_0 eq1 H locs ls hP hD hS hl
    subst eq1
    obtain rfl := Option.some.inj hf
    exact mretV hx hb hr hlocks hK hP hD hS hQ dX4_price_62
  clear hf
  have L1 : ∀ n1, ∀ v2 : Int32 × St, lp n1 (f4_price_L1 x1) v2 = some q1 → ∀ (H : Heap) (locs : List Loc) (ls : Array Slot), va_P D vwCl (List.flatten [w4 cs o_m a_m v2.2]) H → va_D A (List.flatten [w4 cs o_m a_m v2.2]) → va_S A s.heap H locs → lv_has ls 4 [(0, .ref o_m), (1, .int x1), (2, .int v2.1)] → W p l e R s m args below meth c H locs 0 0 Q (F0 m 2 ls []) := by
    intro n1
    induction n1 with
    | zero => intro v2 hn; cases hn
    | succ n1 ih1 =>
      intro v2 hn1 H locs ls hP hD hS hl
      obtain ⟨y1, hf, hn1⟩ := lp_succ hn1
      unfold f4_price_L1 at hf
      refine lv_iload_n hx hb dX4_price_2 rfl (lv_at hl 2 rfl) ?_
      refine lv_bipush (v := 12) hx hb dX4_price_3 (by decide) ?_
      refine lv_icmp_ge (tgt := 62) hx hb dX4_price_5 (by decide) (fun hc => ?_) (fun hc => ?_)
      · have hf := ifp hc hf
        cases hf
        exact Jq1_0 _ (Option.some.inj hn1).symm _ _ _ hP hD hS (lv_sub hl [] rfl)
      · have hf := ifn hc hf
        refine lv_iload_n hx hb dX4_price_8 rfl (lv_at hl 2 rfl) ?_
        refine lv_iconst (v := 1) hx hb dX4_price_9 (by decide) ?_
        refine lv_iadd hx hb dX4_price_10 ?_
        refine lv_istore_n (lv' := [(3, .int (v2.1 + 1)), (0, .ref o_m), (1, .int x1), (2, .int v2.1)]) hx hb dX4_price_11 rfl hl (by decide) rfl (fun ls hl => ?_)
        obtain ⟨q3, hq3, hf⟩ := bnd hf
        obtain ⟨n3, hq3⟩ := lpw_ex hq3
        have Jq3_0 : ∀ rr3_0 : St, q3 = rr3_0 → ∀ (H : Heap) (locs : List Loc) (ls : Array Slot), va_P D vwCl (List.flatten [w4 cs o_m a_m rr3_0]) H → va_D A (List.flatten [w4 cs o_m a_m rr3_0]) → va_S A s.heap H locs → lv_has ls 4 [(0, .ref o_m), (1, .int x1), (2, .int v2.1)] → W p l e R s m args below meth c H locs 0 0 Q (F0 m 56 ls []) := by
          intro rr3_0 eq3 H locs ls hP hD hS hl
          subst eq3
          refine lv_iinc (v := (v2.1 + 1)) (lv' := [(2, .int (v2.1 + 1)), (0, .ref o_m), (1, .int x1)]) hx hb dX4_price_56 hl (k := 2) rfl rfl (by decide) rfl (fun ls hl => ?_)
          refine lv_goto (tgt := 2) hx hb dX4_price_59 (by decide) ?_
          cases hf
          exact ih1 _ hn1 _ _ _ hP hD hS (lv_sub hl [1, 2, 0] rfl)
        clear hf
        have L3 : ∀ n3, ∀ v4 : Int32 × St, lp n3 (f4_price_L3 x1 v2) v4 = some q3 → ∀ (H : Heap) (locs : List Loc) (ls : Array Slot), va_P D vwCl (List.flatten [w4 cs o_m a_m v4.2]) H → va_D A (List.flatten [w4 cs o_m a_m v4.2]) → va_S A s.heap H locs → lv_has ls 4 [(0, .ref o_m), (1, .int x1), (2, .int v2.1), (3, .int v4.1)] → W p l e R s m args below meth c H locs 0 0 Q (F0 m 12 ls []) := by
          intro n3
          induction n3 with
          | zero => intro v4 hn; cases hn
          | succ n3 ih3 =>
            intro v4 hn3 H locs ls hP hD hS hl
            obtain ⟨y3, hf, hn3⟩ := lp_succ hn3
            unfold f4_price_L3 at hf
            refine lv_iload_n hx hb dX4_price_12 rfl (lv_at hl 3 rfl) ?_
            refine lv_bipush (v := 12) hx hb dX4_price_13 (by decide) ?_
            refine lv_icmp_ge (tgt := 56) hx hb dX4_price_15 (by decide) (fun hc => ?_) (fun hc => ?_)
            · have hf := ifp hc hf
              cases hf
              exact Jq3_0 _ (Option.some.inj hn3).symm _ _ _ hP hD hS (lv_sub hl [0, 1, 2] rfl)
            · have hf := ifn hc hf
              refine lv_iload_n hx hb dX4_price_18 rfl (lv_at hl 1 rfl) ?_
              refine lv_iload_n hx hb dX4_price_19 rfl (lv_at hl 2 rfl) ?_
              refine lv_ishr hx hb dX4_price_20 ?_
              refine lv_iconst (v := 1) hx hb dX4_price_21 (by decide) ?_
              refine lv_iand hx hb dX4_price_22 ?_
              refine lv_iconst (v := 1) hx hb dX4_price_23 (by decide) ?_
              obtain ⟨q5, hq5, hf⟩ := bnd hf
              have Jq5 : ∀ r5 : St, q5 = r5 → ∀ (H : Heap) (locs : List Loc) (ls : Array Slot), va_P D vwCl (List.flatten [w4 cs o_m a_m r5]) H → va_D A (List.flatten [w4 cs o_m a_m r5]) → va_S A s.heap H locs → lv_has ls 4 [(0, .ref o_m), (1, .int x1), (2, .int v2.1), (3, .int v4.1)] → W p l e R s m args below meth c H locs 0 0 Q (F0 m 50 ls []) := by
                intro r5 eq5 H locs ls hP hD hS hl
                subst eq5
                refine lv_iinc (v := (v4.1 + 1)) (lv' := [(3, .int (v4.1 + 1)), (0, .ref o_m), (1, .int x1), (2, .int v2.1)]) hx hb dX4_price_50 hl (k := 3) rfl rfl (by decide) rfl (fun ls hl => ?_)
                refine lv_goto (tgt := 12) hx hb dX4_price_53 (by decide) ?_
                cases hf
                exact ih3 _ hn3 _ _ _ hP hD hS (lv_sub hl [1, 2, 3, 0] rfl)
              clear hf
              have hf := hq5
              refine lv_icmp_ne (tgt := 50) hx hb dX4_price_24 (by decide) (fun hc => ?_) (fun hc => ?_)
              · have hf := ifn hc hf
                exact Jq5 _ (Option.some.inj hf).symm _ _ _ hP hD hS (lv_sub hl [0, 1, 2, 3] rfl)
              · have hf := ifp hc hf
                refine lv_iload_n hx hb dX4_price_27 rfl (lv_at hl 1 rfl) ?_
                refine lv_iload_n hx hb dX4_price_28 rfl (lv_at hl 3 rfl) ?_
                refine lv_ishr hx hb dX4_price_29 ?_
                refine lv_iconst (v := 1) hx hb dX4_price_30 (by decide) ?_
                refine lv_iand hx hb dX4_price_31 ?_
                refine lv_iconst (v := 1) hx hb dX4_price_32 (by decide) ?_
                refine lv_icmp_ne (tgt := 50) hx hb dX4_price_33 (by decide) (fun hc => ?_) (fun hc => ?_)
                · have hf := ifn hc hf
                  exact Jq5 _ (Option.some.inj hf).symm _ _ _ hP hD hS (lv_sub hl [0, 1, 2, 3] rfl)
                · have hf := ifp hc hf
                  refine lv_aload_n hx hb dX4_price_36 rfl (lv_at hl 0 rfl) ?_
                  refine gfB (i0 := 0) (own := RX4) (T := TX4) (k := 2) (v := .ref (a_m 2)) hx hb htX4 hown hK hP rfl e4 rfl (by decide) (hW _ wd376) rfl dX4_price_37 ?_
                  refine lv_iload_n hx hb dX4_price_40 rfl (lv_at hl 2 rfl) ?_
                  obtain ⟨q6, eq6, hf⟩ := bnd hf
                  obtain ⟨gq6, eq6, bq6⟩ := ckO_e eq6
                  refine qldG (i0 := 0) hx hb hK hP rfl a4_2 gq6 dX4_price_41 ?_
                  refine lv_nmr (a := a_m (100 + q6)) (by rw [eq6]; rfl) ?_
                  refine lv_iload_n hx hb dX4_price_42 rfl (lv_at hl 3 rfl) ?_
                  refine lv_aload_n hx hb dX4_price_43 rfl (lv_at hl 0 rfl) ?_
                  refine lv_iload_n hx hb dX4_price_44 rfl (lv_at hl 2 rfl) ?_
                  refine lv_iload_n hx hb dX4_price_45 rfl (lv_at hl 3 rfl) ?_
                  obtain ⟨q7, eq7, hf⟩ := bnd hf
                  refine mcVi (v := q7) (rest := [.int v4.1, .ref (a_m (100 + q6))]) (Bn := [w4 cs o_m a_m v4.2]) (isR := []) (isC := [0]) (i0 := 0) ⟨hx, hb, hml, hown, hts⟩ hK hP hD hS hA hG (c4_hoursAtOdds l D cs o_m a_m v4.2 H.size v2.1 v4.1 _ eq7) (cwV 2 hts (gV wd1141 wd1118 wd1119 wd113 wd1120) rfl rfl rfl (by decide +kernel) ⟨by rw [hR]; exact Nat.le_of_ble_eq_true rfl, by rw [hR]; exact Nat.le_of_ble_eq_true rfl⟩) 1 (by decide) rfl rfl rfl rfl rfl rfl rfl e4 rfl rfl rfl hl.1 rfl (Nat.le_of_ble_eq_true rfl) ⟨Nat.zero_le _, Nat.zero_le _⟩ dX4_price_46 (fun H locs hP hD hS => ?_)
                  obtain ⟨s8, es8, hf⟩ := bnd hf
                  obtain ⟨gs8, es8⟩ := stS_e es8
                  refine astB (i0 := 0) (Bn := [w4 cs o_m a_m s8]) hx hb hK hP hD hS rfl (r4_2 q6 bq6) gs8 rfl dX4_price_49 (by rw [← es8]; exact (rv4_2 q6 bq6)) rfl (fun H locs hP hD hS => ?_)
                  exact Jq5 _ (Option.some.inj hf).symm _ _ _ hP hD hS (lv_sub hl [0, 1, 2, 3] rfl)
        exact L3 _ _ hq3 _ _ _ hP hD hS (lv_sub hl [1, 2, 3, 0] rfl)
  exact L1 _ _ hq1 _ _ _ hP hD hS (lv_sub hl [1, 2, 0] rfl)
/-! TwinLamps$Matching.costWith -/
noncomputable def f4_costWith (s_m : St) (x1 : Int32) (x2 : Int32) (x3 : Int32) : Option (Int32) :=
  (ckO 12 x2).bind fun q1 =>
  (ldO 12 (s_m.2 (100 + q1)) x3).bind fun q2 =>
  (ldO 4096 (s_m.2 3) (x1 &&& ((((1 : Int32) <<< (x2 &&& 31)) ||| ((1 : Int32) <<< (x3 &&& 31))) ^^^ (-1)))).bind fun q3 =>
  some (q2 + q3)
set_option maxHeartbeats 4000000 in
set_option maxRecDepth 100000 in
theorem c4_costWith (l : Launch) (D : va_G) (cs : xE) (o_m : Nat) (a_m : Nat → Nat) (s_m : St) (sz : Nat) (x1 : Int32) (x2 : Int32) (x3 : Int32) (res : Int32) (hf : f4_costWith s_m x1 x2 x3 = some res) : Met l yX4_costWith (Cond.code yX4_costWith cX4_costWith 4 (some .int) :: WG) { frames := 0, cells := 0, slots := 0, locals := 0 } (va_Pc [.ref o_m, .int x1, .int x2, .int x3] (mP D cs (List.flatten [w4 cs o_m a_m s_m]) sz)) (qI D cs res (List.flatten [w4 cs o_m a_m s_m]) (va_A (List.flatten [w4 cs o_m a_m s_m]) sz)) 0 0 (va_A (List.flatten [w4 cs o_m a_m s_m]) sz) := by
  refine mgo (Qc := qI D cs res (List.flatten [w4 cs o_m a_m s_m])) (cc := cX4_costWith) (maxL := 4) (ret := (some .int)) (by decide) rfl (Nat.le_of_ble_eq_true rfl) ?_
  intro p e s m below meth c ls A R Q args H hR hQ hx hb hml hr hlocks hown hts hP hK hD hA hS hG hl
  have hown : s.vm.findClass RX4 = some m.cls := hown
  have hl : lv_has ls 4 [(0, .ref o_m), (1, .int x1), (2, .int x2), (3, .int x3)] := hl
  have hW : ∀ w ∈ WG, w.before args s = true := fun w h => hts w (List.mem_cons_of_mem _ h)
  have htX4 : ∀ w ∈ u_ws RX4 TX4 4, w.before args s = true := fun w h => hW w (inW_X4 w h)
  unfold f4_costWith at hf
  refine lv_aload_n hx hb dX4_costWith_0 rfl (lv_at hl 0 rfl) ?_
  refine gfB (i0 := 0) (own := RX4) (T := TX4) (k := 2) (v := .ref (a_m 2)) hx hb htX4 hown hK hP rfl e4 rfl (by decide) (hW _ wd376) rfl dX4_costWith_1 ?_
  refine lv_iload_n hx hb dX4_costWith_4 rfl (lv_at hl 2 rfl) ?_
  obtain ⟨q1, eq1, hf⟩ := bnd hf
  obtain ⟨gq1, eq1, bq1⟩ := ckO_e eq1
  refine qldG (i0 := 0) hx hb hK hP rfl a4_2 gq1 dX4_costWith_5 ?_
  refine lv_nmr (a := a_m (100 + q1)) (by rw [eq1]; rfl) ?_
  refine lv_iload_n hx hb dX4_costWith_6 rfl (lv_at hl 3 rfl) ?_
  obtain ⟨q2, eq2, hf⟩ := bnd hf
  obtain ⟨gq2, eq2⟩ := ldO_e eq2
  refine aldB (i0 := 0) hx hb hK hP rfl (r4_2 q1 bq1) gq2 dX4_costWith_7 ?_
  refine lv_nm eq2 ?_
  refine lv_aload_n hx hb dX4_costWith_8 rfl (lv_at hl 0 rfl) ?_
  refine gfB (i0 := 0) (own := RX4) (T := TX4) (k := 3) (v := .ref (a_m 3)) hx hb htX4 hown hK hP rfl e4 rfl (by decide) (hW _ wd377) rfl dX4_costWith_9 ?_
  refine lv_iload_n hx hb dX4_costWith_12 rfl (lv_at hl 1 rfl) ?_
  refine lv_iconst (v := 1) hx hb dX4_costWith_13 (by decide) ?_
  refine lv_iload_n hx hb dX4_costWith_14 rfl (lv_at hl 2 rfl) ?_
  refine lv_ishl hx hb dX4_costWith_15 ?_
  refine lv_iconst (v := 1) hx hb dX4_costWith_16 (by decide) ?_
  refine lv_iload_n hx hb dX4_costWith_17 rfl (lv_at hl 3 rfl) ?_
  refine lv_ishl hx hb dX4_costWith_18 ?_
  refine lv_ior hx hb dX4_costWith_19 ?_
  refine lv_iconst (v := (-1)) hx hb dX4_costWith_20 (by decide) ?_
  refine lv_ixor hx hb dX4_costWith_21 ?_
  refine lv_iand hx hb dX4_costWith_22 ?_
  obtain ⟨q3, eq3, hf⟩ := bnd hf
  obtain ⟨gq3, eq3⟩ := ldO_e eq3
  refine aldB (i0 := 0) hx hb hK hP rfl a4_3 gq3 dX4_costWith_23 ?_
  refine lv_nm eq3 ?_
  refine lv_iadd hx hb dX4_costWith_24 ?_
  obtain rfl := Option.some.inj hf
  exact mretI hx hb hr hlocks hK hP hD hS rfl hQ dX4_costWith_25
/-! TwinLamps$Matching.weigh -/
noncomputable def f4_weigh_L9 (q8 : Int32) (v4 : Int32 × St) (v10 : Int32 × St) : Option ((Int32 × St) ⊕ (St)) :=
  if (12 : Int32) ≤ v10.1 then some (.inr v10.2) else ((if ((v4.1 >>> (v10.1 &&& 31)) &&& 1) = 1 then ((ldO 4096 (v10.2.2 3) v4.1).bind fun q12 =>
  (f4_costWith v10.2 v4.1 q8 v10.1).bind fun q13 =>
  (stS 4096 v10.2 3 v4.1 (jmin q12 q13)).bind fun s14 =>
  some s14)
  else some v10.2 : Option (St))).bind fun q11 =>
  some (.inl ((v10.1 + 1), q11))
noncomputable def f4_weigh_L3 (x1 : Int32) (v4 : Int32 × St) : Option ((Int32 × St) ⊕ (St)) :=
  if (4096 : Int32) ≤ v4.1 then some (.inr v4.2) else if x1 < v4.1 then some (.inr v4.2) else ((if (v4.1 &&& (x1 ^^^ (-1))) = 0 then ((fJ6_bitCount v4.1).bind fun q6 =>
  if (q6 - q6 / 2 * 2) = 0 then ((stS 4096 v4.2 3 v4.1 1000000).bind fun s7 =>
  (fJ6_numberOfTrailingZeros v4.1).bind fun q8 =>
  (lpw (f4_weigh_L9 q8 v4) ((q8 + 1), s7)).bind fun q9 =>
  some q9)
  else some v4.2)
  else some v4.2 : Option (St))).bind fun q5 =>
  some (.inl ((v4.1 + 1), q5))
noncomputable def f4_weigh (s_m : St) (x1 : Int32) : Option (St) :=
  (f4_price s_m x1).bind fun q1 =>
  (some (sA q1 3 (upd (q1.2 3) (0 : Int32).toNatClampNeg 0))).bind fun s2 =>
  (lpw (f4_weigh_L3 x1) (1, s2)).bind fun q3 =>
  some q3
set_option maxHeartbeats 4000000 in
set_option maxRecDepth 100000 in
theorem c4_weigh (l : Launch) (D : va_G) (cs : xE) (o_m : Nat) (a_m : Nat → Nat) (s_m : St) (sz : Nat) (x1 : Int32) (res : St) (hf : f4_weigh s_m x1 = some res) : Met l yX4_weigh (Cond.code yX4_weigh cX4_weigh 5 none :: WG) { frames := 3, cells := 0, slots := 0, locals := 68 } (va_Pc [.ref o_m, .int x1] (mP D cs (List.flatten [w4 cs o_m a_m s_m]) sz)) (qV D cs (List.flatten [w4 cs o_m a_m res]) (va_A (List.flatten [w4 cs o_m a_m s_m]) sz)) 0 0 (va_A (List.flatten [w4 cs o_m a_m s_m]) sz) := by
  refine mgo (Qc := qV D cs (List.flatten [w4 cs o_m a_m res])) (cc := cX4_weigh) (maxL := 5) (ret := none) (by decide) rfl (Nat.le_of_ble_eq_true rfl) ?_
  intro p e s m below meth c ls A R Q args H hR hQ hx hb hml hr hlocks hown hts hP hK hD hA hS hG hl
  have hown : s.vm.findClass RX4 = some m.cls := hown
  have hl : lv_has ls 5 [(0, .ref o_m), (1, .int x1)] := hl
  have hW : ∀ w ∈ WG, w.before args s = true := fun w h => hts w (List.mem_cons_of_mem _ h)
  have htX4 : ∀ w ∈ u_ws RX4 TX4 4, w.before args s = true := fun w h => hW w (inW_X4 w h)
  unfold f4_weigh at hf
  refine lv_aload_n hx hb dX4_weigh_0 rfl (lv_at hl 0 rfl) ?_
  refine lv_iload_n hx hb dX4_weigh_1 rfl (lv_at hl 1 rfl) ?_
  obtain ⟨q1, eq1, hf⟩ := bnd hf
  refine mcVv (rest := []) (Bn := [w4 cs o_m a_m q1]) (isR := []) (isC := [0]) (i0 := 0) ⟨hx, hb, hml, hown, hts⟩ hK hP hD hS hA hG (c4_price l D cs o_m a_m s_m H.size x1 _ eq1) (cwV 1 hts (gV wd1137 wd1139 wd28 wd113 wd1140) rfl rfl rfl (by decide +kernel) ⟨by rw [hR]; exact Nat.le_of_ble_eq_true rfl, by rw [hR]; exact Nat.le_of_ble_eq_true rfl⟩) 1 (by decide) rfl rfl rfl rfl rfl rfl rfl e4 rfl rfl rfl hl.1 rfl (Nat.le_of_ble_eq_true rfl) ⟨Nat.zero_le _, Nat.zero_le _⟩ dX4_weigh_2 (fun H locs hP hD hS => ?_)
  refine lv_aload_n hx hb dX4_weigh_5 rfl (lv_at hl 0 rfl) ?_
  refine gfB (i0 := 0) (own := RX4) (T := TX4) (k := 3) (v := .ref (a_m 3)) hx hb htX4 hown hK hP rfl e4 rfl (by decide) (hW _ wd377) rfl dX4_weigh_6 ?_
  refine lv_iconst (v := 0) hx hb dX4_weigh_9 (by decide) ?_
  refine lv_iconst (v := 0) hx hb dX4_weigh_10 (by decide) ?_
  obtain ⟨s2, es2, hf⟩ := bnd hf
  replace es2 := Option.some.inj es2
  refine astB (i0 := 0) (Bn := [w4 cs o_m a_m s2]) hx hb hK hP hD hS rfl a4_3 (vpc (by decide +kernel)) rfl dX4_weigh_11 (by rw [← es2]; exact v4_3) rfl (fun H locs hP hD hS => ?_)
  refine lv_iconst (v := 1) hx hb dX4_weigh_12 (by decide) ?_
  refine lv_istore_n (lv' := [(2, .int 1), (0, .ref o_m), (1, .int x1)]) hx hb dX4_weigh_13 rfl hl (by decide) rfl (fun ls hl => ?_)
  obtain ⟨q3, hq3, hf⟩ := bnd hf
  obtain ⟨n3, hq3⟩ := lpw_ex hq3
  have Jq3_0 : ∀ rr3_0 : St, q3 = rr3_0 → ∀ (H : Heap) (locs : List Loc) (ls : Array Slot), va_P D vwCl (List.flatten [w4 cs o_m a_m rr3_0]) H → va_D A (List.flatten [w4 cs o_m a_m rr3_0]) → va_S A s.heap H locs → lv_has ls 5 [] → W p l e R s m args below meth c H locs 0 0 Q (F0 m 115 ls []) := by
    intro rr3_0 eq3 H locs ls hP hD hS hl
    subst eq3
    obtain rfl := Option.some.inj hf
    exact mretV hx hb hr hlocks hK hP hD hS hQ dX4_weigh_115
  clear hf
  have L3 : ∀ n3, ∀ v4 : Int32 × St, lp n3 (f4_weigh_L3 x1) v4 = some q3 → ∀ (H : Heap) (locs : List Loc) (ls : Array Slot), va_P D vwCl (List.flatten [w4 cs o_m a_m v4.2]) H → va_D A (List.flatten [w4 cs o_m a_m v4.2]) → va_S A s.heap H locs → lv_has ls 5 [(0, .ref o_m), (1, .int x1), (2, .int v4.1)] → W p l e R s m args below meth c H locs 0 0 Q (F0 m 14 ls []) := by
    intro n3
    induction n3 with
    | zero => intro v4 hn; cases hn
    | succ n3 ih3 =>
      intro v4 hn3 H locs ls hP hD hS hl
      obtain ⟨y3, hf, hn3⟩ := lp_succ hn3
      unfold f4_weigh_L3 at hf
      refine lv_iload_n hx hb dX4_weigh_14 rfl (lv_at hl 2 rfl) ?_
      refine lv_aload_n hx hb dX4_weigh_15 rfl (lv_at hl 0 rfl) ?_
      refine gfB (i0 := 0) (own := RX4) (T := TX4) (k := 3) (v := .ref (a_m 3)) hx hb htX4 hown hK hP rfl e4 rfl (by decide) (hW _ wd377) rfl dX4_weigh_16 ?_
      refine alnB (v := 4096) (i0 := 0) 0 hx hb hK hP rfl a4_3 rfl (by decide +kernel) dX4_weigh_19 ?_
      refine lv_icmp_ge (tgt := 115) hx hb dX4_weigh_20 (by decide) (fun hc => ?_) (fun hc => ?_)
      · have hf := ifp hc hf
        cases hf
        exact Jq3_0 _ (Option.some.inj hn3).symm _ _ _ hP hD hS (lv_sub hl [] rfl)
      · have hf := ifn hc hf
        refine lv_iload_n hx hb dX4_weigh_23 rfl (lv_at hl 2 rfl) ?_
        refine lv_iload_n hx hb dX4_weigh_24 rfl (lv_at hl 1 rfl) ?_
        refine lv_icmp_gt (tgt := 115) hx hb dX4_weigh_25 (by decide) (fun hc => ?_) (fun hc => ?_)
        · have hf := ifp hc hf
          cases hf
          exact Jq3_0 _ (Option.some.inj hn3).symm _ _ _ hP hD hS (lv_sub hl [] rfl)
        · have hf := ifn hc hf
          refine lv_iload_n hx hb dX4_weigh_28 rfl (lv_at hl 2 rfl) ?_
          refine lv_iload_n hx hb dX4_weigh_29 rfl (lv_at hl 1 rfl) ?_
          refine lv_iconst (v := (-1)) hx hb dX4_weigh_30 (by decide) ?_
          refine lv_ixor hx hb dX4_weigh_31 ?_
          refine lv_iand hx hb dX4_weigh_32 ?_
          obtain ⟨q5, hq5, hf⟩ := bnd hf
          have Jq5 : ∀ r5 : St, q5 = r5 → ∀ (H : Heap) (locs : List Loc) (ls : Array Slot), va_P D vwCl (List.flatten [w4 cs o_m a_m r5]) H → va_D A (List.flatten [w4 cs o_m a_m r5]) → va_S A s.heap H locs → lv_has ls 5 [(0, .ref o_m), (1, .int x1), (2, .int v4.1)] → W p l e R s m args below meth c H locs 0 0 Q (F0 m 109 ls []) := by
            intro r5 eq5 H locs ls hP hD hS hl
            subst eq5
            refine lv_iinc (v := (v4.1 + 1)) (lv' := [(2, .int (v4.1 + 1)), (0, .ref o_m), (1, .int x1)]) hx hb dX4_weigh_109 hl (k := 2) rfl rfl (by decide) rfl (fun ls hl => ?_)
            refine lv_goto (tgt := 14) hx hb dX4_weigh_112 (by decide) ?_
            cases hf
            exact ih3 _ hn3 _ _ _ hP hD hS (lv_sub hl [1, 2, 0] rfl)
          clear hf
          have hf := hq5
          refine lv_if_ne (tgt := 109) hx hb dX4_weigh_33 (by decide) (fun hc => ?_) (fun hc => ?_)
          · have hf := ifn hc hf
            exact Jq5 _ (Option.some.inj hf).symm _ _ _ hP hD hS (lv_sub hl [0, 1, 2] rfl)
          · have hf := ifp hc hf
            refine lv_iload_n hx hb dX4_weigh_36 rfl (lv_at hl 2 rfl) ?_
            obtain ⟨q6, eq6, hf⟩ := bnd hf
            refine mcSi0 (v := q6) (As := [.int v4.1]) (rest := []) ⟨hx, hb, hml, hown, hts⟩ hK hP hS hA hG (cJ6_bitCount l D cs H.size v4.1 _ eq6) (va_cwS 1 hts (gS wd1121 wd535 wd127 wd536) rfl rfl rfl (by decide +kernel) ⟨by rw [hR]; exact Nat.le_of_ble_eq_true rfl, by rw [hR]; exact Nat.le_of_ble_eq_true rfl⟩) rfl hl.1 rfl (Nat.le_of_ble_eq_true rfl) ⟨Nat.zero_le _, Nat.zero_le _⟩ dX4_weigh_37 (fun H locs hP hS => ?_)
            refine lv_iconst (v := 2) hx hb dX4_weigh_40 (by decide) ?_
            refine lv_irem hx hb dX4_weigh_41 (by decide) ?_
            refine lv_if_ne (tgt := 109) hx hb dX4_weigh_42 (by decide) (fun hc => ?_) (fun hc => ?_)
            · have hf := ifn hc hf
              exact Jq5 _ (Option.some.inj hf).symm _ _ _ hP hD hS (lv_sub hl [0, 1, 2] rfl)
            · have hf := ifp hc hf
              refine lv_aload_n hx hb dX4_weigh_45 rfl (lv_at hl 0 rfl) ?_
              refine gfB (i0 := 0) (own := RX4) (T := TX4) (k := 3) (v := .ref (a_m 3)) hx hb htX4 hown hK hP rfl e4 rfl (by decide) (hW _ wd377) rfl dX4_weigh_46 ?_
              refine lv_iload_n hx hb dX4_weigh_49 rfl (lv_at hl 2 rfl) ?_
              refine lv_ldc (v := 1000000) hx hb hown (hW _ wd1142) dX4_weigh_50 ?_
              obtain ⟨s7, es7, hf⟩ := bnd hf
              obtain ⟨gs7, es7⟩ := stS_e es7
              refine astB (i0 := 0) (Bn := [w4 cs o_m a_m s7]) hx hb hK hP hD hS rfl a4_3 gs7 rfl dX4_weigh_52 (by rw [← es7]; exact v4_3) rfl (fun H locs hP hD hS => ?_)
              refine lv_iload_n hx hb dX4_weigh_53 rfl (lv_at hl 2 rfl) ?_
              obtain ⟨q8, eq8, hf⟩ := bnd hf
              refine mcSi0 (v := q8) (As := [.int v4.1]) (rest := []) ⟨hx, hb, hml, hown, hts⟩ hK hP hS hA hG (cJ6_numberOfTrailingZeros l D cs H.size v4.1 _ eq8) (va_cwS 1 hts (gS wd1143 wd1144 wd127 wd1145) rfl rfl rfl (by decide +kernel) ⟨by rw [hR]; exact Nat.le_of_ble_eq_true rfl, by rw [hR]; exact Nat.le_of_ble_eq_true rfl⟩) rfl hl.1 rfl (Nat.le_of_ble_eq_true rfl) ⟨Nat.zero_le _, Nat.zero_le _⟩ dX4_weigh_54 (fun H locs hP hS => ?_)
              refine lv_istore_n (lv' := [(3, .int q8), (0, .ref o_m), (1, .int x1), (2, .int v4.1)]) hx hb dX4_weigh_57 rfl hl (by decide) rfl (fun ls hl => ?_)
              refine lv_iload_n hx hb dX4_weigh_58 rfl (lv_at hl 0 rfl) ?_
              refine lv_iconst (v := 1) hx hb dX4_weigh_59 (by decide) ?_
              refine lv_iadd hx hb dX4_weigh_60 ?_
              refine lv_istore (lv' := [(4, .int (q8 + 1)), (3, .int q8), (0, .ref o_m), (1, .int x1), (2, .int v4.1)]) hx hb dX4_weigh_61 hl (by decide) rfl (fun ls hl => ?_)
              obtain ⟨q9, hq9, hf⟩ := bnd hf
              obtain ⟨n9, hq9⟩ := lpw_ex hq9
              have Jq9_0 : ∀ rr9_0 : St, q9 = rr9_0 → ∀ (H : Heap) (locs : List Loc) (ls : Array Slot), va_P D vwCl (List.flatten [w4 cs o_m a_m rr9_0]) H → va_D A (List.flatten [w4 cs o_m a_m rr9_0]) → va_S A s.heap H locs → lv_has ls 5 [(0, .ref o_m), (1, .int x1), (2, .int v4.1)] → W p l e R s m args below meth c H locs 0 0 Q (F0 m 109 ls []) := by
                intro rr9_0 eq9 H locs ls hP hD hS hl
                subst eq9
                exact Jq5 _ (Option.some.inj hf).symm _ _ _ hP hD hS (lv_sub hl [0, 1, 2] rfl)
              clear hf
              have L9 : ∀ n9, ∀ v10 : Int32 × St, lp n9 (f4_weigh_L9 q8 v4) v10 = some q9 → ∀ (H : Heap) (locs : List Loc) (ls : Array Slot), va_P D vwCl (List.flatten [w4 cs o_m a_m v10.2]) H → va_D A (List.flatten [w4 cs o_m a_m v10.2]) → va_S A s.heap H locs → lv_has ls 5 [(0, .ref o_m), (1, .int x1), (2, .int v4.1), (3, .int q8), (4, .int v10.1)] → W p l e R s m args below meth c H locs 0 0 Q (F0 m 63 ls []) := by
                intro n9
                induction n9 with
                | zero => intro v10 hn; cases hn
                | succ n9 ih9 =>
                  intro v10 hn9 H locs ls hP hD hS hl
                  obtain ⟨y9, hf, hn9⟩ := lp_succ hn9
                  unfold f4_weigh_L9 at hf
                  refine lv_iload hx hb dX4_weigh_63 (lv_at hl 4 rfl) ?_
                  refine lv_bipush (v := 12) hx hb dX4_weigh_65 (by decide) ?_
                  refine lv_icmp_ge (tgt := 109) hx hb dX4_weigh_67 (by decide) (fun hc => ?_) (fun hc => ?_)
                  · have hf := ifp hc hf
                    cases hf
                    exact Jq9_0 _ (Option.some.inj hn9).symm _ _ _ hP hD hS (lv_sub hl [0, 1, 2] rfl)
                  · have hf := ifn hc hf
                    refine lv_iload_n hx hb dX4_weigh_70 rfl (lv_at hl 2 rfl) ?_
                    refine lv_iload hx hb dX4_weigh_71 (lv_at hl 4 rfl) ?_
                    refine lv_ishr hx hb dX4_weigh_73 ?_
                    refine lv_iconst (v := 1) hx hb dX4_weigh_74 (by decide) ?_
                    refine lv_iand hx hb dX4_weigh_75 ?_
                    refine lv_iconst (v := 1) hx hb dX4_weigh_76 (by decide) ?_
                    obtain ⟨q11, hq11, hf⟩ := bnd hf
                    have Jq11 : ∀ r11 : St, q11 = r11 → ∀ (H : Heap) (locs : List Loc) (ls : Array Slot), va_P D vwCl (List.flatten [w4 cs o_m a_m r11]) H → va_D A (List.flatten [w4 cs o_m a_m r11]) → va_S A s.heap H locs → lv_has ls 5 [(0, .ref o_m), (1, .int x1), (2, .int v4.1), (3, .int q8), (4, .int v10.1)] → W p l e R s m args below meth c H locs 0 0 Q (F0 m 103 ls []) := by
                      intro r11 eq11 H locs ls hP hD hS hl
                      subst eq11
                      refine lv_iinc (v := (v10.1 + 1)) (lv' := [(4, .int (v10.1 + 1)), (0, .ref o_m), (1, .int x1), (2, .int v4.1), (3, .int q8)]) hx hb dX4_weigh_103 hl (k := 4) rfl rfl (by decide) rfl (fun ls hl => ?_)
                      refine lv_goto (tgt := 63) hx hb dX4_weigh_106 (by decide) ?_
                      cases hf
                      exact ih9 _ hn9 _ _ _ hP hD hS (lv_sub hl [1, 2, 3, 4, 0] rfl)
                    clear hf
                    have hf := hq11
                    refine lv_icmp_ne (tgt := 103) hx hb dX4_weigh_77 (by decide) (fun hc => ?_) (fun hc => ?_)
                    · have hf := ifn hc hf
                      exact Jq11 _ (Option.some.inj hf).symm _ _ _ hP hD hS (lv_sub hl [0, 1, 2, 3, 4] rfl)
                    · have hf := ifp hc hf
                      refine lv_aload_n hx hb dX4_weigh_80 rfl (lv_at hl 0 rfl) ?_
                      refine gfB (i0 := 0) (own := RX4) (T := TX4) (k := 3) (v := .ref (a_m 3)) hx hb htX4 hown hK hP rfl e4 rfl (by decide) (hW _ wd377) rfl dX4_weigh_81 ?_
                      refine lv_iload_n hx hb dX4_weigh_84 rfl (lv_at hl 2 rfl) ?_
                      refine lv_aload_n hx hb dX4_weigh_85 rfl (lv_at hl 0 rfl) ?_
                      refine gfB (i0 := 0) (own := RX4) (T := TX4) (k := 3) (v := .ref (a_m 3)) hx hb htX4 hown hK hP rfl e4 rfl (by decide) (hW _ wd377) rfl dX4_weigh_86 ?_
                      refine lv_iload_n hx hb dX4_weigh_89 rfl (lv_at hl 2 rfl) ?_
                      obtain ⟨q12, eq12, hf⟩ := bnd hf
                      obtain ⟨gq12, eq12⟩ := ldO_e eq12
                      refine aldB (i0 := 0) hx hb hK hP rfl a4_3 gq12 dX4_weigh_90 ?_
                      refine lv_nm eq12 ?_
                      refine lv_aload_n hx hb dX4_weigh_91 rfl (lv_at hl 0 rfl) ?_
                      refine lv_iload_n hx hb dX4_weigh_92 rfl (lv_at hl 2 rfl) ?_
                      refine lv_iload_n hx hb dX4_weigh_93 rfl (lv_at hl 3 rfl) ?_
                      refine lv_iload hx hb dX4_weigh_94 (lv_at hl 4 rfl) ?_
                      obtain ⟨q13, eq13, hf⟩ := bnd hf
                      refine mcVi (v := q13) (rest := [.int q12, .int v4.1, .ref (a_m 3)]) (Bn := [w4 cs o_m a_m v10.2]) (isR := []) (isC := [0]) (i0 := 0) ⟨hx, hb, hml, hown, hts⟩ hK hP hD hS hA hG (c4_costWith l D cs o_m a_m v10.2 H.size v4.1 q8 v10.1 _ eq13) (cwV 3 hts (gV wd1147 wd1149 wd29 wd113 wd1150) rfl rfl rfl (by decide +kernel) ⟨by rw [hR]; exact Nat.le_of_ble_eq_true rfl, by rw [hR]; exact Nat.le_of_ble_eq_true rfl⟩) 1 (by decide) rfl rfl rfl rfl rfl rfl rfl e4 rfl rfl rfl hl.1 rfl (Nat.le_of_ble_eq_true rfl) ⟨Nat.zero_le _, Nat.zero_le _⟩ dX4_weigh_96 (fun H locs hP hD hS => ?_)
                      refine va_mmin hx hb (hml.trans hl.1.symm) (own := RX4) (index := 48) hown (hW _ wd1151) (hW _ wd1152) (hW _ wd126) (hW _ wd1153) (by rw [hR]; exact Nat.le_of_ble_eq_true rfl) (by rw [hR]; exact Nat.le_of_ble_eq_true rfl) (Nat.zero_le _) (Nat.zero_le _) dX4_weigh_99 ?_
                      refine lv_nm (v := (jmin q12 q13)) rfl ?_
                      obtain ⟨s14, es14, hf⟩ := bnd hf
                      obtain ⟨gs14, es14⟩ := stS_e es14
                      refine astB (i0 := 0) (Bn := [w4 cs o_m a_m s14]) hx hb hK hP hD hS rfl a4_3 gs14 rfl dX4_weigh_102 (by rw [← es14]; exact v4_3) rfl (fun H locs hP hD hS => ?_)
                      exact Jq11 _ (Option.some.inj hf).symm _ _ _ hP hD hS (lv_sub hl [0, 1, 2, 3, 4] rfl)
              exact L9 _ _ hq9 _ _ _ hP hD hS (lv_sub hl [2, 3, 4, 1, 0] rfl)
  exact L3 _ _ hq3 _ _ _ hP hD hS (lv_sub hl [1, 2, 0] rfl)
/-! TwinLamps$Matching.leastCost -/
noncomputable def f4_leastCost (s_m : St) (x1 : Int32) : Option (Int32) :=
  if x1 < 0 then some 0 else if (4096 : Int32) ≤ x1 then some 0 else (ldO 4096 (s_m.2 3) x1).bind fun q1 =>
  some q1
set_option maxHeartbeats 4000000 in
set_option maxRecDepth 100000 in
theorem c4_leastCost (l : Launch) (D : va_G) (cs : xE) (o_m : Nat) (a_m : Nat → Nat) (s_m : St) (sz : Nat) (x1 : Int32) (res : Int32) (hf : f4_leastCost s_m x1 = some res) : Met l yX4_leastCost (Cond.code yX4_leastCost cX4_leastCost 2 (some .int) :: WG) { frames := 0, cells := 0, slots := 0, locals := 0 } (va_Pc [.ref o_m, .int x1] (mP D cs (List.flatten [w4 cs o_m a_m s_m]) sz)) (qI D cs res (List.flatten [w4 cs o_m a_m s_m]) (va_A (List.flatten [w4 cs o_m a_m s_m]) sz)) 0 0 (va_A (List.flatten [w4 cs o_m a_m s_m]) sz) := by
  refine mgo (Qc := qI D cs res (List.flatten [w4 cs o_m a_m s_m])) (cc := cX4_leastCost) (maxL := 2) (ret := (some .int)) (by decide) rfl (Nat.le_of_ble_eq_true rfl) ?_
  intro p e s m below meth c ls A R Q args H hR hQ hx hb hml hr hlocks hown hts hP hK hD hA hS hG hl
  have hown : s.vm.findClass RX4 = some m.cls := hown
  have hl : lv_has ls 2 [(0, .ref o_m), (1, .int x1)] := hl
  have hW : ∀ w ∈ WG, w.before args s = true := fun w h => hts w (List.mem_cons_of_mem _ h)
  have htX4 : ∀ w ∈ u_ws RX4 TX4 4, w.before args s = true := fun w h => hW w (inW_X4 w h)
  unfold f4_leastCost at hf
  refine lv_iload_n hx hb dX4_leastCost_0 rfl (lv_at hl 1 rfl) ?_
  refine lv_if_lt (tgt := 22) hx hb dX4_leastCost_1 (by decide) (fun hc => ?_) (fun hc => ?_)
  · have hf := ifp hc hf
    refine lv_iconst (v := 0) hx hb dX4_leastCost_22 (by decide) ?_
    obtain rfl := Option.some.inj hf
    exact mretI hx hb hr hlocks hK hP hD hS rfl hQ dX4_leastCost_23
  · have hf := ifn hc hf
    refine lv_iload_n hx hb dX4_leastCost_4 rfl (lv_at hl 1 rfl) ?_
    refine lv_aload_n hx hb dX4_leastCost_5 rfl (lv_at hl 0 rfl) ?_
    refine gfB (i0 := 0) (own := RX4) (T := TX4) (k := 3) (v := .ref (a_m 3)) hx hb htX4 hown hK hP rfl e4 rfl (by decide) (hW _ wd377) rfl dX4_leastCost_6 ?_
    refine alnB (v := 4096) (i0 := 0) 0 hx hb hK hP rfl a4_3 rfl (by decide +kernel) dX4_leastCost_9 ?_
    refine lv_icmp_ge (tgt := 22) hx hb dX4_leastCost_10 (by decide) (fun hc => ?_) (fun hc => ?_)
    · have hf := ifp hc hf
      refine lv_iconst (v := 0) hx hb dX4_leastCost_22 (by decide) ?_
      obtain rfl := Option.some.inj hf
      exact mretI hx hb hr hlocks hK hP hD hS rfl hQ dX4_leastCost_23
    · have hf := ifn hc hf
      refine lv_aload_n hx hb dX4_leastCost_13 rfl (lv_at hl 0 rfl) ?_
      refine gfB (i0 := 0) (own := RX4) (T := TX4) (k := 3) (v := .ref (a_m 3)) hx hb htX4 hown hK hP rfl e4 rfl (by decide) (hW _ wd377) rfl dX4_leastCost_14 ?_
      refine lv_iload_n hx hb dX4_leastCost_17 rfl (lv_at hl 1 rfl) ?_
      obtain ⟨q1, eq1, hf⟩ := bnd hf
      obtain ⟨gq1, eq1⟩ := ldO_e eq1
      refine aldB (i0 := 0) hx hb hK hP rfl a4_3 gq1 dX4_leastCost_18 ?_
      refine lv_nm eq1 ?_
      refine lv_goto (tgt := 23) hx hb dX4_leastCost_19 (by decide) ?_
      obtain rfl := Option.some.inj hf
      exact mretI hx hb hr hlocks hK hP hD hS rfl hQ dX4_leastCost_23
/-! TwinLamps$Matching.isBest -/
noncomputable def f4_isBest (s_m : St) (x1 : Int32) (x2 : Int32) (x3 : Int32) : Option (Bool) :=
  if ((x1 >>> (x3 &&& 31)) &&& 1) = 1 then ((f4_costWith s_m x1 x2 x3).bind fun q1 =>
  (ldO 4096 (s_m.2 3) x1).bind fun q2 =>
  if q1 = q2 then some true else some false)
  else some false
set_option maxHeartbeats 4000000 in
set_option maxRecDepth 100000 in
theorem c4_isBest (l : Launch) (D : va_G) (cs : xE) (o_m : Nat) (a_m : Nat → Nat) (s_m : St) (sz : Nat) (x1 : Int32) (x2 : Int32) (x3 : Int32) (res : Bool) (hf : f4_isBest s_m x1 x2 x3 = some res) : Met l yX4_isBest (Cond.code yX4_isBest cX4_isBest 4 (some .boolean) :: WG) { frames := 1, cells := 0, slots := 0, locals := 23 } (va_Pc [.ref o_m, .int x1, .int x2, .int x3] (mP D cs (List.flatten [w4 cs o_m a_m s_m]) sz)) (qI D cs (zB res) (List.flatten [w4 cs o_m a_m s_m]) (va_A (List.flatten [w4 cs o_m a_m s_m]) sz)) 0 0 (va_A (List.flatten [w4 cs o_m a_m s_m]) sz) := by
  refine mgo (Qc := qI D cs (zB res) (List.flatten [w4 cs o_m a_m s_m])) (cc := cX4_isBest) (maxL := 4) (ret := (some .boolean)) (by decide) rfl (Nat.le_of_ble_eq_true rfl) ?_
  intro p e s m below meth c ls A R Q args H hR hQ hx hb hml hr hlocks hown hts hP hK hD hA hS hG hl
  have hown : s.vm.findClass RX4 = some m.cls := hown
  have hl : lv_has ls 4 [(0, .ref o_m), (1, .int x1), (2, .int x2), (3, .int x3)] := hl
  have hW : ∀ w ∈ WG, w.before args s = true := fun w h => hts w (List.mem_cons_of_mem _ h)
  have htX4 : ∀ w ∈ u_ws RX4 TX4 4, w.before args s = true := fun w h => hW w (inW_X4 w h)
  unfold f4_isBest at hf
  refine lv_iload_n hx hb dX4_isBest_0 rfl (lv_at hl 1 rfl) ?_
  refine lv_iload_n hx hb dX4_isBest_1 rfl (lv_at hl 3 rfl) ?_
  refine lv_ishr hx hb dX4_isBest_2 ?_
  refine lv_iconst (v := 1) hx hb dX4_isBest_3 (by decide) ?_
  refine lv_iand hx hb dX4_isBest_4 ?_
  refine lv_iconst (v := 1) hx hb dX4_isBest_5 (by decide) ?_
  refine lv_icmp_ne (tgt := 29) hx hb dX4_isBest_6 (by decide) (fun hc => ?_) (fun hc => ?_)
  · have hf := ifn hc hf
    refine lv_iconst (v := 0) hx hb dX4_isBest_29 (by decide) ?_
    obtain rfl := Option.some.inj hf
    exact mretZ hx hb hr hlocks hK hP hD hS rfl hQ dX4_isBest_30
  · have hf := ifp hc hf
    refine lv_aload_n hx hb dX4_isBest_9 rfl (lv_at hl 0 rfl) ?_
    refine lv_iload_n hx hb dX4_isBest_10 rfl (lv_at hl 1 rfl) ?_
    refine lv_iload_n hx hb dX4_isBest_11 rfl (lv_at hl 2 rfl) ?_
    refine lv_iload_n hx hb dX4_isBest_12 rfl (lv_at hl 3 rfl) ?_
    obtain ⟨q1, eq1, hf⟩ := bnd hf
    refine mcVi (v := q1) (rest := []) (Bn := [w4 cs o_m a_m s_m]) (isR := []) (isC := [0]) (i0 := 0) ⟨hx, hb, hml, hown, hts⟩ hK hP hD hS hA hG (c4_costWith l D cs o_m a_m s_m H.size x1 x2 x3 _ eq1) (cwV 3 hts (gV wd1147 wd1149 wd29 wd113 wd1150) rfl rfl rfl (by decide +kernel) ⟨by rw [hR]; exact Nat.le_of_ble_eq_true rfl, by rw [hR]; exact Nat.le_of_ble_eq_true rfl⟩) 1 (by decide) rfl rfl rfl rfl rfl rfl rfl e4 rfl rfl rfl hl.1 rfl (Nat.le_of_ble_eq_true rfl) ⟨Nat.zero_le _, Nat.zero_le _⟩ dX4_isBest_13 (fun H locs hP hD hS => ?_)
    refine lv_aload_n hx hb dX4_isBest_16 rfl (lv_at hl 0 rfl) ?_
    refine gfB (i0 := 0) (own := RX4) (T := TX4) (k := 3) (v := .ref (a_m 3)) hx hb htX4 hown hK hP rfl e4 rfl (by decide) (hW _ wd377) rfl dX4_isBest_17 ?_
    refine lv_iload_n hx hb dX4_isBest_20 rfl (lv_at hl 1 rfl) ?_
    obtain ⟨q2, eq2, hf⟩ := bnd hf
    obtain ⟨gq2, eq2⟩ := ldO_e eq2
    refine aldB (i0 := 0) hx hb hK hP rfl a4_3 gq2 dX4_isBest_21 ?_
    refine lv_nm eq2 ?_
    refine lv_icmp_ne (tgt := 29) hx hb dX4_isBest_22 (by decide) (fun hc => ?_) (fun hc => ?_)
    · have hf := ifn hc hf
      refine lv_iconst (v := 0) hx hb dX4_isBest_29 (by decide) ?_
      obtain rfl := Option.some.inj hf
      exact mretZ hx hb hr hlocks hK hP hD hS rfl hQ dX4_isBest_30
    · have hf := ifp hc hf
      refine lv_iconst (v := 1) hx hb dX4_isBest_25 (by decide) ?_
      refine lv_goto (tgt := 30) hx hb dX4_isBest_26 (by decide) ?_
      obtain rfl := Option.some.inj hf
      exact mretZ hx hb hr hlocks hK hP hD hS rfl hQ dX4_isBest_30
/-! TwinLamps$Matching.partner -/
noncomputable def f4_partner_L4 (s_m : St) (q3 : Int32) (v2 : Int32 × Int32) (v5 : Int32) : Option ((Int32) ⊕ (Int32)) :=
  if (12 : Int32) ≤ v5 then some (.inr v5) else (f4_isBest s_m v2.1 q3 v5).bind fun q6 =>
  if (zB q6) = 0 then some (.inl (v5 + 1)) else some (.inr v5)
noncomputable def f4_partner_L1 (s_m : St) (x2 : Int32) (v2 : Int32 × Int32) : Option ((Int32 × Int32) ⊕ ((Int32) ⊕ (Int32) ⊕ (Unit))) :=
  if (12 : Int32) ≤ v2.2 then some (.inr (.inr (.inr ()))) else if v2.1 ≤ 0 then some (.inr (.inr (.inr ()))) else if (4096 : Int32) ≤ v2.1 then some (.inr (.inr (.inr ()))) else (fJ6_numberOfTrailingZeros v2.1).bind fun q3 =>
  (lpw (f4_partner_L4 s_m q3 v2) (q3 + 1)).bind fun q4 =>
  if x2 = q3 then some (.inr (.inl q4)) else if x2 = q4 then some (.inr (.inr (.inl q3))) else (some (v2.1 &&& ((((1 : Int32) <<< (q3 &&& 31)) ||| ((1 : Int32) <<< (q4 &&& 31))) ^^^ (-1)))).bind fun z7 =>
  some (.inl (z7, (v2.2 + 1)))
noncomputable def f4_partner (s_m : St) (x1 : Int32) (x2 : Int32) : Option (Int32) :=
  (lpw (f4_partner_L1 s_m x2) (x1, 0)).bind fun q1 =>
  match q1 with
  | .inl r1_0 => (some r1_0)
  | .inr w8 => match w8 with
  | .inl r1_1 => (some r1_1)
  | .inr r1_2 => (some (-1))
set_option maxHeartbeats 4000000 in
set_option maxRecDepth 100000 in
theorem c4_partner (l : Launch) (D : va_G) (cs : xE) (o_m : Nat) (a_m : Nat → Nat) (s_m : St) (sz : Nat) (x1 : Int32) (x2 : Int32) (res : Int32) (hf : f4_partner s_m x1 x2 = some res) : Met l yX4_partner (Cond.code yX4_partner cX4_partner 7 (some .int) :: WG) { frames := 2, cells := 0, slots := 0, locals := 46 } (va_Pc [.ref o_m, .int x1, .int x2] (mP D cs (List.flatten [w4 cs o_m a_m s_m]) sz)) (qI D cs res (List.flatten [w4 cs o_m a_m s_m]) (va_A (List.flatten [w4 cs o_m a_m s_m]) sz)) 0 0 (va_A (List.flatten [w4 cs o_m a_m s_m]) sz) := by
  refine mgo (Qc := qI D cs res (List.flatten [w4 cs o_m a_m s_m])) (cc := cX4_partner) (maxL := 7) (ret := (some .int)) (by decide) rfl (Nat.le_of_ble_eq_true rfl) ?_
  intro p e s m below meth c ls A R Q args H hR hQ hx hb hml hr hlocks hown hts hP hK hD hA hS hG hl
  have hown : s.vm.findClass RX4 = some m.cls := hown
  have hl : lv_has ls 7 [(0, .ref o_m), (1, .int x1), (2, .int x2)] := hl
  have hW : ∀ w ∈ WG, w.before args s = true := fun w h => hts w (List.mem_cons_of_mem _ h)
  have htX4 : ∀ w ∈ u_ws RX4 TX4 4, w.before args s = true := fun w h => hW w (inW_X4 w h)
  unfold f4_partner at hf
  refine lv_iload_n hx hb dX4_partner_0 rfl (lv_at hl 1 rfl) ?_
  refine lv_istore_n (lv' := [(3, .int x1), (0, .ref o_m), (1, .int x1), (2, .int x2)]) hx hb dX4_partner_1 rfl hl (by decide) rfl (fun ls hl => ?_)
  refine lv_iconst (v := 0) hx hb dX4_partner_2 (by decide) ?_
  refine lv_istore (lv' := [(4, .int 0), (3, .int x1), (0, .ref o_m), (1, .int x1), (2, .int x2)]) hx hb dX4_partner_3 hl (by decide) rfl (fun ls hl => ?_)
  obtain ⟨q1, hq1, hf⟩ := bnd hf
  obtain ⟨n1, hq1⟩ := lpw_ex hq1
  have Jq1_0 : ∀ rr1_0 : Int32, q1 = (.inl rr1_0) → ∀ (H : Heap) (locs : List Loc) (ls : Array Slot), va_P D vwCl (List.flatten [w4 cs o_m a_m s_m]) H → va_D A (List.flatten [w4 cs o_m a_m s_m]) → va_S A s.heap H locs → lv_has ls 7 [(6, .int rr1_0)] → W p l e R s m args below meth c H locs 0 0 Q (F0 m 68 ls []) := by
    intro r1_0 eq1 H locs ls hP hD hS hl
    subst eq1
    try dsimp only at hf
    refine lv_iload hx hb dX4_partner_68 (lv_at hl 0 rfl) ?_
    obtain rfl := Option.some.inj hf
    exact mretI hx hb hr hlocks hK hP hD hS rfl hQ dX4_partner_70
  have Jq1_1 : ∀ rr1_1 : Int32, q1 = (.inr (.inl rr1_1)) → ∀ (H : Heap) (locs : List Loc) (ls : Array Slot), va_P D vwCl (List.flatten [w4 cs o_m a_m s_m]) H → va_D A (List.flatten [w4 cs o_m a_m s_m]) → va_S A s.heap H locs → lv_has ls 7 [(5, .int rr1_1)] → W p l e R s m args below meth c H locs 0 0 Q (F0 m 77 ls []) := by
    intro r1_1 eq1 H locs ls hP hD hS hl
    subst eq1
    try dsimp only at hf
    refine lv_iload hx hb dX4_partner_77 (lv_at hl 0 rfl) ?_
    obtain rfl := Option.some.inj hf
    exact mretI hx hb hr hlocks hK hP hD hS rfl hQ dX4_partner_79
  have Jq1_2 : ∀ rr1_2 : Unit, q1 = (.inr (.inr rr1_2)) → ∀ (H : Heap) (locs : List Loc) (ls : Array Slot), va_P D vwCl (List.flatten [w4 cs o_m a_m s_m]) H → va_D A (List.flatten [w4 cs o_m a_m s_m]) → va_S A s.heap H locs → lv_has ls 7 [] → W p l e R s m args below meth c H locs 0 0 Q (F0 m 100 ls []) := by
    intro r1_2 eq1 H locs ls hP hD hS hl
    subst eq1
    try dsimp only at hf
    refine lv_iconst (v := (-1)) hx hb dX4_partner_100 (by decide) ?_
    obtain rfl := Option.some.inj hf
    exact mretI hx hb hr hlocks hK hP hD hS rfl hQ dX4_partner_101
  clear hf
  have L1 : ∀ n1, ∀ v2 : Int32 × Int32, lp n1 (f4_partner_L1 s_m x2) v2 = some q1 → ∀ (H : Heap) (locs : List Loc) (ls : Array Slot), va_P D vwCl (List.flatten [w4 cs o_m a_m s_m]) H → va_D A (List.flatten [w4 cs o_m a_m s_m]) → va_S A s.heap H locs → lv_has ls 7 [(0, .ref o_m), (2, .int x2), (3, .int v2.1), (4, .int v2.2)] → W p l e R s m args below meth c H locs 0 0 Q (F0 m 5 ls []) := by
    intro n1
    induction n1 with
    | zero => intro v2 hn; cases hn
    | succ n1 ih1 =>
      intro v2 hn1 H locs ls hP hD hS hl
      obtain ⟨y1, hf, hn1⟩ := lp_succ hn1
      unfold f4_partner_L1 at hf
      refine lv_iload hx hb dX4_partner_5 (lv_at hl 3 rfl) ?_
      refine lv_bipush (v := 12) hx hb dX4_partner_7 (by decide) ?_
      refine lv_icmp_ge (tgt := 100) hx hb dX4_partner_9 (by decide) (fun hc => ?_) (fun hc => ?_)
      · have hf := ifp hc hf
        cases hf
        exact Jq1_2 _ (Option.some.inj hn1).symm _ _ _ hP hD hS (lv_sub hl [] rfl)
      · have hf := ifn hc hf
        refine lv_iload_n hx hb dX4_partner_12 rfl (lv_at hl 2 rfl) ?_
        refine lv_if_le (tgt := 100) hx hb dX4_partner_13 (by decide) (fun hc => ?_) (fun hc => ?_)
        · have hf := ifp hc hf
          cases hf
          exact Jq1_2 _ (Option.some.inj hn1).symm _ _ _ hP hD hS (lv_sub hl [] rfl)
        · have hf := ifn hc hf
          refine lv_iload_n hx hb dX4_partner_16 rfl (lv_at hl 2 rfl) ?_
          refine lv_aload_n hx hb dX4_partner_17 rfl (lv_at hl 0 rfl) ?_
          refine gfB (i0 := 0) (own := RX4) (T := TX4) (k := 3) (v := .ref (a_m 3)) hx hb htX4 hown hK hP rfl e4 rfl (by decide) (hW _ wd377) rfl dX4_partner_18 ?_
          refine alnB (v := 4096) (i0 := 0) 0 hx hb hK hP rfl a4_3 rfl (by decide +kernel) dX4_partner_21 ?_
          refine lv_icmp_ge (tgt := 100) hx hb dX4_partner_22 (by decide) (fun hc => ?_) (fun hc => ?_)
          · have hf := ifp hc hf
            cases hf
            exact Jq1_2 _ (Option.some.inj hn1).symm _ _ _ hP hD hS (lv_sub hl [] rfl)
          · have hf := ifn hc hf
            refine lv_iload_n hx hb dX4_partner_25 rfl (lv_at hl 2 rfl) ?_
            obtain ⟨q3, eq3, hf⟩ := bnd hf
            refine mcSi0 (v := q3) (As := [.int v2.1]) (rest := []) ⟨hx, hb, hml, hown, hts⟩ hK hP hS hA hG (cJ6_numberOfTrailingZeros l D cs H.size v2.1 _ eq3) (va_cwS 1 hts (gS wd1143 wd1144 wd127 wd1145) rfl rfl rfl (by decide +kernel) ⟨by rw [hR]; exact Nat.le_of_ble_eq_true rfl, by rw [hR]; exact Nat.le_of_ble_eq_true rfl⟩) rfl hl.1 rfl (Nat.le_of_ble_eq_true rfl) ⟨Nat.zero_le _, Nat.zero_le _⟩ dX4_partner_26 (fun H locs hP hS => ?_)
            refine lv_istore (lv' := [(5, .int q3), (0, .ref o_m), (2, .int x2), (3, .int v2.1), (4, .int v2.2)]) hx hb dX4_partner_29 hl (by decide) rfl (fun ls hl => ?_)
            refine lv_iload hx hb dX4_partner_31 (lv_at hl 0 rfl) ?_
            refine lv_iconst (v := 1) hx hb dX4_partner_33 (by decide) ?_
            refine lv_iadd hx hb dX4_partner_34 ?_
            refine lv_istore (lv' := [(6, .int (q3 + 1)), (5, .int q3), (0, .ref o_m), (2, .int x2), (3, .int v2.1), (4, .int v2.2)]) hx hb dX4_partner_35 hl (by decide) rfl (fun ls hl => ?_)
            obtain ⟨q4, hq4, hf⟩ := bnd hf
            obtain ⟨n4, hq4⟩ := lpw_ex hq4
            have Jq4_0 : ∀ rr4_0 : Int32, q4 = rr4_0 → ∀ (H : Heap) (locs : List Loc) (ls : Array Slot), va_P D vwCl (List.flatten [w4 cs o_m a_m s_m]) H → va_D A (List.flatten [w4 cs o_m a_m s_m]) → va_S A s.heap H locs → lv_has ls 7 [(0, .ref o_m), (2, .int x2), (3, .int v2.1), (4, .int v2.2), (5, .int q3), (6, .int rr4_0)] → W p l e R s m args below meth c H locs 0 0 Q (F0 m 62 ls []) := by
              intro rr4_0 eq4 H locs ls hP hD hS hl
              subst eq4
              refine lv_iload_n hx hb dX4_partner_62 rfl (lv_at hl 1 rfl) ?_
              refine lv_iload hx hb dX4_partner_63 (lv_at hl 4 rfl) ?_
              refine lv_icmp_ne (tgt := 71) hx hb dX4_partner_65 (by decide) (fun hc => ?_) (fun hc => ?_)
              · have hf := ifn hc hf
                refine lv_iload_n hx hb dX4_partner_71 rfl (lv_at hl 1 rfl) ?_
                refine lv_iload hx hb dX4_partner_72 (lv_at hl 5 rfl) ?_
                refine lv_icmp_ne (tgt := 80) hx hb dX4_partner_74 (by decide) (fun hc => ?_) (fun hc => ?_)
                · have hf := ifn hc hf
                  refine lv_iload_n hx hb dX4_partner_80 rfl (lv_at hl 2 rfl) ?_
                  refine lv_iconst (v := 1) hx hb dX4_partner_81 (by decide) ?_
                  refine lv_iload hx hb dX4_partner_82 (lv_at hl 4 rfl) ?_
                  refine lv_ishl hx hb dX4_partner_84 ?_
                  refine lv_iconst (v := 1) hx hb dX4_partner_85 (by decide) ?_
                  refine lv_iload hx hb dX4_partner_86 (lv_at hl 5 rfl) ?_
                  refine lv_ishl hx hb dX4_partner_88 ?_
                  refine lv_ior hx hb dX4_partner_89 ?_
                  refine lv_iconst (v := (-1)) hx hb dX4_partner_90 (by decide) ?_
                  refine lv_ixor hx hb dX4_partner_91 ?_
                  refine lv_iand hx hb dX4_partner_92 ?_
                  obtain ⟨z7, ez7, hf⟩ := bnd hf
                  refine lv_nm (v := z7) (Option.some.inj ez7) ?_
                  refine lv_istore_n (lv' := [(3, .int z7), (0, .ref o_m), (2, .int x2), (4, .int v2.2), (5, .int q3), (6, .int q4)]) hx hb dX4_partner_93 rfl hl (by decide) rfl (fun ls hl => ?_)
                  refine lv_iinc (v := (v2.2 + 1)) (lv' := [(4, .int (v2.2 + 1)), (3, .int z7), (0, .ref o_m), (2, .int x2), (5, .int q3), (6, .int q4)]) hx hb dX4_partner_94 hl (k := 3) rfl rfl (by decide) rfl (fun ls hl => ?_)
                  refine lv_goto (tgt := 5) hx hb dX4_partner_97 (by decide) ?_
                  cases hf
                  exact ih1 _ hn1 _ _ _ hP hD hS (lv_sub hl [2, 3, 1, 0] rfl)
                · have hf := ifp hc hf
                  cases hf
                  exact Jq1_1 _ (Option.some.inj hn1).symm _ _ _ hP hD hS (lv_sub hl [4] rfl)
              · have hf := ifp hc hf
                cases hf
                exact Jq1_0 _ (Option.some.inj hn1).symm _ _ _ hP hD hS (lv_sub hl [5] rfl)
            clear hf
            have L4 : ∀ n4, ∀ v5 : Int32, lp n4 (f4_partner_L4 s_m q3 v2) v5 = some q4 → ∀ (H : Heap) (locs : List Loc) (ls : Array Slot), va_P D vwCl (List.flatten [w4 cs o_m a_m s_m]) H → va_D A (List.flatten [w4 cs o_m a_m s_m]) → va_S A s.heap H locs → lv_has ls 7 [(0, .ref o_m), (2, .int x2), (3, .int v2.1), (4, .int v2.2), (5, .int q3), (6, .int v5)] → W p l e R s m args below meth c H locs 0 0 Q (F0 m 37 ls []) := by
              intro n4
              induction n4 with
              | zero => intro v5 hn; cases hn
              | succ n4 ih4 =>
                intro v5 hn4 H locs ls hP hD hS hl
                obtain ⟨y4, hf, hn4⟩ := lp_succ hn4
                unfold f4_partner_L4 at hf
                refine lv_iload hx hb dX4_partner_37 (lv_at hl 5 rfl) ?_
                refine lv_bipush (v := 12) hx hb dX4_partner_39 (by decide) ?_
                refine lv_icmp_ge (tgt := 62) hx hb dX4_partner_41 (by decide) (fun hc => ?_) (fun hc => ?_)
                · have hf := ifp hc hf
                  cases hf
                  exact Jq4_0 _ (Option.some.inj hn4).symm _ _ _ hP hD hS (lv_sub hl [0, 1, 2, 3, 4, 5] rfl)
                · have hf := ifn hc hf
                  refine lv_aload_n hx hb dX4_partner_44 rfl (lv_at hl 0 rfl) ?_
                  refine lv_iload_n hx hb dX4_partner_45 rfl (lv_at hl 2 rfl) ?_
                  refine lv_iload hx hb dX4_partner_46 (lv_at hl 4 rfl) ?_
                  refine lv_iload hx hb dX4_partner_48 (lv_at hl 5 rfl) ?_
                  obtain ⟨q6, eq6, hf⟩ := bnd hf
                  refine mcVi (v := (zB q6)) (rest := []) (Bn := [w4 cs o_m a_m s_m]) (isR := []) (isC := [0]) (i0 := 0) ⟨hx, hb, hml, hown, hts⟩ hK hP hD hS hA hG (c4_isBest l D cs o_m a_m s_m H.size v2.1 q3 v5 _ eq6) (cwV 3 hts (gV wd1162 wd1164 wd30 wd113 wd1165) rfl rfl rfl (by decide +kernel) ⟨by rw [hR]; exact Nat.le_of_ble_eq_true rfl, by rw [hR]; exact Nat.le_of_ble_eq_true rfl⟩) 1 (by decide) rfl rfl rfl rfl rfl rfl rfl e4 rfl rfl rfl hl.1 rfl (Nat.le_of_ble_eq_true rfl) ⟨Nat.zero_le _, Nat.zero_le _⟩ dX4_partner_50 (fun H locs hP hD hS => ?_)
                  refine lv_if_ne (tgt := 62) hx hb dX4_partner_53 (by decide) (fun hc => ?_) (fun hc => ?_)
                  · have hf := ifn hc hf
                    cases hf
                    exact Jq4_0 _ (Option.some.inj hn4).symm _ _ _ hP hD hS (lv_sub hl [0, 1, 2, 3, 4, 5] rfl)
                  · have hf := ifp hc hf
                    refine lv_iinc (v := (v5 + 1)) (lv' := [(6, .int (v5 + 1)), (0, .ref o_m), (2, .int x2), (3, .int v2.1), (4, .int v2.2), (5, .int q3)]) hx hb dX4_partner_56 hl (k := 5) rfl rfl (by decide) rfl (fun ls hl => ?_)
                    refine lv_goto (tgt := 37) hx hb dX4_partner_59 (by decide) ?_
                    cases hf
                    exact ih4 _ hn4 _ _ _ hP hD hS (lv_sub hl [1, 2, 3, 4, 5, 0] rfl)
            exact L4 _ _ hq4 _ _ _ hP hD hS (lv_sub hl [2, 3, 4, 5, 1, 0] rfl)
  exact L1 _ _ hq1 _ _ _ hP hD hS (lv_sub hl [2, 4, 1, 0] rfl)
