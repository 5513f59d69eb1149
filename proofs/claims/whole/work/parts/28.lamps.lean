/-! TwinLamps -/
def fs10 (a : Nat → Nat) (σ : St) : List Value := [.ref (a 0), .ref (a 1), .ref (a 2), .ref (a 3), .ref (a 4), .ref (a 5), .ref (a 6), .int (σ.1 7), .ref (a 8), .ref (a 9), .ref (a 10), .ref (a 11), .ref (a 12), .ref (a 13)]
def w10 (cs : xE) (o : Nat) (a : Nat → Nat) (σ : St) : va_W := [(o, .inr (10, fs10 a σ)), (a 5, .inl (cs.1 0, 3, .inl (σ.2 5))), (a 13, .inl (cs.1 3, 12, .inr (.inr (.inr (.inr (fun i => some (a (100 + i)))))))), (a 100, .inl (cs.1 0, 48, .inl (σ.2 100))), (a 101, .inl (cs.1 0, 48, .inl (σ.2 101))), (a 102, .inl (cs.1 0, 48, .inl (σ.2 102))), (a 103, .inl (cs.1 0, 48, .inl (σ.2 103))), (a 104, .inl (cs.1 0, 48, .inl (σ.2 104))), (a 105, .inl (cs.1 0, 48, .inl (σ.2 105))), (a 106, .inl (cs.1 0, 48, .inl (σ.2 106))), (a 107, .inl (cs.1 0, 48, .inl (σ.2 107))), (a 108, .inl (cs.1 0, 48, .inl (σ.2 108))), (a 109, .inl (cs.1 0, 48, .inl (σ.2 109))), (a 110, .inl (cs.1 0, 48, .inl (σ.2 110))), (a 111, .inl (cs.1 0, 48, .inl (σ.2 111)))]
theorem e10 {cs : xE} {o : Nat} {a : Nat → Nat} {σ : St} : (w10 cs o a σ)[0]? = some (o, .inr (10, fs10 a σ)) := rfl
theorem u10_7 {cs : xE} {o : Nat} {a : Nat → Nat} {σ : St} {v : Int32} : (w10 cs o a σ).set 0 (o, .inr (10, (fs10 a σ).set 7 (.int v))) = w10 cs o a (sS σ 7 v) := rfl
theorem a10_5 {cs : xE} {o : Nat} {a : Nat → Nat} {σ : St} : (w10 cs o a σ)[1]? = some (a 5, .inl (cs.1 0, 3, .inl (σ.2 5))) := rfl
theorem v10_5 {cs : xE} {o : Nat} {a : Nat → Nat} {σ : St} {f : Nat → Int32} : (w10 cs o a σ).set 1 (a 5, .inl (cs.1 0, 3, .inl f)) = w10 cs o a (sA σ 5 f) := rfl
theorem a10_13 {cs : xE} {o : Nat} {a : Nat → Nat} {σ : St} : (w10 cs o a σ)[2]? = some (a 13, .inl (cs.1 3, 12, .inr (.inr (.inr (.inr (fun i => some (a (100 + i)))))))) := rfl
theorem r10_13 {cs : xE} {o : Nat} {a : Nat → Nat} {σ : St} : ∀ (q : Nat) (_ : q < 12), (w10 cs o a σ)[3 + q]? = some (a (100 + q), .inl (cs.1 0, 48, .inl (σ.2 (100 + q)))) := fun q h => match q, h with | 0, _ => rfl | 1, _ => rfl | 2, _ => rfl | 3, _ => rfl | 4, _ => rfl | 5, _ => rfl | 6, _ => rfl | 7, _ => rfl | 8, _ => rfl | 9, _ => rfl | 10, _ => rfl | 11, _ => rfl | q + 12, h => absurd h (by omega)
theorem rv10_13 {cs : xE} {o : Nat} {a : Nat → Nat} {σ : St} {f : Nat → Int32} : ∀ (q : Nat) (_ : q < 12), (w10 cs o a σ).set (3 + q) (a (100 + q), .inl (cs.1 0, 48, .inl f)) = w10 cs o a (sA σ (100 + q) f) := fun q h => match q, h with | 0, _ => rfl | 1, _ => rfl | 2, _ => rfl | 3, _ => rfl | 4, _ => rfl | 5, _ => rfl | 6, _ => rfl | 7, _ => rfl | 8, _ => rfl | 9, _ => rfl | 10, _ => rfl | 11, _ => rfl | q + 12, h => absurd h (by omega)
def fs5 (a : Nat → Nat) (σ : St) : List Value := [.int (σ.1 0), .ref (a 1), .ref (a 2), .ref (a 3), .ref (a 4)]
def w5 (cs : xE) (o : Nat) (a : Nat → Nat) (σ : St) : va_W := [(o, .inr (5, fs5 a σ)), (a 4, .inl (cs.1 0, 3, .inl (σ.2 4)))]
theorem e5 {cs : xE} {o : Nat} {a : Nat → Nat} {σ : St} : (w5 cs o a σ)[0]? = some (o, .inr (5, fs5 a σ)) := rfl
theorem u5_0 {cs : xE} {o : Nat} {a : Nat → Nat} {σ : St} {v : Int32} : (w5 cs o a σ).set 0 (o, .inr (5, (fs5 a σ).set 0 (.int v))) = w5 cs o a (sS σ 0 v) := rfl
theorem a5_4 {cs : xE} {o : Nat} {a : Nat → Nat} {σ : St} : (w5 cs o a σ)[1]? = some (a 4, .inl (cs.1 0, 3, .inl (σ.2 4))) := rfl
theorem v5_4 {cs : xE} {o : Nat} {a : Nat → Nat} {σ : St} {f : Nat → Int32} : (w5 cs o a σ).set 1 (a 4, .inl (cs.1 0, 3, .inl f)) = w5 cs o a (sA σ 4 f) := rfl
/-! TwinLamps.feed -/
noncomputable def f10_feed (s_x : St) (s_r : St) (x1 : Int32) (x2 : Int32) (x3 : Int32) (x4 : Int32) (x5 : Int32) : Option (Int32 × St) :=
  if (s_r.1 2) ≤ 580 then ((f6_append s_r x1).bind fun q1 =>
  (f6_append q1 x2).bind fun q2 =>
  (f6_append q2 x3).bind fun q3 =>
  (f6_append q3 x4).bind fun q4 =>
  (f6_append q4 x5).bind fun q5 =>
  some ((q5.1 2), q5))
  else some ((-1), s_r)
set_option maxHeartbeats 4000000 in
set_option maxRecDepth 100000 in
theorem c10_feed (l : Launch) (D : va_G) (cs : xE) (o_x : Nat) (a_x : Nat → Nat) (a_r : Nat → Nat) (s_x : St) (s_r : St) (sz : Nat) (x1 : Int32) (x2 : Int32) (x3 : Int32) (x4 : Int32) (x5 : Int32) (res : Int32 × St) (hf : f10_feed s_x s_r x1 x2 x3 x4 x5 = some res) : Met l yX10_feed (Cond.code yX10_feed cX10_feed 6 (some .int) :: WG) { frames := 1, cells := 0, slots := 0, locals := 22 } (va_Pc [.ref o_x, .int x1, .int x2, .int x3, .int x4, .int x5] (mP D cs (List.flatten [w10 cs o_x a_x s_x, w6 cs (a_x 0) a_r s_r]) sz)) (qI D cs res.1 (List.flatten [w10 cs o_x a_x s_x, w6 cs (a_x 0) a_r res.2]) (va_A (List.flatten [w10 cs o_x a_x s_x, w6 cs (a_x 0) a_r s_r]) sz)) 0 0 (va_A (List.flatten [w10 cs o_x a_x s_x, w6 cs (a_x 0) a_r s_r]) sz) := by
  refine mgo (Qc := qI D cs res.1 (List.flatten [w10 cs o_x a_x s_x, w6 cs (a_x 0) a_r res.2])) (cc := cX10_feed) (maxL := 6) (ret := (some .int)) (by decide) rfl (Nat.le_of_ble_eq_true rfl) ?_
  intro p e s m below meth c ls A R Q args H hR hQ hx hb hml hr hlocks hown hts hP hK hD hA hS hG hl
  have hown : s.vm.findClass RX10 = some m.cls := hown
  have hl : lv_has ls 6 [(0, .ref o_x), (1, .int x1), (2, .int x2), (3, .int x3), (4, .int x4), (5, .int x5)] := hl
  have hW : ∀ w ∈ WG, w.before args s = true := fun w h => hts w (List.mem_cons_of_mem _ h)
  have htX10 : ∀ w ∈ u_ws RX10 TX10 14, w.before args s = true := fun w h => hW w (inW_X10 w h)
  have htX6 : ∀ w ∈ u_ws RX6 TX6 12, w.before args s = true := fun w h => hW w (inW_X6 w h)
  unfold f10_feed at hf
  refine lv_aload_n hx hb dX10_feed_0 rfl (lv_at hl 0 rfl) ?_
  refine gfB (i0 := 0) (own := RX10) (T := TX10) (k := 0) (v := .ref (a_x 0)) hx hb htX10 hown hK hP rfl e10 rfl (by decide) (hW _ wd428) rfl dX10_feed_1 ?_
  refine gfB (i0 := 1) (own := RX10) (T := TX6) (k := 2) (v := .int (s_r.1 2)) hx hb htX6 hown hK hP rfl e6 rfl (by decide) (hW _ wd230) rfl dX10_feed_4 ?_
  refine lv_sipush (v := 580) hx hb dX10_feed_7 (by decide) ?_
  refine lv_icmp_le (tgt := 15) hx hb dX10_feed_10 (by decide) (fun hc => ?_) (fun hc => ?_)
  · have hf := ifp hc hf
    refine lv_aload_n hx hb dX10_feed_15 rfl (lv_at hl 0 rfl) ?_
    refine gfB (i0 := 0) (own := RX10) (T := TX10) (k := 0) (v := .ref (a_x 0)) hx hb htX10 hown hK hP rfl e10 rfl (by decide) (hW _ wd428) rfl dX10_feed_16 ?_
    refine lv_iload_n hx hb dX10_feed_19 rfl (lv_at hl 1 rfl) ?_
    obtain ⟨q1, eq1, hf⟩ := bnd hf
    refine mcVv (rest := []) (Bn := [w10 cs o_x a_x s_x, w6 cs (a_x 0) a_r q1]) (isR := [0]) (isC := [1]) (i0 := 1) ⟨hx, hb, hml, hown, hts⟩ hK hP hD hS hA hG (c6_append l D cs (a_x 0) a_r s_r H.size x1 _ eq1) (cwV 1 hts (gV wd475 wd476 wd477 wd106 wd478) rfl rfl rfl (by decide +kernel) ⟨by rw [hR]; exact Nat.le_of_ble_eq_true rfl, by rw [hR]; exact Nat.le_of_ble_eq_true rfl⟩) 2 (by decide) rfl rfl rfl rfl rfl rfl rfl e6 rfl rfl rfl hl.1 rfl (Nat.le_of_ble_eq_true rfl) ⟨Nat.zero_le _, Nat.zero_le _⟩ dX10_feed_20 (fun H locs hP hD hS => ?_)
    refine lv_aload_n hx hb dX10_feed_23 rfl (lv_at hl 0 rfl) ?_
    refine gfB (i0 := 0) (own := RX10) (T := TX10) (k := 0) (v := .ref (a_x 0)) hx hb htX10 hown hK hP rfl e10 rfl (by decide) (hW _ wd428) rfl dX10_feed_24 ?_
    refine lv_iload_n hx hb dX10_feed_27 rfl (lv_at hl 2 rfl) ?_
    obtain ⟨q2, eq2, hf⟩ := bnd hf
    refine mcVv (rest := []) (Bn := [w10 cs o_x a_x s_x, w6 cs (a_x 0) a_r q2]) (isR := [0]) (isC := [1]) (i0 := 1) ⟨hx, hb, hml, hown, hts⟩ hK hP hD hS hA hG (c6_append l D cs (a_x 0) a_r q1 H.size x2 _ eq2) (cwV 1 hts (gV wd475 wd476 wd477 wd106 wd478) rfl rfl rfl (by decide +kernel) ⟨by rw [hR]; exact Nat.le_of_ble_eq_true rfl, by rw [hR]; exact Nat.le_of_ble_eq_true rfl⟩) 2 (by decide) rfl rfl rfl rfl rfl rfl rfl e6 rfl rfl rfl hl.1 rfl (Nat.le_of_ble_eq_true rfl) ⟨Nat.zero_le _, Nat.zero_le _⟩ dX10_feed_28 (fun H locs hP hD hS => ?_)
    refine lv_aload_n hx hb dX10_feed_31 rfl (lv_at hl 0 rfl) ?_
    refine gfB (i0 := 0) (own := RX10) (T := TX10) (k := 0) (v := .ref (a_x 0)) hx hb htX10 hown hK hP rfl e10 rfl (by decide) (hW _ wd428) rfl dX10_feed_32 ?_
    refine lv_iload_n hx hb dX10_feed_35 rfl (lv_at hl 3 rfl) ?_
    obtain ⟨q3, eq3, hf⟩ := bnd hf
    refine mcVv (rest := []) (Bn := [w10 cs o_x a_x s_x, w6 cs (a_x 0) a_r q3]) (isR := [0]) (isC := [1]) (i0 := 1) ⟨hx, hb, hml, hown, hts⟩ hK hP hD hS hA hG (c6_append l D cs (a_x 0) a_r q2 H.size x3 _ eq3) (cwV 1 hts (gV wd475 wd476 wd477 wd106 wd478) rfl rfl rfl (by decide +kernel) ⟨by rw [hR]; exact Nat.le_of_ble_eq_true rfl, by rw [hR]; exact Nat.le_of_ble_eq_true rfl⟩) 2 (by decide) rfl rfl rfl rfl rfl rfl rfl e6 rfl rfl rfl hl.1 rfl (Nat.le_of_ble_eq_true rfl) ⟨Nat.zero_le _, Nat.zero_le _⟩ dX10_feed_36 (fun H locs hP hD hS => ?_)
    refine lv_aload_n hx hb dX10_feed_39 rfl (lv_at hl 0 rfl) ?_
    refine gfB (i0 := 0) (own := RX10) (T := TX10) (k := 0) (v := .ref (a_x 0)) hx hb htX10 hown hK hP rfl e10 rfl (by decide) (hW _ wd428) rfl dX10_feed_40 ?_
    refine lv_iload hx hb dX10_feed_43 (lv_at hl 4 rfl) ?_
    obtain ⟨q4, eq4, hf⟩ := bnd hf
    refine mcVv (rest := []) (Bn := [w10 cs o_x a_x s_x, w6 cs (a_x 0) a_r q4]) (isR := [0]) (isC := [1]) (i0 := 1) ⟨hx, hb, hml, hown, hts⟩ hK hP hD hS hA hG (c6_append l D cs (a_x 0) a_r q3 H.size x4 _ eq4) (cwV 1 hts (gV wd475 wd476 wd477 wd106 wd478) rfl rfl rfl (by decide +kernel) ⟨by rw [hR]; exact Nat.le_of_ble_eq_true rfl, by rw [hR]; exact Nat.le_of_ble_eq_true rfl⟩) 2 (by decide) rfl rfl rfl rfl rfl rfl rfl e6 rfl rfl rfl hl.1 rfl (Nat.le_of_ble_eq_true rfl) ⟨Nat.zero_le _, Nat.zero_le _⟩ dX10_feed_45 (fun H locs hP hD hS => ?_)
    refine lv_aload_n hx hb dX10_feed_48 rfl (lv_at hl 0 rfl) ?_
    refine gfB (i0 := 0) (own := RX10) (T := TX10) (k := 0) (v := .ref (a_x 0)) hx hb htX10 hown hK hP rfl e10 rfl (by decide) (hW _ wd428) rfl dX10_feed_49 ?_
    refine lv_iload hx hb dX10_feed_52 (lv_at hl 5 rfl) ?_
    obtain ⟨q5, eq5, hf⟩ := bnd hf
    refine mcVv (rest := []) (Bn := [w10 cs o_x a_x s_x, w6 cs (a_x 0) a_r q5]) (isR := [0]) (isC := [1]) (i0 := 1) ⟨hx, hb, hml, hown, hts⟩ hK hP hD hS hA hG (c6_append l D cs (a_x 0) a_r q4 H.size x5 _ eq5) (cwV 1 hts (gV wd475 wd476 wd477 wd106 wd478) rfl rfl rfl (by decide +kernel) ⟨by rw [hR]; exact Nat.le_of_ble_eq_true rfl, by rw [hR]; exact Nat.le_of_ble_eq_true rfl⟩) 2 (by decide) rfl rfl rfl rfl rfl rfl rfl e6 rfl rfl rfl hl.1 rfl (Nat.le_of_ble_eq_true rfl) ⟨Nat.zero_le _, Nat.zero_le _⟩ dX10_feed_54 (fun H locs hP hD hS => ?_)
    refine lv_aload_n hx hb dX10_feed_57 rfl (lv_at hl 0 rfl) ?_
    refine gfB (i0 := 0) (own := RX10) (T := TX10) (k := 0) (v := .ref (a_x 0)) hx hb htX10 hown hK hP rfl e10 rfl (by decide) (hW _ wd428) rfl dX10_feed_58 ?_
    refine gfB (i0 := 1) (own := RX10) (T := TX6) (k := 2) (v := .int (q5.1 2)) hx hb htX6 hown hK hP rfl e6 rfl (by decide) (hW _ wd230) rfl dX10_feed_61 ?_
    obtain rfl := Option.some.inj hf
    exact mretI hx hb hr hlocks hK hP hD hS rfl hQ dX10_feed_64
  · have hf := ifn hc hf
    refine lv_iconst (v := (-1)) hx hb dX10_feed_13 (by decide) ?_
    obtain rfl := Option.some.inj hf
    exact mretI hx hb hr hlocks hK hP hD hS rfl hQ dX10_feed_14
/-! TwinLamps.street -/
noncomputable def f10_street (s_x : St) (s_r : St) (s_t3 : St) (s_g2 : St) (s_t : St) (s_g : St) (s_h : HSt) (s_v : St) (s_p : St) (x1 : Int32) : Option ((Int32 × St × St × St × St × St × St × HSt × St × St) ⊕ Nat) :=
  if x1 < 0 then (some (.inr 0))
  else if x1 ≤ (s_r.1 2) then (wI ((f6_parse s_r s_t3 s_g2 x1).bind fun q1 =>
  (some (sS s_x 7 (q1.2.1.1 3))).bind fun s2 =>
  if q1.1 = 0 then ((f9_copyFrom s_t q1.2.2.1).bind fun q3 =>
  (f7_copyFrom s_g q1.2.2.2).bind fun q4 =>
  (f3_clear s_h).bind fun q5 =>
  (f8_clear s_v).bind fun q6 =>
  (some (sS s_p 0 0)).bind fun s7 =>
  some (0, s2, q1.2.1, q1.2.2.1, q1.2.2.2, q3, q4, q5, q6, s7))
  else (some (sA s2 5 (upd (s2.2 5) (0 : Int32).toNatClampNeg (((s2.2 5) (0 : Int32).toNatClampNeg) + 1)))).bind fun s8 =>
  some (q1.1, s8, q1.2.1, q1.2.2.1, q1.2.2.2, s_t, s_g, s_h, s_v, s_p)))
  else some (.inr 0)
set_option maxHeartbeats 4000000 in
set_option maxRecDepth 100000 in
theorem c10_street (l : Launch) (D : va_G) (cs : xE) (o_x : Nat) (a_x : Nat → Nat) (a_r : Nat → Nat) (a_t3 : Nat → Nat) (a_g2 : Nat → Nat) (a_t : Nat → Nat) (a_g : Nat → Nat) (a_h : Nat → Nat) (a_v : Nat → Nat) (a_p : Nat → Nat) (s_x : St) (s_r : St) (s_t3 : St) (s_g2 : St) (s_t : St) (s_g : St) (s_h : HSt) (s_v : St) (s_p : St) (sz : Nat) (x1 : Int32) (res : Int32 × St × St × St × St × St × St × HSt × St × St) (hf : f10_street s_x s_r s_t3 s_g2 s_t s_g s_h s_v s_p x1 = some (.inl res)) : Met l yX10_street (Cond.code yX10_street cX10_street 3 (some .int) :: WG) { frames := 123, cells := 0, slots := 0, locals := 3016 } (va_Pc [.ref o_x, .int x1] (mP D cs (List.flatten [w10 cs o_x a_x s_x, w6 cs (a_x 0) a_r s_r, w9 cs (a_r 0) a_t3 s_t3, w7 cs (a_r 1) a_g2 s_g2, w9 cs (a_x 2) a_t s_t, w7 cs (a_x 1) a_g s_g, w3 cs (a_x 3) a_h s_h, w8 cs (a_x 4) a_v s_v, w5 cs (a_x 6) a_p s_p]) sz)) (qI D cs res.1 (List.flatten [w10 cs o_x a_x res.2.1, w6 cs (a_x 0) a_r res.2.2.1, w9 cs (a_r 0) a_t3 res.2.2.2.1, w7 cs (a_r 1) a_g2 res.2.2.2.2.1, w9 cs (a_x 2) a_t res.2.2.2.2.2.1, w7 cs (a_x 1) a_g res.2.2.2.2.2.2.1, w3 cs (a_x 3) a_h res.2.2.2.2.2.2.2.1, w8 cs (a_x 4) a_v res.2.2.2.2.2.2.2.2.1, w5 cs (a_x 6) a_p res.2.2.2.2.2.2.2.2.2]) (va_A (List.flatten [w10 cs o_x a_x s_x, w6 cs (a_x 0) a_r s_r, w9 cs (a_r 0) a_t3 s_t3, w7 cs (a_r 1) a_g2 s_g2, w9 cs (a_x 2) a_t s_t, w7 cs (a_x 1) a_g s_g, w3 cs (a_x 3) a_h s_h, w8 cs (a_x 4) a_v s_v, w5 cs (a_x 6) a_p s_p]) sz)) 0 0 (va_A (List.flatten [w10 cs o_x a_x s_x, w6 cs (a_x 0) a_r s_r, w9 cs (a_r 0) a_t3 s_t3, w7 cs (a_r 1) a_g2 s_g2, w9 cs (a_x 2) a_t s_t, w7 cs (a_x 1) a_g s_g, w3 cs (a_x 3) a_h s_h, w8 cs (a_x 4) a_v s_v, w5 cs (a_x 6) a_p s_p]) sz) := by
  refine mgo (Qc := qI D cs res.1 (List.flatten [w10 cs o_x a_x res.2.1, w6 cs (a_x 0) a_r res.2.2.1, w9 cs (a_r 0) a_t3 res.2.2.2.1, w7 cs (a_r 1) a_g2 res.2.2.2.2.1, w9 cs (a_x 2) a_t res.2.2.2.2.2.1, w7 cs (a_x 1) a_g res.2.2.2.2.2.2.1, w3 cs (a_x 3) a_h res.2.2.2.2.2.2.2.1, w8 cs (a_x 4) a_v res.2.2.2.2.2.2.2.2.1, w5 cs (a_x 6) a_p res.2.2.2.2.2.2.2.2.2])) (cc := cX10_street) (maxL := 3) (ret := (some .int)) (by decide) rfl (Nat.le_of_ble_eq_true rfl) ?_
  intro p e s m below meth c ls A R Q args H hR hQ hx hb hml hr hlocks hown hts hP hK hD hA hS hG hl
  have hown : s.vm.findClass RX10 = some m.cls := hown
  have hl : lv_has ls 3 [(0, .ref o_x), (1, .int x1)] := hl
  have hW : ∀ w ∈ WG, w.before args s = true := fun w h => hts w (List.mem_cons_of_mem _ h)
  have htX10 : ∀ w ∈ u_ws RX10 TX10 14, w.before args s = true := fun w h => hW w (inW_X10 w h)
  have htX5 : ∀ w ∈ u_ws RX5 TX5 5, w.before args s = true := fun w h => hW w (inW_X5 w h)
  have htX6 : ∀ w ∈ u_ws RX6 TX6 12, w.before args s = true := fun w h => hW w (inW_X6 w h)
  unfold f10_street at hf
  refine lv_iload_n hx hb dX10_street_0 rfl (lv_at hl 1 rfl) ?_
  refine lv_if_lt (tgt := 15) hx hb dX10_street_1 (by decide) (fun hc => ?_) (fun hc => ?_)
  · have hf := ifp hc hf
    cases hf
  · have hf := ifn hc hf
    refine lv_iload_n hx hb dX10_street_4 rfl (lv_at hl 1 rfl) ?_
    refine lv_aload_n hx hb dX10_street_5 rfl (lv_at hl 0 rfl) ?_
    refine gfB (i0 := 0) (own := RX10) (T := TX10) (k := 0) (v := .ref (a_x 0)) hx hb htX10 hown hK hP rfl e10 rfl (by decide) (hW _ wd428) rfl dX10_street_6 ?_
    refine gfB (i0 := 1) (own := RX10) (T := TX6) (k := 2) (v := .int (s_r.1 2)) hx hb htX6 hown hK hP rfl e6 rfl (by decide) (hW _ wd230) rfl dX10_street_9 ?_
    refine lv_icmp_le (tgt := 25) hx hb dX10_street_12 (by decide) (fun hc => ?_) (fun hc => ?_)
    · have hf := ifp hc hf
      have hf := wI_l hf
      refine lv_aload_n hx hb dX10_street_25 rfl (lv_at hl 0 rfl) ?_
      refine gfB (i0 := 0) (own := RX10) (T := TX10) (k := 0) (v := .ref (a_x 0)) hx hb htX10 hown hK hP rfl e10 rfl (by decide) (hW _ wd428) rfl dX10_street_26 ?_
      refine lv_iload_n hx hb dX10_street_29 rfl (lv_at hl 1 rfl) ?_
      obtain ⟨q1, eq1, hf⟩ := bnd hf
      refine mcVi (v := q1.1) (rest := []) (Bn := [w10 cs o_x a_x s_x, w6 cs (a_x 0) a_r q1.2.1, w9 cs (a_r 0) a_t3 q1.2.2.1, w7 cs (a_r 1) a_g2 q1.2.2.2, w9 cs (a_x 2) a_t s_t, w7 cs (a_x 1) a_g s_g, w3 cs (a_x 3) a_h s_h, w8 cs (a_x 4) a_v s_v, w5 cs (a_x 6) a_p s_p]) (isR := [0, 4, 5, 6, 7, 8]) (isC := [1, 2, 3]) (i0 := 1) ⟨hx, hb, hml, hown, hts⟩ hK hP hD hS hA hG (c6_parse l D cs (a_x 0) a_r a_t3 a_g2 s_r s_t3 s_g2 H.size x1 _ eq1) (cwV 1 hts (gV wd688 wd689 wd690 wd106 wd691) rfl rfl rfl (by decide +kernel) ⟨by rw [hR]; exact Nat.le_of_ble_eq_true rfl, by rw [hR]; exact Nat.le_of_ble_eq_true rfl⟩) 9 (by decide) rfl rfl rfl rfl rfl rfl rfl e6 rfl rfl rfl hl.1 rfl (Nat.le_of_ble_eq_true rfl) ⟨Nat.zero_le _, Nat.zero_le _⟩ dX10_street_30 (fun H locs hP hD hS => ?_)
      refine lv_istore_n (lv' := [(2, .int q1.1), (0, .ref o_x), (1, .int x1)]) hx hb dX10_street_33 rfl hl (by decide) rfl (fun ls hl => ?_)
      refine lv_aload_n hx hb dX10_street_34 rfl (lv_at hl 1 rfl) ?_
      refine lv_aload_n hx hb dX10_street_35 rfl (lv_at hl 1 rfl) ?_
      refine gfB (i0 := 0) (own := RX10) (T := TX10) (k := 0) (v := .ref (a_x 0)) hx hb htX10 hown hK hP rfl e10 rfl (by decide) (hW _ wd428) rfl dX10_street_36 ?_
      refine gfB (i0 := 1) (own := RX10) (T := TX6) (k := 3) (v := .int (q1.2.1.1 3)) hx hb htX6 hown hK hP rfl e6 rfl (by decide) (hW _ wd233) rfl dX10_street_39 ?_
      obtain ⟨s2, es2, hf⟩ := bnd hf
      replace es2 := Option.some.inj es2
      refine pfB (i0 := 0) (own := RX10) (T := TX10) (k := 7) (Bn := [w10 cs o_x a_x s2, w6 cs (a_x 0) a_r q1.2.1, w9 cs (a_r 0) a_t3 q1.2.2.1, w7 cs (a_r 1) a_g2 q1.2.2.2, w9 cs (a_x 2) a_t s_t, w7 cs (a_x 1) a_g s_g, w3 cs (a_x 3) a_h s_h, w8 cs (a_x 4) a_v s_v, w5 cs (a_x 6) a_p s_p]) tyX10 tyX10_ok nmX10 hx hb htX10 hown hK hP hD hS rfl e10 rfl (by decide) (hW _ wd435) rfl rfl rfl (Nat.le_of_ble_eq_true rfl) dX10_street_42 (by rw [← es2]; exact u10_7) rfl (fun H locs hP hD hS => ?_)
      refine lv_iload_n hx hb dX10_street_45 rfl (lv_at hl 0 rfl) ?_
      refine lv_if_eq (tgt := 61) hx hb dX10_street_46 (by decide) (fun hc => ?_) (fun hc => ?_)
      · have hf := ifp hc hf
        refine lv_aload_n hx hb dX10_street_61 rfl (lv_at hl 1 rfl) ?_
        refine gfB (i0 := 0) (own := RX10) (T := TX10) (k := 2) (v := .ref (a_x 2)) hx hb htX10 hown hK hP rfl e10 rfl (by decide) (hW _ wd430) rfl dX10_street_62 ?_
        refine lv_aload_n hx hb dX10_street_65 rfl (lv_at hl 1 rfl) ?_
        refine gfB (i0 := 0) (own := RX10) (T := TX10) (k := 0) (v := .ref (a_x 0)) hx hb htX10 hown hK hP rfl e10 rfl (by decide) (hW _ wd428) rfl dX10_street_66 ?_
        refine gfB (i0 := 1) (own := RX10) (T := TX6) (k := 0) (v := .ref (a_r 0)) hx hb htX6 hown hK hP rfl e6 rfl (by decide) (hW _ wd227) rfl dX10_street_69 ?_
        obtain ⟨q3, eq3, hf⟩ := bnd hf
        refine mcVv (rest := []) (Bn := [w10 cs o_x a_x s2, w6 cs (a_x 0) a_r q1.2.1, w9 cs (a_r 0) a_t3 q1.2.2.1, w7 cs (a_r 1) a_g2 q1.2.2.2, w9 cs (a_x 2) a_t q3, w7 cs (a_x 1) a_g s_g, w3 cs (a_x 3) a_h s_h, w8 cs (a_x 4) a_v s_v, w5 cs (a_x 6) a_p s_p]) (isR := [0, 1, 3, 5, 6, 7, 8]) (isC := [4, 2]) (i0 := 4) ⟨hx, hb, hml, hown, hts⟩ hK hP hD hS hA hG (c9_copyFrom l D cs (a_x 2) a_t (a_r 0) a_t3 s_t q1.2.2.1 H.size _ eq3) (cwV 1 hts (gV wd599 wd500 wd501 wd107 wd502) rfl rfl rfl (by decide +kernel) ⟨by rw [hR]; exact Nat.le_of_ble_eq_true rfl, by rw [hR]; exact Nat.le_of_ble_eq_true rfl⟩) 9 (by decide) rfl rfl rfl rfl rfl rfl rfl e9 rfl rfl rfl hl.1 rfl (Nat.le_of_ble_eq_true rfl) ⟨Nat.zero_le _, Nat.zero_le _⟩ dX10_street_72 (fun H locs hP hD hS => ?_)
        refine lv_aload_n hx hb dX10_street_75 rfl (lv_at hl 1 rfl) ?_
        refine gfB (i0 := 0) (own := RX10) (T := TX10) (k := 1) (v := .ref (a_x 1)) hx hb htX10 hown hK hP rfl e10 rfl (by decide) (hW _ wd429) rfl dX10_street_76 ?_
        refine lv_aload_n hx hb dX10_street_79 rfl (lv_at hl 1 rfl) ?_
        refine gfB (i0 := 0) (own := RX10) (T := TX10) (k := 0) (v := .ref (a_x 0)) hx hb htX10 hown hK hP rfl e10 rfl (by decide) (hW _ wd428) rfl dX10_street_80 ?_
        refine gfB (i0 := 1) (own := RX10) (T := TX6) (k := 1) (v := .ref (a_r 1)) hx hb htX6 hown hK hP rfl e6 rfl (by decide) (hW _ wd229) rfl dX10_street_83 ?_
        obtain ⟨q4, eq4, hf⟩ := bnd hf
        refine mcVv (rest := []) (Bn := [w10 cs o_x a_x s2, w6 cs (a_x 0) a_r q1.2.1, w9 cs (a_r 0) a_t3 q1.2.2.1, w7 cs (a_r 1) a_g2 q1.2.2.2, w9 cs (a_x 2) a_t q3, w7 cs (a_x 1) a_g q4, w3 cs (a_x 3) a_h s_h, w8 cs (a_x 4) a_v s_v, w5 cs (a_x 6) a_p s_p]) (isR := [0, 1, 2, 4, 6, 7, 8]) (isC := [5, 3]) (i0 := 5) ⟨hx, hb, hml, hown, hts⟩ hK hP hD hS hA hG (c7_copyFrom l D cs (a_x 1) a_g (a_r 1) a_g2 s_g q1.2.2.2 H.size _ eq4) (cwV 1 hts (gV wd864 wd865 wd866 wd108 wd867) rfl rfl rfl (by decide +kernel) ⟨by rw [hR]; exact Nat.le_of_ble_eq_true rfl, by rw [hR]; exact Nat.le_of_ble_eq_true rfl⟩) 9 (by decide) rfl rfl rfl rfl rfl rfl rfl e7 rfl rfl rfl hl.1 rfl (Nat.le_of_ble_eq_true rfl) ⟨Nat.zero_le _, Nat.zero_le _⟩ dX10_street_86 (fun H locs hP hD hS => ?_)
        refine lv_aload_n hx hb dX10_street_89 rfl (lv_at hl 1 rfl) ?_
        refine gfB (i0 := 0) (own := RX10) (T := TX10) (k := 3) (v := .ref (a_x 3)) hx hb htX10 hown hK hP rfl e10 rfl (by decide) (hW _ wd431) rfl dX10_street_90 ?_
        obtain ⟨q5, eq5, hf⟩ := bnd hf
        refine mcVv (rest := []) (Bn := [w10 cs o_x a_x s2, w6 cs (a_x 0) a_r q1.2.1, w9 cs (a_r 0) a_t3 q1.2.2.1, w7 cs (a_r 1) a_g2 q1.2.2.2, w9 cs (a_x 2) a_t q3, w7 cs (a_x 1) a_g q4, w3 cs (a_x 3) a_h q5, w8 cs (a_x 4) a_v s_v, w5 cs (a_x 6) a_p s_p]) (isR := [0, 1, 2, 3, 4, 5, 7, 8]) (isC := [6]) (i0 := 6) ⟨hx, hb, hml, hown, hts⟩ hK hP hD hS hA hG (c3_clear l D cs (a_x 3) a_h s_h H.size _ eq5) (cwV 0 hts (gV wd869 wd870 wd871 wd109 wd872) rfl rfl rfl (by decide +kernel) ⟨by rw [hR]; exact Nat.le_of_ble_eq_true rfl, by rw [hR]; exact Nat.le_of_ble_eq_true rfl⟩) 9 (by decide) rfl rfl rfl rfl rfl rfl rfl e3 rfl rfl rfl hl.1 rfl (Nat.le_of_ble_eq_true rfl) ⟨Nat.zero_le _, Nat.zero_le _⟩ dX10_street_93 (fun H locs hP hD hS => ?_)
        refine lv_aload_n hx hb dX10_street_96 rfl (lv_at hl 1 rfl) ?_
        refine gfB (i0 := 0) (own := RX10) (T := TX10) (k := 4) (v := .ref (a_x 4)) hx hb htX10 hown hK hP rfl e10 rfl (by decide) (hW _ wd432) rfl dX10_street_97 ?_
        obtain ⟨q6, eq6, hf⟩ := bnd hf
        refine mcVv (rest := []) (Bn := [w10 cs o_x a_x s2, w6 cs (a_x 0) a_r q1.2.1, w9 cs (a_r 0) a_t3 q1.2.2.1, w7 cs (a_r 1) a_g2 q1.2.2.2, w9 cs (a_x 2) a_t q3, w7 cs (a_x 1) a_g q4, w3 cs (a_x 3) a_h q5, w8 cs (a_x 4) a_v q6, w5 cs (a_x 6) a_p s_p]) (isR := [0, 1, 2, 3, 4, 5, 6, 8]) (isC := [7]) (i0 := 7) ⟨hx, hb, hml, hown, hts⟩ hK hP hD hS hA hG (c8_clear l D cs (a_x 4) a_v s_v H.size _ eq6) (cwV 0 hts (gV wd591 wd592 wd593 wd110 wd594) rfl rfl rfl (by decide +kernel) ⟨by rw [hR]; exact Nat.le_of_ble_eq_true rfl, by rw [hR]; exact Nat.le_of_ble_eq_true rfl⟩) 9 (by decide) rfl rfl rfl rfl rfl rfl rfl e8 rfl rfl rfl hl.1 rfl (Nat.le_of_ble_eq_true rfl) ⟨Nat.zero_le _, Nat.zero_le _⟩ dX10_street_100 (fun H locs hP hD hS => ?_)
        refine lv_aload_n hx hb dX10_street_103 rfl (lv_at hl 1 rfl) ?_
        refine gfB (i0 := 0) (own := RX10) (T := TX10) (k := 6) (v := .ref (a_x 6)) hx hb htX10 hown hK hP rfl e10 rfl (by decide) (hW _ wd434) rfl dX10_street_104 ?_
        refine lv_iconst (v := 0) hx hb dX10_street_107 (by decide) ?_
        obtain ⟨s7, es7, hf⟩ := bnd hf
        replace es7 := Option.some.inj es7
        refine pfB (i0 := 8) (own := RX10) (T := TX5) (k := 0) (Bn := [w10 cs o_x a_x s2, w6 cs (a_x 0) a_r q1.2.1, w9 cs (a_r 0) a_t3 q1.2.2.1, w7 cs (a_r 1) a_g2 q1.2.2.2, w9 cs (a_x 2) a_t q3, w7 cs (a_x 1) a_g q4, w3 cs (a_x 3) a_h q5, w8 cs (a_x 4) a_v q6, w5 cs (a_x 6) a_p s7]) tyX5 tyX5_ok nmX5 hx hb htX5 hown hK hP hD hS rfl e5 rfl (by decide) (hW _ wd321) rfl (by decide +kernel) rfl (Nat.le_of_ble_eq_true rfl) dX10_street_108 (by rw [← es7]; exact u5_0) rfl (fun H locs hP hD hS => ?_)
        refine lv_iconst (v := 0) hx hb dX10_street_111 (by decide) ?_
        obtain rfl := Option.some.inj hf
        exact mretI hx hb hr hlocks hK hP hD hS rfl hQ dX10_street_112
      · have hf := ifn hc hf
        refine lv_aload_n hx hb dX10_street_49 rfl (lv_at hl 1 rfl) ?_
        refine gfB (i0 := 0) (own := RX10) (T := TX10) (k := 5) (v := .ref (a_x 5)) hx hb htX10 hown hK hP rfl e10 rfl (by decide) (hW _ wd433) rfl dX10_street_50 ?_
        refine lv_iconst (v := 0) hx hb dX10_street_53 (by decide) ?_
        refine lv_dup2_11 hx hb dX10_street_54 rfl rfl ?_
        refine aldB (i0 := 0) hx hb hK hP rfl a10_5 (vpc (by decide +kernel)) dX10_street_55 ?_
        refine lv_iconst (v := 1) hx hb dX10_street_56 (by decide) ?_
        refine lv_iadd hx hb dX10_street_57 ?_
        obtain ⟨s8, es8, hf⟩ := bnd hf
        replace es8 := Option.some.inj es8
        refine astB (i0 := 0) (Bn := [w10 cs o_x a_x s8, w6 cs (a_x 0) a_r q1.2.1, w9 cs (a_r 0) a_t3 q1.2.2.1, w7 cs (a_r 1) a_g2 q1.2.2.2, w9 cs (a_x 2) a_t s_t, w7 cs (a_x 1) a_g s_g, w3 cs (a_x 3) a_h s_h, w8 cs (a_x 4) a_v s_v, w5 cs (a_x 6) a_p s_p]) hx hb hK hP hD hS rfl a10_5 (vpc (by decide +kernel)) rfl dX10_street_58 (by rw [← es8]; exact v10_5) rfl (fun H locs hP hD hS => ?_)
        refine lv_iload_n hx hb dX10_street_59 rfl (lv_at hl 0 rfl) ?_
        obtain rfl := Option.some.inj hf
        exact mretI hx hb hr hlocks hK hP hD hS rfl hQ dX10_street_60
    · have hf := ifn hc hf
      cases hf
set_option maxHeartbeats 4000000 in
set_option maxRecDepth 100000 in
theorem c10x_street (l : Launch) (D : va_G) (cs : xE) (hl0 : l.stackTraces = false) (o_x : Nat) (a_x : Nat → Nat) (a_r : Nat → Nat) (a_t3 : Nat → Nat) (a_g2 : Nat → Nat) (a_t : Nat → Nat) (a_g : Nat → Nat) (a_h : Nat → Nat) (a_v : Nat → Nat) (a_p : Nat → Nat) (s_x : St) (s_r : St) (s_t3 : St) (s_g2 : St) (s_t : St) (s_g : St) (s_h : HSt) (s_v : St) (s_p : St) (sz : Nat) (x1 : Int32) (k : Nat) (hf : f10_street s_x s_r s_t3 s_g2 s_t s_g s_h s_v s_p x1 = some (.inr k)) : vx_Met l yX10_street (Cond.code yX10_street cX10_street 3 (some .int) :: WG) { frames := 123, cells := 1, slots := 6, locals := 3016 } (va_Pc [.ref o_x, .int x1] (mP D cs (List.flatten [w10 cs o_x a_x s_x, w6 cs (a_x 0) a_r s_r, w9 cs (a_r 0) a_t3 s_t3, w7 cs (a_r 1) a_g2 s_g2, w9 cs (a_x 2) a_t s_t, w7 cs (a_x 1) a_g s_g, w3 cs (a_x 3) a_h s_h, w8 cs (a_x 4) a_v s_v, w5 cs (a_x 6) a_p s_p]) sz)) (fun _ _ _ _ => False) (qX D cs k (List.flatten [w10 cs o_x a_x s_x, w6 cs (a_x 0) a_r s_r, w9 cs (a_r 0) a_t3 s_t3, w7 cs (a_r 1) a_g2 s_g2, w9 cs (a_x 2) a_t s_t, w7 cs (a_x 1) a_g s_g, w3 cs (a_x 3) a_h s_h, w8 cs (a_x 4) a_v s_v, w5 cs (a_x 6) a_p s_p]) (va_A (List.flatten [w10 cs o_x a_x s_x, w6 cs (a_x 0) a_r s_r, w9 cs (a_r 0) a_t3 s_t3, w7 cs (a_r 1) a_g2 s_g2, w9 cs (a_x 2) a_t s_t, w7 cs (a_x 1) a_g s_g, w3 cs (a_x 3) a_h s_h, w8 cs (a_x 4) a_v s_v, w5 cs (a_x 6) a_p s_p]) sz)) 1 6 (va_A (List.flatten [w10 cs o_x a_x s_x, w6 cs (a_x 0) a_r s_r, w9 cs (a_r 0) a_t3 s_t3, w7 cs (a_r 1) a_g2 s_g2, w9 cs (a_x 2) a_t s_t, w7 cs (a_x 1) a_g s_g, w3 cs (a_x 3) a_h s_h, w8 cs (a_x 4) a_v s_v, w5 cs (a_x 6) a_p s_p]) sz) := by
  refine mgoX (cc := cX10_street) (maxL := 3) (ret := (some .int)) (by decide) rfl (Nat.le_of_ble_eq_true rfl) ?_
  intro p e s m below meth c ls A R Q args H hR hQ hno hx hb hml hr hlocks hown hts hP hK hD hA hS hG hl
  have hown : s.vm.findClass RX10 = some m.cls := hown
  have hl : lv_has ls 3 [(0, .ref o_x), (1, .int x1)] := hl
  have hW : ∀ w ∈ WG, w.before args s = true := fun w h => hts w (List.mem_cons_of_mem _ h)
  have htX10 : ∀ w ∈ u_ws RX10 TX10 14, w.before args s = true := fun w h => hW w (inW_X10 w h)
  have htX5 : ∀ w ∈ u_ws RX5 TX5 5, w.before args s = true := fun w h => hW w (inW_X5 w h)
  have htX6 : ∀ w ∈ u_ws RX6 TX6 12, w.before args s = true := fun w h => hW w (inW_X6 w h)
  unfold f10_street at hf
  refine lv_iload_n hx hb dX10_street_0 rfl (lv_at hl 1 rfl) ?_
  refine lv_if_lt (tgt := 15) hx hb dX10_street_1 (by decide) (fun hc => ?_) (fun hc => ?_)
  · have hf := ifp hc hf
    obtain rfl := Sum.inr.inj (Option.some.inj hf)
    exact thI (text := "the tape has not so many bytes") hx hb hl0 (hl.1.trans hml.symm) hlocks hno hown hW hG hK hP hD hS (hG.1 ("TwinLamps", 104, "the tape has not so many bytes", 16) (by decide +kernel)) dX10_street_15 dX10_street_18 dX10_street_19 dX10_street_21 dX10_street_24 (by rw [hR]; exact Nat.le_of_ble_eq_true rfl) (by rw [hR]; exact Nat.le_of_ble_eq_true rfl) (by rw [hR]; exact Nat.le_of_ble_eq_true rfl) (by rw [hR]; exact Nat.le_of_ble_eq_true rfl) hQ
  · have hf := ifn hc hf
    refine lv_iload_n hx hb dX10_street_4 rfl (lv_at hl 1 rfl) ?_
    refine lv_aload_n hx hb dX10_street_5 rfl (lv_at hl 0 rfl) ?_
    refine gfB (i0 := 0) (own := RX10) (T := TX10) (k := 0) (v := .ref (a_x 0)) hx hb htX10 hown hK hP rfl e10 rfl (by decide) (hW _ wd428) rfl dX10_street_6 ?_
    refine gfB (i0 := 1) (own := RX10) (T := TX6) (k := 2) (v := .int (s_r.1 2)) hx hb htX6 hown hK hP rfl e6 rfl (by decide) (hW _ wd230) rfl dX10_street_9 ?_
    refine lv_icmp_le (tgt := 25) hx hb dX10_street_12 (by decide) (fun hc => ?_) (fun hc => ?_)
    · have hf := ifp hc hf
      exact (wI_r hf).elim
    · have hf := ifn hc hf
      obtain rfl := Sum.inr.inj (Option.some.inj hf)
      exact thI (text := "the tape has not so many bytes") hx hb hl0 (hl.1.trans hml.symm) hlocks hno hown hW hG hK hP hD hS (hG.1 ("TwinLamps", 104, "the tape has not so many bytes", 16) (by decide +kernel)) dX10_street_15 dX10_street_18 dX10_street_19 dX10_street_21 dX10_street_24 (by rw [hR]; exact Nat.le_of_ble_eq_true rfl) (by rw [hR]; exact Nat.le_of_ble_eq_true rfl) (by rw [hR]; exact Nat.le_of_ble_eq_true rfl) (by rw [hR]; exact Nat.le_of_ble_eq_true rfl) hQ
/-! TwinLamps.fault -/
noncomputable def f10_fault (s_x : St) : Option (Int32) :=
  some (s_x.1 7)
set_option maxHeartbeats 4000000 in
set_option maxRecDepth 100000 in
theorem c10_fault (l : Launch) (D : va_G) (cs : xE) (o_x : Nat) (a_x : Nat → Nat) (s_x : St) (sz : Nat) (res : Int32) (hf : f10_fault s_x = some res) : Met l yX10_fault (Cond.code yX10_fault cX10_fault 1 (some .int) :: WG) { frames := 0, cells := 0, slots := 0, locals := 0 } (va_Pc [.ref o_x] (mP D cs (List.flatten [w10 cs o_x a_x s_x]) sz)) (qI D cs res (List.flatten [w10 cs o_x a_x s_x]) (va_A (List.flatten [w10 cs o_x a_x s_x]) sz)) 0 0 (va_A (List.flatten [w10 cs o_x a_x s_x]) sz) := by
  refine mgo (Qc := qI D cs res (List.flatten [w10 cs o_x a_x s_x])) (cc := cX10_fault) (maxL := 1) (ret := (some .int)) (by decide) rfl (Nat.le_of_ble_eq_true rfl) ?_
  intro p e s m below meth c ls A R Q args H hR hQ hx hb hml hr hlocks hown hts hP hK hD hA hS hG hl
  have hown : s.vm.findClass RX10 = some m.cls := hown
  have hl : lv_has ls 1 [(0, .ref o_x)] := hl
  have hW : ∀ w ∈ WG, w.before args s = true := fun w h => hts w (List.mem_cons_of_mem _ h)
  have htX10 : ∀ w ∈ u_ws RX10 TX10 14, w.before args s = true := fun w h => hW w (inW_X10 w h)
  unfold f10_fault at hf
  refine lv_aload_n hx hb dX10_fault_0 rfl (lv_at hl 0 rfl) ?_
  refine gfB (i0 := 0) (own := RX10) (T := TX10) (k := 7) (v := .int (s_x.1 7)) hx hb htX10 hown hK hP rfl e10 rfl (by decide) (hW _ wd435) rfl dX10_fault_1 ?_
  obtain rfl := Option.some.inj hf
  exact mretI hx hb hr hlocks hK hP hD hS rfl hQ dX10_fault_4
/-! TwinLamps.count -/
noncomputable def f10_count (s_x : St) (s_t : St) (s_h : HSt) (s_v : St) (s_r : St) (x1 : Int32) : Option ((Int32) ⊕ Nat) :=
  if x1 = 0 then (wI (some (s_t.1 0)))
  else if x1 = 1 then (wI (some (s_t.1 1)))
  else if x1 = 2 then (wI ((f9_singletons s_t).bind fun q1 =>
  (fJ6_bitCount q1).bind fun q2 =>
  some (((s_t.1 1) - q2) / 2)))
  else if x1 = 3 then (wI (some (s_t.1 2)))
  else if x1 = 4 then (wI (some (s_t.1 3)))
  else if x1 = 5 then (wI (some (s_t.1 4)))
  else if x1 = 6 then (wI ((f9_oilInAll s_t).bind fun q3 =>
  some q3))
  else if x1 = 7 then (wI ((f9_singletons s_t).bind fun q4 =>
  some q4))
  else if x1 = 8 then (wI ((f9_happyLamps s_t).bind fun q5 =>
  some q5))
  else if x1 = 9 then (wI ((f9_groups s_t).bind fun q6 =>
  some q6))
  else if x1 = 10 then (wI ((f9_awakeHouses s_t ((s_t.1 2) - (s_t.1 2) / 24 * 24)).bind fun q7 =>
  some q7))
  else if x1 = 11 then (wI (some (s_h.1 0)))
  else if x1 = 12 then (wI (some (s_v.1 0)))
  else if x1 = 13 then (wI (some (s_r.1 2)))
  else if x1 = 14 then (wI (some ((s_x.2 5) (0 : Int32).toNatClampNeg)))
  else if x1 = 15 then (wI (some ((s_x.2 5) (1 : Int32).toNatClampNeg)))
  else if x1 = 16 then (wI (some ((s_x.2 5) (2 : Int32).toNatClampNeg)))
  else some (.inr 1)
set_option maxHeartbeats 4000000 in
set_option maxRecDepth 100000 in
theorem c10_count (l : Launch) (D : va_G) (cs : xE) (o_x : Nat) (a_x : Nat → Nat) (a_t : Nat → Nat) (a_h : Nat → Nat) (a_v : Nat → Nat) (a_r : Nat → Nat) (s_x : St) (s_t : St) (s_h : HSt) (s_v : St) (s_r : St) (sz : Nat) (x1 : Int32) (res : Int32) (hf : f10_count s_x s_t s_h s_v s_r x1 = some (.inl res)) : Met l yX10_count (Cond.code yX10_count cX10_count 2 (some .int) :: WG) { frames := 6, cells := 0, slots := 0, locals := 93 } (va_Pc [.ref o_x, .int x1] (mP D cs (List.flatten [w10 cs o_x a_x s_x, w9 cs (a_x 2) a_t s_t, w3 cs (a_x 3) a_h s_h, w8 cs (a_x 4) a_v s_v, w6 cs (a_x 0) a_r s_r]) sz)) (qI D cs res (List.flatten [w10 cs o_x a_x s_x, w9 cs (a_x 2) a_t s_t, w3 cs (a_x 3) a_h s_h, w8 cs (a_x 4) a_v s_v, w6 cs (a_x 0) a_r s_r]) (va_A (List.flatten [w10 cs o_x a_x s_x, w9 cs (a_x 2) a_t s_t, w3 cs (a_x 3) a_h s_h, w8 cs (a_x 4) a_v s_v, w6 cs (a_x 0) a_r s_r]) sz)) 0 0 (va_A (List.flatten [w10 cs o_x a_x s_x, w9 cs (a_x 2) a_t s_t, w3 cs (a_x 3) a_h s_h, w8 cs (a_x 4) a_v s_v, w6 cs (a_x 0) a_r s_r]) sz) := by
  refine mgo (Qc := qI D cs res (List.flatten [w10 cs o_x a_x s_x, w9 cs (a_x 2) a_t s_t, w3 cs (a_x 3) a_h s_h, w8 cs (a_x 4) a_v s_v, w6 cs (a_x 0) a_r s_r])) (cc := cX10_count) (maxL := 2) (ret := (some .int)) (by decide) rfl (Nat.le_of_ble_eq_true rfl) ?_
  intro p e s m below meth c ls A R Q args H hR hQ hx hb hml hr hlocks hown hts hP hK hD hA hS hG hl
  have hown : s.vm.findClass RX10 = some m.cls := hown
  have hl : lv_has ls 2 [(0, .ref o_x), (1, .int x1)] := hl
  have hW : ∀ w ∈ WG, w.before args s = true := fun w h => hts w (List.mem_cons_of_mem _ h)
  have htX10 : ∀ w ∈ u_ws RX10 TX10 14, w.before args s = true := fun w h => hW w (inW_X10 w h)
  have htX3 : ∀ w ∈ u_ws RX3 TX3 2, w.before args s = true := fun w h => hW w (inW_X3 w h)
  have htX6 : ∀ w ∈ u_ws RX6 TX6 12, w.before args s = true := fun w h => hW w (inW_X6 w h)
  have htX8 : ∀ w ∈ u_ws RX8 TX8 4, w.before args s = true := fun w h => hW w (inW_X8 w h)
  have htX9 : ∀ w ∈ u_ws RX9 TX9 11, w.before args s = true := fun w h => hW w (inW_X9 w h)
  unfold f10_count at hf
  refine lv_iload_n hx hb dX10_count_0 rfl (lv_at hl 1 rfl) ?_
  by_cases hk0 : x1 = 0
  · have hf := ifp hk0 hf
    refine lv_tableIn (off := 83) (tgt := 84) hx hb dX10_count_1 (by rw [hk0]; decide) (by rw [hk0]; decide) (by rw [hk0]; rfl) (by decide) ?_
    have hf := wI_l hf
    refine lv_aload_n hx hb dX10_count_84 rfl (lv_at hl 0 rfl) ?_
    refine gfB (i0 := 0) (own := RX10) (T := TX10) (k := 2) (v := .ref (a_x 2)) hx hb htX10 hown hK hP rfl e10 rfl (by decide) (hW _ wd430) rfl dX10_count_85 ?_
    refine gfB (i0 := 1) (own := RX10) (T := TX9) (k := 0) (v := .int (s_t.1 0)) hx hb htX9 hown hK hP rfl e9 rfl (by decide) (hW _ wd150) rfl dX10_count_88 ?_
    obtain rfl := Option.some.inj hf
    exact mretI hx hb hr hlocks hK hP hD hS rfl hQ dX10_count_91
  have hf := ifn hk0 hf
  by_cases hk1 : x1 = 1
  · have hf := ifp hk1 hf
    refine lv_tableIn (off := 91) (tgt := 92) hx hb dX10_count_1 (by rw [hk1]; decide) (by rw [hk1]; decide) (by rw [hk1]; rfl) (by decide) ?_
    have hf := wI_l hf
    refine lv_aload_n hx hb dX10_count_92 rfl (lv_at hl 0 rfl) ?_
    refine gfB (i0 := 0) (own := RX10) (T := TX10) (k := 2) (v := .ref (a_x 2)) hx hb htX10 hown hK hP rfl e10 rfl (by decide) (hW _ wd430) rfl dX10_count_93 ?_
    refine gfB (i0 := 1) (own := RX10) (T := TX9) (k := 1) (v := .int (s_t.1 1)) hx hb htX9 hown hK hP rfl e9 rfl (by decide) (hW _ wd155) rfl dX10_count_96 ?_
    obtain rfl := Option.some.inj hf
    exact mretI hx hb hr hlocks hK hP hD hS rfl hQ dX10_count_99
  have hf := ifn hk1 hf
  by_cases hk2 : x1 = 2
  · have hf := ifp hk2 hf
    refine lv_tableIn (off := 99) (tgt := 100) hx hb dX10_count_1 (by rw [hk2]; decide) (by rw [hk2]; decide) (by rw [hk2]; rfl) (by decide) ?_
    have hf := wI_l hf
    refine lv_aload_n hx hb dX10_count_100 rfl (lv_at hl 0 rfl) ?_
    refine gfB (i0 := 0) (own := RX10) (T := TX10) (k := 2) (v := .ref (a_x 2)) hx hb htX10 hown hK hP rfl e10 rfl (by decide) (hW _ wd430) rfl dX10_count_101 ?_
    refine gfB (i0 := 1) (own := RX10) (T := TX9) (k := 1) (v := .int (s_t.1 1)) hx hb htX9 hown hK hP rfl e9 rfl (by decide) (hW _ wd155) rfl dX10_count_104 ?_
    refine lv_aload_n hx hb dX10_count_107 rfl (lv_at hl 0 rfl) ?_
    refine gfB (i0 := 0) (own := RX10) (T := TX10) (k := 2) (v := .ref (a_x 2)) hx hb htX10 hown hK hP rfl e10 rfl (by decide) (hW _ wd430) rfl dX10_count_108 ?_
    obtain ⟨q1, eq1, hf⟩ := bnd hf
    refine mcVi (v := q1) (rest := [.int (s_t.1 1)]) (Bn := [w10 cs o_x a_x s_x, w9 cs (a_x 2) a_t s_t, w3 cs (a_x 3) a_h s_h, w8 cs (a_x 4) a_v s_v, w6 cs (a_x 0) a_r s_r]) (isR := [0, 2, 3, 4]) (isC := [1]) (i0 := 1) ⟨hx, hb, hml, hown, hts⟩ hK hP hD hS hA hG (c9_singletons l D cs (a_x 2) a_t s_t H.size _ eq1) (cwV 0 hts (gV wd881 wd882 wd883 wd107 wd884) rfl rfl rfl (by decide +kernel) ⟨by rw [hR]; exact Nat.le_of_ble_eq_true rfl, by rw [hR]; exact Nat.le_of_ble_eq_true rfl⟩) 5 (by decide) rfl rfl rfl rfl rfl rfl rfl e9 rfl rfl rfl hl.1 rfl (Nat.le_of_ble_eq_true rfl) ⟨Nat.zero_le _, Nat.zero_le _⟩ dX10_count_111 (fun H locs hP hD hS => ?_)
    obtain ⟨q2, eq2, hf⟩ := bnd hf
    refine mcSi0 (v := q2) (As := [.int q1]) (rest := [.int (s_t.1 1)]) ⟨hx, hb, hml, hown, hts⟩ hK hP hS hA hG (cJ6_bitCount l D cs H.size q1 _ eq2) (va_cwS 1 hts (gS wd885 wd535 wd127 wd536) rfl rfl rfl (by decide +kernel) ⟨by rw [hR]; exact Nat.le_of_ble_eq_true rfl, by rw [hR]; exact Nat.le_of_ble_eq_true rfl⟩) rfl hl.1 rfl (Nat.le_of_ble_eq_true rfl) ⟨Nat.zero_le _, Nat.zero_le _⟩ dX10_count_114 (fun H locs hP hS => ?_)
    refine lv_isub hx hb dX10_count_117 ?_
    refine lv_iconst (v := 2) hx hb dX10_count_118 (by decide) ?_
    refine lv_idiv hx hb dX10_count_119 (by decide) ?_
    obtain rfl := Option.some.inj hf
    exact mretI hx hb hr hlocks hK hP hD hS rfl hQ dX10_count_120
  have hf := ifn hk2 hf
  by_cases hk3 : x1 = 3
  · have hf := ifp hk3 hf
    refine lv_tableIn (off := 120) (tgt := 121) hx hb dX10_count_1 (by rw [hk3]; decide) (by rw [hk3]; decide) (by rw [hk3]; rfl) (by decide) ?_
    have hf := wI_l hf
    refine lv_aload_n hx hb dX10_count_121 rfl (lv_at hl 0 rfl) ?_
    refine gfB (i0 := 0) (own := RX10) (T := TX10) (k := 2) (v := .ref (a_x 2)) hx hb htX10 hown hK hP rfl e10 rfl (by decide) (hW _ wd430) rfl dX10_count_122 ?_
    refine gfB (i0 := 1) (own := RX10) (T := TX9) (k := 2) (v := .int (s_t.1 2)) hx hb htX9 hown hK hP rfl e9 rfl (by decide) (hW _ wd159) rfl dX10_count_125 ?_
    obtain rfl := Option.some.inj hf
    exact mretI hx hb hr hlocks hK hP hD hS rfl hQ dX10_count_128
  have hf := ifn hk3 hf
  by_cases hk4 : x1 = 4
  · have hf := ifp hk4 hf
    refine lv_tableIn (off := 128) (tgt := 129) hx hb dX10_count_1 (by rw [hk4]; decide) (by rw [hk4]; decide) (by rw [hk4]; rfl) (by decide) ?_
    have hf := wI_l hf
    refine lv_aload_n hx hb dX10_count_129 rfl (lv_at hl 0 rfl) ?_
    refine gfB (i0 := 0) (own := RX10) (T := TX10) (k := 2) (v := .ref (a_x 2)) hx hb htX10 hown hK hP rfl e10 rfl (by decide) (hW _ wd430) rfl dX10_count_130 ?_
    refine gfB (i0 := 1) (own := RX10) (T := TX9) (k := 3) (v := .int (s_t.1 3)) hx hb htX9 hown hK hP rfl e9 rfl (by decide) (hW _ wd162) rfl dX10_count_133 ?_
    obtain rfl := Option.some.inj hf
    exact mretI hx hb hr hlocks hK hP hD hS rfl hQ dX10_count_136
  have hf := ifn hk4 hf
  by_cases hk5 : x1 = 5
  · have hf := ifp hk5 hf
    refine lv_tableIn (off := 136) (tgt := 137) hx hb dX10_count_1 (by rw [hk5]; decide) (by rw [hk5]; decide) (by rw [hk5]; rfl) (by decide) ?_
    have hf := wI_l hf
    refine lv_aload_n hx hb dX10_count_137 rfl (lv_at hl 0 rfl) ?_
    refine gfB (i0 := 0) (own := RX10) (T := TX10) (k := 2) (v := .ref (a_x 2)) hx hb htX10 hown hK hP rfl e10 rfl (by decide) (hW _ wd430) rfl dX10_count_138 ?_
    refine gfB (i0 := 1) (own := RX10) (T := TX9) (k := 4) (v := .int (s_t.1 4)) hx hb htX9 hown hK hP rfl e9 rfl (by decide) (hW _ wd164) rfl dX10_count_141 ?_
    obtain rfl := Option.some.inj hf
    exact mretI hx hb hr hlocks hK hP hD hS rfl hQ dX10_count_144
  have hf := ifn hk5 hf
  by_cases hk6 : x1 = 6
  · have hf := ifp hk6 hf
    refine lv_tableIn (off := 144) (tgt := 145) hx hb dX10_count_1 (by rw [hk6]; decide) (by rw [hk6]; decide) (by rw [hk6]; rfl) (by decide) ?_
    have hf := wI_l hf
    refine lv_aload_n hx hb dX10_count_145 rfl (lv_at hl 0 rfl) ?_
    refine gfB (i0 := 0) (own := RX10) (T := TX10) (k := 2) (v := .ref (a_x 2)) hx hb htX10 hown hK hP rfl e10 rfl (by decide) (hW _ wd430) rfl dX10_count_146 ?_
    obtain ⟨q3, eq3, hf⟩ := bnd hf
    refine mcVi (v := q3) (rest := []) (Bn := [w10 cs o_x a_x s_x, w9 cs (a_x 2) a_t s_t, w3 cs (a_x 3) a_h s_h, w8 cs (a_x 4) a_v s_v, w6 cs (a_x 0) a_r s_r]) (isR := [0, 2, 3, 4]) (isC := [1]) (i0 := 1) ⟨hx, hb, hml, hown, hts⟩ hK hP hD hS hA hG (c9_oilInAll l D cs (a_x 2) a_t s_t H.size _ eq3) (cwV 0 hts (gV wd886 wd887 wd888 wd107 wd889) rfl rfl rfl (by decide +kernel) ⟨by rw [hR]; exact Nat.le_of_ble_eq_true rfl, by rw [hR]; exact Nat.le_of_ble_eq_true rfl⟩) 5 (by decide) rfl rfl rfl rfl rfl rfl rfl e9 rfl rfl rfl hl.1 rfl (Nat.le_of_ble_eq_true rfl) ⟨Nat.zero_le _, Nat.zero_le _⟩ dX10_count_149 (fun H locs hP hD hS => ?_)
    obtain rfl := Option.some.inj hf
    exact mretI hx hb hr hlocks hK hP hD hS rfl hQ dX10_count_152
  have hf := ifn hk6 hf
  by_cases hk7 : x1 = 7
  · have hf := ifp hk7 hf
    refine lv_tableIn (off := 152) (tgt := 153) hx hb dX10_count_1 (by rw [hk7]; decide) (by rw [hk7]; decide) (by rw [hk7]; rfl) (by decide) ?_
    have hf := wI_l hf
    refine lv_aload_n hx hb dX10_count_153 rfl (lv_at hl 0 rfl) ?_
    refine gfB (i0 := 0) (own := RX10) (T := TX10) (k := 2) (v := .ref (a_x 2)) hx hb htX10 hown hK hP rfl e10 rfl (by decide) (hW _ wd430) rfl dX10_count_154 ?_
    obtain ⟨q4, eq4, hf⟩ := bnd hf
    refine mcVi (v := q4) (rest := []) (Bn := [w10 cs o_x a_x s_x, w9 cs (a_x 2) a_t s_t, w3 cs (a_x 3) a_h s_h, w8 cs (a_x 4) a_v s_v, w6 cs (a_x 0) a_r s_r]) (isR := [0, 2, 3, 4]) (isC := [1]) (i0 := 1) ⟨hx, hb, hml, hown, hts⟩ hK hP hD hS hA hG (c9_singletons l D cs (a_x 2) a_t s_t H.size _ eq4) (cwV 0 hts (gV wd881 wd882 wd883 wd107 wd884) rfl rfl rfl (by decide +kernel) ⟨by rw [hR]; exact Nat.le_of_ble_eq_true rfl, by rw [hR]; exact Nat.le_of_ble_eq_true rfl⟩) 5 (by decide) rfl rfl rfl rfl rfl rfl rfl e9 rfl rfl rfl hl.1 rfl (Nat.le_of_ble_eq_true rfl) ⟨Nat.zero_le _, Nat.zero_le _⟩ dX10_count_157 (fun H locs hP hD hS => ?_)
    obtain rfl := Option.some.inj hf
    exact mretI hx hb hr hlocks hK hP hD hS rfl hQ dX10_count_160
  have hf := ifn hk7 hf
  by_cases hk8 : x1 = 8
  · have hf := ifp hk8 hf
    refine lv_tableIn (off := 160) (tgt := 161) hx hb dX10_count_1 (by rw [hk8]; decide) (by rw [hk8]; decide) (by rw [hk8]; rfl) (by decide) ?_
    have hf := wI_l hf
    refine lv_aload_n hx hb dX10_count_161 rfl (lv_at hl 0 rfl) ?_
    refine gfB (i0 := 0) (own := RX10) (T := TX10) (k := 2) (v := .ref (a_x 2)) hx hb htX10 hown hK hP rfl e10 rfl (by decide) (hW _ wd430) rfl dX10_count_162 ?_
    obtain ⟨q5, eq5, hf⟩ := bnd hf
    refine mcVi (v := q5) (rest := []) (Bn := [w10 cs o_x a_x s_x, w9 cs (a_x 2) a_t s_t, w3 cs (a_x 3) a_h s_h, w8 cs (a_x 4) a_v s_v, w6 cs (a_x 0) a_r s_r]) (isR := [0, 2, 3, 4]) (isC := [1]) (i0 := 1) ⟨hx, hb, hml, hown, hts⟩ hK hP hD hS hA hG (c9_happyLamps l D cs (a_x 2) a_t s_t H.size _ eq5) (cwV 0 hts (gV wd890 wd891 wd892 wd107 wd893) rfl rfl rfl (by decide +kernel) ⟨by rw [hR]; exact Nat.le_of_ble_eq_true rfl, by rw [hR]; exact Nat.le_of_ble_eq_true rfl⟩) 5 (by decide) rfl rfl rfl rfl rfl rfl rfl e9 rfl rfl rfl hl.1 rfl (Nat.le_of_ble_eq_true rfl) ⟨Nat.zero_le _, Nat.zero_le _⟩ dX10_count_165 (fun H locs hP hD hS => ?_)
    obtain rfl := Option.some.inj hf
    exact mretI hx hb hr hlocks hK hP hD hS rfl hQ dX10_count_168
  have hf := ifn hk8 hf
  by_cases hk9 : x1 = 9
  · have hf := ifp hk9 hf
    refine lv_tableIn (off := 168) (tgt := 169) hx hb dX10_count_1 (by rw [hk9]; decide) (by rw [hk9]; decide) (by rw [hk9]; rfl) (by decide) ?_
    have hf := wI_l hf
    refine lv_aload_n hx hb dX10_count_169 rfl (lv_at hl 0 rfl) ?_
    refine gfB (i0 := 0) (own := RX10) (T := TX10) (k := 2) (v := .ref (a_x 2)) hx hb htX10 hown hK hP rfl e10 rfl (by decide) (hW _ wd430) rfl dX10_count_170 ?_
    obtain ⟨q6, eq6, hf⟩ := bnd hf
    refine mcVi (v := q6) (rest := []) (Bn := [w10 cs o_x a_x s_x, w9 cs (a_x 2) a_t s_t, w3 cs (a_x 3) a_h s_h, w8 cs (a_x 4) a_v s_v, w6 cs (a_x 0) a_r s_r]) (isR := [0, 2, 3, 4]) (isC := [1]) (i0 := 1) ⟨hx, hb, hml, hown, hts⟩ hK hP hD hS hA hG (c9_groups l D cs (a_x 2) a_t s_t H.size _ eq6) (cwV 0 hts (gV wd894 wd895 wd896 wd107 wd897) rfl rfl rfl (by decide +kernel) ⟨by rw [hR]; exact Nat.le_of_ble_eq_true rfl, by rw [hR]; exact Nat.le_of_ble_eq_true rfl⟩) 5 (by decide) rfl rfl rfl rfl rfl rfl rfl e9 rfl rfl rfl hl.1 rfl (Nat.le_of_ble_eq_true rfl) ⟨Nat.zero_le _, Nat.zero_le _⟩ dX10_count_173 (fun H locs hP hD hS => ?_)
    obtain rfl := Option.some.inj hf
    exact mretI hx hb hr hlocks hK hP hD hS rfl hQ dX10_count_176
  have hf := ifn hk9 hf
  by_cases hk10 : x1 = 10
  · have hf := ifp hk10 hf
    refine lv_tableIn (off := 176) (tgt := 177) hx hb dX10_count_1 (by rw [hk10]; decide) (by rw [hk10]; decide) (by rw [hk10]; rfl) (by decide) ?_
    have hf := wI_l hf
    refine lv_aload_n hx hb dX10_count_177 rfl (lv_at hl 0 rfl) ?_
    refine gfB (i0 := 0) (own := RX10) (T := TX10) (k := 2) (v := .ref (a_x 2)) hx hb htX10 hown hK hP rfl e10 rfl (by decide) (hW _ wd430) rfl dX10_count_178 ?_
    refine lv_aload_n hx hb dX10_count_181 rfl (lv_at hl 0 rfl) ?_
    refine gfB (i0 := 0) (own := RX10) (T := TX10) (k := 2) (v := .ref (a_x 2)) hx hb htX10 hown hK hP rfl e10 rfl (by decide) (hW _ wd430) rfl dX10_count_182 ?_
    refine gfB (i0 := 1) (own := RX10) (T := TX9) (k := 2) (v := .int (s_t.1 2)) hx hb htX9 hown hK hP rfl e9 rfl (by decide) (hW _ wd159) rfl dX10_count_185 ?_
    refine lv_bipush (v := 24) hx hb dX10_count_188 (by decide) ?_
    refine lv_irem hx hb dX10_count_190 (by decide) ?_
    obtain ⟨q7, eq7, hf⟩ := bnd hf
    refine mcVi (v := q7) (rest := []) (Bn := [w10 cs o_x a_x s_x, w9 cs (a_x 2) a_t s_t, w3 cs (a_x 3) a_h s_h, w8 cs (a_x 4) a_v s_v, w6 cs (a_x 0) a_r s_r]) (isR := [0, 2, 3, 4]) (isC := [1]) (i0 := 1) ⟨hx, hb, hml, hown, hts⟩ hK hP hD hS hA hG (c9_awakeHouses l D cs (a_x 2) a_t s_t H.size ((s_t.1 2) - (s_t.1 2) / 24 * 24) _ eq7) (cwV 1 hts (gV wd910 wd911 wd912 wd107 wd913) rfl rfl rfl (by decide +kernel) ⟨by rw [hR]; exact Nat.le_of_ble_eq_true rfl, by rw [hR]; exact Nat.le_of_ble_eq_true rfl⟩) 5 (by decide) rfl rfl rfl rfl rfl rfl rfl e9 rfl rfl rfl hl.1 rfl (Nat.le_of_ble_eq_true rfl) ⟨Nat.zero_le _, Nat.zero_le _⟩ dX10_count_191 (fun H locs hP hD hS => ?_)
    obtain rfl := Option.some.inj hf
    exact mretI hx hb hr hlocks hK hP hD hS rfl hQ dX10_count_194
  have hf := ifn hk10 hf
  by_cases hk11 : x1 = 11
  · have hf := ifp hk11 hf
    refine lv_tableIn (off := 194) (tgt := 195) hx hb dX10_count_1 (by rw [hk11]; decide) (by rw [hk11]; decide) (by rw [hk11]; rfl) (by decide) ?_
    have hf := wI_l hf
    refine lv_aload_n hx hb dX10_count_195 rfl (lv_at hl 0 rfl) ?_
    refine gfB (i0 := 0) (own := RX10) (T := TX10) (k := 3) (v := .ref (a_x 3)) hx hb htX10 hown hK hP rfl e10 rfl (by decide) (hW _ wd431) rfl dX10_count_196 ?_
    refine gfB (i0 := 2) (own := RX10) (T := TX3) (k := 0) (v := .int (s_h.1 0)) hx hb htX3 hown hK hP rfl e3 rfl (by decide) (hW _ wd282) rfl dX10_count_199 ?_
    obtain rfl := Option.some.inj hf
    exact mretI hx hb hr hlocks hK hP hD hS rfl hQ dX10_count_202
  have hf := ifn hk11 hf
  by_cases hk12 : x1 = 12
  · have hf := ifp hk12 hf
    refine lv_tableIn (off := 202) (tgt := 203) hx hb dX10_count_1 (by rw [hk12]; decide) (by rw [hk12]; decide) (by rw [hk12]; rfl) (by decide) ?_
    have hf := wI_l hf
    refine lv_aload_n hx hb dX10_count_203 rfl (lv_at hl 0 rfl) ?_
    refine gfB (i0 := 0) (own := RX10) (T := TX10) (k := 4) (v := .ref (a_x 4)) hx hb htX10 hown hK hP rfl e10 rfl (by decide) (hW _ wd432) rfl dX10_count_204 ?_
    refine gfB (i0 := 3) (own := RX10) (T := TX8) (k := 0) (v := .int (s_v.1 0)) hx hb htX8 hown hK hP rfl e8 rfl (by decide) (hW _ wd296) rfl dX10_count_207 ?_
    obtain rfl := Option.some.inj hf
    exact mretI hx hb hr hlocks hK hP hD hS rfl hQ dX10_count_210
  have hf := ifn hk12 hf
  by_cases hk13 : x1 = 13
  · have hf := ifp hk13 hf
    refine lv_tableIn (off := 210) (tgt := 211) hx hb dX10_count_1 (by rw [hk13]; decide) (by rw [hk13]; decide) (by rw [hk13]; rfl) (by decide) ?_
    have hf := wI_l hf
    refine lv_aload_n hx hb dX10_count_211 rfl (lv_at hl 0 rfl) ?_
    refine gfB (i0 := 0) (own := RX10) (T := TX10) (k := 0) (v := .ref (a_x 0)) hx hb htX10 hown hK hP rfl e10 rfl (by decide) (hW _ wd428) rfl dX10_count_212 ?_
    refine gfB (i0 := 4) (own := RX10) (T := TX6) (k := 2) (v := .int (s_r.1 2)) hx hb htX6 hown hK hP rfl e6 rfl (by decide) (hW _ wd230) rfl dX10_count_215 ?_
    obtain rfl := Option.some.inj hf
    exact mretI hx hb hr hlocks hK hP hD hS rfl hQ dX10_count_218
  have hf := ifn hk13 hf
  by_cases hk14 : x1 = 14
  · have hf := ifp hk14 hf
    refine lv_tableIn (off := 218) (tgt := 219) hx hb dX10_count_1 (by rw [hk14]; decide) (by rw [hk14]; decide) (by rw [hk14]; rfl) (by decide) ?_
    have hf := wI_l hf
    refine lv_aload_n hx hb dX10_count_219 rfl (lv_at hl 0 rfl) ?_
    refine gfB (i0 := 0) (own := RX10) (T := TX10) (k := 5) (v := .ref (a_x 5)) hx hb htX10 hown hK hP rfl e10 rfl (by decide) (hW _ wd433) rfl dX10_count_220 ?_
    refine lv_iconst (v := 0) hx hb dX10_count_223 (by decide) ?_
    refine aldB (i0 := 0) hx hb hK hP rfl a10_5 (vpc (by decide +kernel)) dX10_count_224 ?_
    obtain rfl := Option.some.inj hf
    exact mretI hx hb hr hlocks hK hP hD hS rfl hQ dX10_count_225
  have hf := ifn hk14 hf
  by_cases hk15 : x1 = 15
  · have hf := ifp hk15 hf
    refine lv_tableIn (off := 225) (tgt := 226) hx hb dX10_count_1 (by rw [hk15]; decide) (by rw [hk15]; decide) (by rw [hk15]; rfl) (by decide) ?_
    have hf := wI_l hf
    refine lv_aload_n hx hb dX10_count_226 rfl (lv_at hl 0 rfl) ?_
    refine gfB (i0 := 0) (own := RX10) (T := TX10) (k := 5) (v := .ref (a_x 5)) hx hb htX10 hown hK hP rfl e10 rfl (by decide) (hW _ wd433) rfl dX10_count_227 ?_
    refine lv_iconst (v := 1) hx hb dX10_count_230 (by decide) ?_
    refine aldB (i0 := 0) hx hb hK hP rfl a10_5 (vpc (by decide +kernel)) dX10_count_231 ?_
    obtain rfl := Option.some.inj hf
    exact mretI hx hb hr hlocks hK hP hD hS rfl hQ dX10_count_232
  have hf := ifn hk15 hf
  by_cases hk16 : x1 = 16
  · have hf := ifp hk16 hf
    refine lv_tableIn (off := 232) (tgt := 233) hx hb dX10_count_1 (by rw [hk16]; decide) (by rw [hk16]; decide) (by rw [hk16]; rfl) (by decide) ?_
    have hf := wI_l hf
    refine lv_aload_n hx hb dX10_count_233 rfl (lv_at hl 0 rfl) ?_
    refine gfB (i0 := 0) (own := RX10) (T := TX10) (k := 5) (v := .ref (a_x 5)) hx hb htX10 hown hK hP rfl e10 rfl (by decide) (hW _ wd433) rfl dX10_count_234 ?_
    refine lv_iconst (v := 2) hx hb dX10_count_237 (by decide) ?_
    refine aldB (i0 := 0) hx hb hK hP rfl a10_5 (vpc (by decide +kernel)) dX10_count_238 ?_
    obtain rfl := Option.some.inj hf
    exact mretI hx hb hr hlocks hK hP hD hS rfl hQ dX10_count_239
  have hf := ifn hk16 hf
  refine lv_tableOut (tgt := 240) hx hb dX10_count_1 (by have ihk0 : (x1 : Int32).toInt ≠ 0 := fun z => tI_ne hk0 (z.trans (by decide +kernel)); have ihk1 : (x1 : Int32).toInt ≠ 1 := fun z => tI_ne hk1 (z.trans (by decide +kernel)); have ihk2 : (x1 : Int32).toInt ≠ 2 := fun z => tI_ne hk2 (z.trans (by decide +kernel)); have ihk3 : (x1 : Int32).toInt ≠ 3 := fun z => tI_ne hk3 (z.trans (by decide +kernel)); have ihk4 : (x1 : Int32).toInt ≠ 4 := fun z => tI_ne hk4 (z.trans (by decide +kernel)); have ihk5 : (x1 : Int32).toInt ≠ 5 := fun z => tI_ne hk5 (z.trans (by decide +kernel)); have ihk6 : (x1 : Int32).toInt ≠ 6 := fun z => tI_ne hk6 (z.trans (by decide +kernel)); have ihk7 : (x1 : Int32).toInt ≠ 7 := fun z => tI_ne hk7 (z.trans (by decide +kernel)); have ihk8 : (x1 : Int32).toInt ≠ 8 := fun z => tI_ne hk8 (z.trans (by decide +kernel)); have ihk9 : (x1 : Int32).toInt ≠ 9 := fun z => tI_ne hk9 (z.trans (by decide +kernel)); have ihk10 : (x1 : Int32).toInt ≠ 10 := fun z => tI_ne hk10 (z.trans (by decide +kernel)); have ihk11 : (x1 : Int32).toInt ≠ 11 := fun z => tI_ne hk11 (z.trans (by decide +kernel)); have ihk12 : (x1 : Int32).toInt ≠ 12 := fun z => tI_ne hk12 (z.trans (by decide +kernel)); have ihk13 : (x1 : Int32).toInt ≠ 13 := fun z => tI_ne hk13 (z.trans (by decide +kernel)); have ihk14 : (x1 : Int32).toInt ≠ 14 := fun z => tI_ne hk14 (z.trans (by decide +kernel)); have ihk15 : (x1 : Int32).toInt ≠ 15 := fun z => tI_ne hk15 (z.trans (by decide +kernel)); have ihk16 : (x1 : Int32).toInt ≠ 16 := fun z => tI_ne hk16 (z.trans (by decide +kernel)); omega) (by decide) ?_
  cases hf
set_option maxHeartbeats 4000000 in
set_option maxRecDepth 100000 in
theorem c10x_count (l : Launch) (D : va_G) (cs : xE) (hl0 : l.stackTraces = false) (o_x : Nat) (a_x : Nat → Nat) (a_t : Nat → Nat) (a_h : Nat → Nat) (a_v : Nat → Nat) (a_r : Nat → Nat) (s_x : St) (s_t : St) (s_h : HSt) (s_v : St) (s_r : St) (sz : Nat) (x1 : Int32) (k : Nat) (hf : f10_count s_x s_t s_h s_v s_r x1 = some (.inr k)) : vx_Met l yX10_count (Cond.code yX10_count cX10_count 2 (some .int) :: WG) { frames := 6, cells := 1, slots := 6, locals := 93 } (va_Pc [.ref o_x, .int x1] (mP D cs (List.flatten [w10 cs o_x a_x s_x, w9 cs (a_x 2) a_t s_t, w3 cs (a_x 3) a_h s_h, w8 cs (a_x 4) a_v s_v, w6 cs (a_x 0) a_r s_r]) sz)) (fun _ _ _ _ => False) (qX D cs k (List.flatten [w10 cs o_x a_x s_x, w9 cs (a_x 2) a_t s_t, w3 cs (a_x 3) a_h s_h, w8 cs (a_x 4) a_v s_v, w6 cs (a_x 0) a_r s_r]) (va_A (List.flatten [w10 cs o_x a_x s_x, w9 cs (a_x 2) a_t s_t, w3 cs (a_x 3) a_h s_h, w8 cs (a_x 4) a_v s_v, w6 cs (a_x 0) a_r s_r]) sz)) 1 6 (va_A (List.flatten [w10 cs o_x a_x s_x, w9 cs (a_x 2) a_t s_t, w3 cs (a_x 3) a_h s_h, w8 cs (a_x 4) a_v s_v, w6 cs (a_x 0) a_r s_r]) sz) := by
  refine mgoX (cc := cX10_count) (maxL := 2) (ret := (some .int)) (by decide) rfl (Nat.le_of_ble_eq_true rfl) ?_
  intro p e s m below meth c ls A R Q args H hR hQ hno hx hb hml hr hlocks hown hts hP hK hD hA hS hG hl
  have hown : s.vm.findClass RX10 = some m.cls := hown
  have hl : lv_has ls 2 [(0, .ref o_x), (1, .int x1)] := hl
  have hW : ∀ w ∈ WG, w.before args s = true := fun w h => hts w (List.mem_cons_of_mem _ h)
  have htX10 : ∀ w ∈ u_ws RX10 TX10 14, w.before args s = true := fun w h => hW w (inW_X10 w h)
  have htX3 : ∀ w ∈ u_ws RX3 TX3 2, w.before args s = true := fun w h => hW w (inW_X3 w h)
  have htX6 : ∀ w ∈ u_ws RX6 TX6 12, w.before args s = true := fun w h => hW w (inW_X6 w h)
  have htX8 : ∀ w ∈ u_ws RX8 TX8 4, w.before args s = true := fun w h => hW w (inW_X8 w h)
  have htX9 : ∀ w ∈ u_ws RX9 TX9 11, w.before args s = true := fun w h => hW w (inW_X9 w h)
  unfold f10_count at hf
  refine lv_iload_n hx hb dX10_count_0 rfl (lv_at hl 1 rfl) ?_
  by_cases hk0 : x1 = 0
  · have hf := ifp hk0 hf
    refine lv_tableIn (off := 83) (tgt := 84) hx hb dX10_count_1 (by rw [hk0]; decide) (by rw [hk0]; decide) (by rw [hk0]; rfl) (by decide) ?_
    exact (wI_r hf).elim
  have hf := ifn hk0 hf
  by_cases hk1 : x1 = 1
  · have hf := ifp hk1 hf
    refine lv_tableIn (off := 91) (tgt := 92) hx hb dX10_count_1 (by rw [hk1]; decide) (by rw [hk1]; decide) (by rw [hk1]; rfl) (by decide) ?_
    exact (wI_r hf).elim
  have hf := ifn hk1 hf
  by_cases hk2 : x1 = 2
  · have hf := ifp hk2 hf
    refine lv_tableIn (off := 99) (tgt := 100) hx hb dX10_count_1 (by rw [hk2]; decide) (by rw [hk2]; decide) (by rw [hk2]; rfl) (by decide) ?_
    exact (wI_r hf).elim
  have hf := ifn hk2 hf
  by_cases hk3 : x1 = 3
  · have hf := ifp hk3 hf
    refine lv_tableIn (off := 120) (tgt := 121) hx hb dX10_count_1 (by rw [hk3]; decide) (by rw [hk3]; decide) (by rw [hk3]; rfl) (by decide) ?_
    exact (wI_r hf).elim
  have hf := ifn hk3 hf
  by_cases hk4 : x1 = 4
  · have hf := ifp hk4 hf
    refine lv_tableIn (off := 128) (tgt := 129) hx hb dX10_count_1 (by rw [hk4]; decide) (by rw [hk4]; decide) (by rw [hk4]; rfl) (by decide) ?_
    exact (wI_r hf).elim
  have hf := ifn hk4 hf
  by_cases hk5 : x1 = 5
  · have hf := ifp hk5 hf
    refine lv_tableIn (off := 136) (tgt := 137) hx hb dX10_count_1 (by rw [hk5]; decide) (by rw [hk5]; decide) (by rw [hk5]; rfl) (by decide) ?_
    exact (wI_r hf).elim
  have hf := ifn hk5 hf
  by_cases hk6 : x1 = 6
  · have hf := ifp hk6 hf
    refine lv_tableIn (off := 144) (tgt := 145) hx hb dX10_count_1 (by rw [hk6]; decide) (by rw [hk6]; decide) (by rw [hk6]; rfl) (by decide) ?_
    exact (wI_r hf).elim
  have hf := ifn hk6 hf
  by_cases hk7 : x1 = 7
  · have hf := ifp hk7 hf
    refine lv_tableIn (off := 152) (tgt := 153) hx hb dX10_count_1 (by rw [hk7]; decide) (by rw [hk7]; decide) (by rw [hk7]; rfl) (by decide) ?_
    exact (wI_r hf).elim
  have hf := ifn hk7 hf
  by_cases hk8 : x1 = 8
  · have hf := ifp hk8 hf
    refine lv_tableIn (off := 160) (tgt := 161) hx hb dX10_count_1 (by rw [hk8]; decide) (by rw [hk8]; decide) (by rw [hk8]; rfl) (by decide) ?_
    exact (wI_r hf).elim
  have hf := ifn hk8 hf
  by_cases hk9 : x1 = 9
  · have hf := ifp hk9 hf
    refine lv_tableIn (off := 168) (tgt := 169) hx hb dX10_count_1 (by rw [hk9]; decide) (by rw [hk9]; decide) (by rw [hk9]; rfl) (by decide) ?_
    exact (wI_r hf).elim
  have hf := ifn hk9 hf
  by_cases hk10 : x1 = 10
  · have hf := ifp hk10 hf
    refine lv_tableIn (off := 176) (tgt := 177) hx hb dX10_count_1 (by rw [hk10]; decide) (by rw [hk10]; decide) (by rw [hk10]; rfl) (by decide) ?_
    exact (wI_r hf).elim
  have hf := ifn hk10 hf
  by_cases hk11 : x1 = 11
  · have hf := ifp hk11 hf
    refine lv_tableIn (off := 194) (tgt := 195) hx hb dX10_count_1 (by rw [hk11]; decide) (by rw [hk11]; decide) (by rw [hk11]; rfl) (by decide) ?_
    exact (wI_r hf).elim
  have hf := ifn hk11 hf
  by_cases hk12 : x1 = 12
  · have hf := ifp hk12 hf
    refine lv_tableIn (off := 202) (tgt := 203) hx hb dX10_count_1 (by rw [hk12]; decide) (by rw [hk12]; decide) (by rw [hk12]; rfl) (by decide) ?_
    exact (wI_r hf).elim
  have hf := ifn hk12 hf
  by_cases hk13 : x1 = 13
  · have hf := ifp hk13 hf
    refine lv_tableIn (off := 210) (tgt := 211) hx hb dX10_count_1 (by rw [hk13]; decide) (by rw [hk13]; decide) (by rw [hk13]; rfl) (by decide) ?_
    exact (wI_r hf).elim
  have hf := ifn hk13 hf
  by_cases hk14 : x1 = 14
  · have hf := ifp hk14 hf
    refine lv_tableIn (off := 218) (tgt := 219) hx hb dX10_count_1 (by rw [hk14]; decide) (by rw [hk14]; decide) (by rw [hk14]; rfl) (by decide) ?_
    exact (wI_r hf).elim
  have hf := ifn hk14 hf
  by_cases hk15 : x1 = 15
  · have hf := ifp hk15 hf
    refine lv_tableIn (off := 225) (tgt := 226) hx hb dX10_count_1 (by rw [hk15]; decide) (by rw [hk15]; decide) (by rw [hk15]; rfl) (by decide) ?_
    exact (wI_r hf).elim
  have hf := ifn hk15 hf
  by_cases hk16 : x1 = 16
  · have hf := ifp hk16 hf
    refine lv_tableIn (off := 232) (tgt := 233) hx hb dX10_count_1 (by rw [hk16]; decide) (by rw [hk16]; decide) (by rw [hk16]; rfl) (by decide) ?_
    exact (wI_r hf).elim
  have hf := ifn hk16 hf
  refine lv_tableOut (tgt := 240) hx hb dX10_count_1 (by have ihk0 : (x1 : Int32).toInt ≠ 0 := fun z => tI_ne hk0 (z.trans (by decide +kernel)); have ihk1 : (x1 : Int32).toInt ≠ 1 := fun z => tI_ne hk1 (z.trans (by decide +kernel)); have ihk2 : (x1 : Int32).toInt ≠ 2 := fun z => tI_ne hk2 (z.trans (by decide +kernel)); have ihk3 : (x1 : Int32).toInt ≠ 3 := fun z => tI_ne hk3 (z.trans (by decide +kernel)); have ihk4 : (x1 : Int32).toInt ≠ 4 := fun z => tI_ne hk4 (z.trans (by decide +kernel)); have ihk5 : (x1 : Int32).toInt ≠ 5 := fun z => tI_ne hk5 (z.trans (by decide +kernel)); have ihk6 : (x1 : Int32).toInt ≠ 6 := fun z => tI_ne hk6 (z.trans (by decide +kernel)); have ihk7 : (x1 : Int32).toInt ≠ 7 := fun z => tI_ne hk7 (z.trans (by decide +kernel)); have ihk8 : (x1 : Int32).toInt ≠ 8 := fun z => tI_ne hk8 (z.trans (by decide +kernel)); have ihk9 : (x1 : Int32).toInt ≠ 9 := fun z => tI_ne hk9 (z.trans (by decide +kernel)); have ihk10 : (x1 : Int32).toInt ≠ 10 := fun z => tI_ne hk10 (z.trans (by decide +kernel)); have ihk11 : (x1 : Int32).toInt ≠ 11 := fun z => tI_ne hk11 (z.trans (by decide +kernel)); have ihk12 : (x1 : Int32).toInt ≠ 12 := fun z => tI_ne hk12 (z.trans (by decide +kernel)); have ihk13 : (x1 : Int32).toInt ≠ 13 := fun z => tI_ne hk13 (z.trans (by decide +kernel)); have ihk14 : (x1 : Int32).toInt ≠ 14 := fun z => tI_ne hk14 (z.trans (by decide +kernel)); have ihk15 : (x1 : Int32).toInt ≠ 15 := fun z => tI_ne hk15 (z.trans (by decide +kernel)); have ihk16 : (x1 : Int32).toInt ≠ 16 := fun z => tI_ne hk16 (z.trans (by decide +kernel)); omega) (by decide) ?_
  obtain rfl := Sum.inr.inj (Option.some.inj hf)
  exact thN (text := "there is no such count") hx hb hl0 (hl.1.trans hml.symm) hlocks hno hown hW hG hK hP hD hS (hG.1 ("TwinLamps", 177, "there is no such count", 17) (by decide +kernel)) dX10_count_240 dX10_count_243 dX10_count_244 dX10_count_246 dX10_count_249 (by rw [hR]; exact Nat.le_of_ble_eq_true rfl) (by rw [hR]; exact Nat.le_of_ble_eq_true rfl) (by rw [hR]; exact Nat.le_of_ble_eq_true rfl) (by rw [hR]; exact Nat.le_of_ble_eq_true rfl) hQ
/-! TwinLamps.needHouse -/
noncomputable def f10_needHouse (s_x : St) (s_t : St) (x1 : Int32) : Option ((Unit) ⊕ Nat) :=
  if x1 < 0 then (some (.inr 1))
  else if x1 < (s_t.1 0) then (wI (some ()))
  else some (.inr 1)
set_option maxHeartbeats 4000000 in
set_option maxRecDepth 100000 in
theorem c10_needHouse (l : Launch) (D : va_G) (cs : xE) (o_x : Nat) (a_x : Nat → Nat) (a_t : Nat → Nat) (s_x : St) (s_t : St) (sz : Nat) (x1 : Int32) (res : Unit) (hf : f10_needHouse s_x s_t x1 = some (.inl res)) : Met l yX10_needHouse (Cond.code yX10_needHouse cX10_needHouse 2 none :: WG) { frames := 6, cells := 0, slots := 0, locals := 90 } (va_Pc [.ref o_x, .int x1] (mP D cs (List.flatten [w10 cs o_x a_x s_x, w9 cs (a_x 2) a_t s_t]) sz)) (qV D cs (List.flatten [w10 cs o_x a_x s_x, w9 cs (a_x 2) a_t s_t]) (va_A (List.flatten [w10 cs o_x a_x s_x, w9 cs (a_x 2) a_t s_t]) sz)) 0 0 (va_A (List.flatten [w10 cs o_x a_x s_x, w9 cs (a_x 2) a_t s_t]) sz) := by
  refine mgo (Qc := qV D cs (List.flatten [w10 cs o_x a_x s_x, w9 cs (a_x 2) a_t s_t])) (cc := cX10_needHouse) (maxL := 2) (ret := none) (by decide) rfl (Nat.le_of_ble_eq_true rfl) ?_
  intro p e s m below meth c ls A R Q args H hR hQ hx hb hml hr hlocks hown hts hP hK hD hA hS hG hl
  have hown : s.vm.findClass RX10 = some m.cls := hown
  have hl : lv_has ls 2 [(0, .ref o_x), (1, .int x1)] := hl
  have hW : ∀ w ∈ WG, w.before args s = true := fun w h => hts w (List.mem_cons_of_mem _ h)
  have htX10 : ∀ w ∈ u_ws RX10 TX10 14, w.before args s = true := fun w h => hW w (inW_X10 w h)
  have htX9 : ∀ w ∈ u_ws RX9 TX9 11, w.before args s = true := fun w h => hW w (inW_X9 w h)
  unfold f10_needHouse at hf
  refine lv_iload_n hx hb dX10_needHouse_0 rfl (lv_at hl 1 rfl) ?_
  refine lv_if_lt (tgt := 15) hx hb dX10_needHouse_1 (by decide) (fun hc => ?_) (fun hc => ?_)
  · have hf := ifp hc hf
    cases hf
  · have hf := ifn hc hf
    refine lv_iload_n hx hb dX10_needHouse_4 rfl (lv_at hl 1 rfl) ?_
    refine lv_aload_n hx hb dX10_needHouse_5 rfl (lv_at hl 0 rfl) ?_
    refine gfB (i0 := 0) (own := RX10) (T := TX10) (k := 2) (v := .ref (a_x 2)) hx hb htX10 hown hK hP rfl e10 rfl (by decide) (hW _ wd430) rfl dX10_needHouse_6 ?_
    refine gfB (i0 := 1) (own := RX10) (T := TX9) (k := 0) (v := .int (s_t.1 0)) hx hb htX9 hown hK hP rfl e9 rfl (by decide) (hW _ wd150) rfl dX10_needHouse_9 ?_
    refine lv_icmp_lt (tgt := 26) hx hb dX10_needHouse_12 (by decide) (fun hc => ?_) (fun hc => ?_)
    · have hf := ifp hc hf
      have hf := wI_l hf
      obtain rfl := Option.some.inj hf
      exact mretV hx hb hr hlocks hK hP hD hS hQ dX10_needHouse_26
    · have hf := ifn hc hf
      cases hf
set_option maxHeartbeats 4000000 in
set_option maxRecDepth 100000 in
theorem c10x_needHouse (l : Launch) (D : va_G) (cs : xE) (hl0 : l.stackTraces = false) (o_x : Nat) (a_x : Nat → Nat) (a_t : Nat → Nat) (s_x : St) (s_t : St) (sz : Nat) (x1 : Int32) (k : Nat) (hf : f10_needHouse s_x s_t x1 = some (.inr k)) : vx_Met l yX10_needHouse (Cond.code yX10_needHouse cX10_needHouse 2 none :: WG) { frames := 6, cells := 1, slots := 6, locals := 90 } (va_Pc [.ref o_x, .int x1] (mP D cs (List.flatten [w10 cs o_x a_x s_x, w9 cs (a_x 2) a_t s_t]) sz)) (fun _ _ _ _ => False) (qX D cs k (List.flatten [w10 cs o_x a_x s_x, w9 cs (a_x 2) a_t s_t]) (va_A (List.flatten [w10 cs o_x a_x s_x, w9 cs (a_x 2) a_t s_t]) sz)) 1 6 (va_A (List.flatten [w10 cs o_x a_x s_x, w9 cs (a_x 2) a_t s_t]) sz) := by
  refine mgoX (cc := cX10_needHouse) (maxL := 2) (ret := none) (by decide) rfl (Nat.le_of_ble_eq_true rfl) ?_
  intro p e s m below meth c ls A R Q args H hR hQ hno hx hb hml hr hlocks hown hts hP hK hD hA hS hG hl
  have hown : s.vm.findClass RX10 = some m.cls := hown
  have hl : lv_has ls 2 [(0, .ref o_x), (1, .int x1)] := hl
  have hW : ∀ w ∈ WG, w.before args s = true := fun w h => hts w (List.mem_cons_of_mem _ h)
  have htX10 : ∀ w ∈ u_ws RX10 TX10 14, w.before args s = true := fun w h => hW w (inW_X10 w h)
  have htX9 : ∀ w ∈ u_ws RX9 TX9 11, w.before args s = true := fun w h => hW w (inW_X9 w h)
  unfold f10_needHouse at hf
  refine lv_iload_n hx hb dX10_needHouse_0 rfl (lv_at hl 1 rfl) ?_
  refine lv_if_lt (tgt := 15) hx hb dX10_needHouse_1 (by decide) (fun hc => ?_) (fun hc => ?_)
  · have hf := ifp hc hf
    obtain rfl := Sum.inr.inj (Option.some.inj hf)
    exact thNW (text := "there is no such house") hx hb hl0 (hl.1.trans hml.symm) hlocks hno hown hW hG hK hP hD hS (hG.1 ("TwinLamps", 374, "there is no such house", 24) (by decide +kernel)) dX10_needHouse_15 dX10_needHouse_18 dX10_needHouse_19 dX10_needHouse_22 dX10_needHouse_25 (by rw [hR]; exact Nat.le_of_ble_eq_true rfl) (by rw [hR]; exact Nat.le_of_ble_eq_true rfl) (by rw [hR]; exact Nat.le_of_ble_eq_true rfl) (by rw [hR]; exact Nat.le_of_ble_eq_true rfl) hQ
  · have hf := ifn hc hf
    refine lv_iload_n hx hb dX10_needHouse_4 rfl (lv_at hl 1 rfl) ?_
    refine lv_aload_n hx hb dX10_needHouse_5 rfl (lv_at hl 0 rfl) ?_
    refine gfB (i0 := 0) (own := RX10) (T := TX10) (k := 2) (v := .ref (a_x 2)) hx hb htX10 hown hK hP rfl e10 rfl (by decide) (hW _ wd430) rfl dX10_needHouse_6 ?_
    refine gfB (i0 := 1) (own := RX10) (T := TX9) (k := 0) (v := .int (s_t.1 0)) hx hb htX9 hown hK hP rfl e9 rfl (by decide) (hW _ wd150) rfl dX10_needHouse_9 ?_
    refine lv_icmp_lt (tgt := 26) hx hb dX10_needHouse_12 (by decide) (fun hc => ?_) (fun hc => ?_)
    · have hf := ifp hc hf
      exact (wI_r hf).elim
    · have hf := ifn hc hf
      obtain rfl := Sum.inr.inj (Option.some.inj hf)
      exact thNW (text := "there is no such house") hx hb hl0 (hl.1.trans hml.symm) hlocks hno hown hW hG hK hP hD hS (hG.1 ("TwinLamps", 374, "there is no such house", 24) (by decide +kernel)) dX10_needHouse_15 dX10_needHouse_18 dX10_needHouse_19 dX10_needHouse_22 dX10_needHouse_25 (by rw [hR]; exact Nat.le_of_ble_eq_true rfl) (by rw [hR]; exact Nat.le_of_ble_eq_true rfl) (by rw [hR]; exact Nat.le_of_ble_eq_true rfl) (by rw [hR]; exact Nat.le_of_ble_eq_true rfl) hQ
/-! TwinLamps.house -/
noncomputable def f10_house (s_x : St) (s_t : St) (x1 : Int32) (x2 : Int32) : Option ((Int32) ⊕ Nat) :=
  xB (f10_needHouse s_x s_t x1) fun q1 =>
  if x2 = 0 then (wI ((ldO 8 (s_t.2 5) x1).bind fun q2 =>
  some q2))
  else if x2 = 1 then (wI ((ldO 8 (s_t.2 6) x1).bind fun q3 =>
  some q3))
  else if x2 = 2 then (wI ((ldO 8 (s_t.2 7) x1).bind fun q4 =>
  some q4))
  else if x2 = 3 then (wI ((f9_lampsOf s_t x1).bind fun q5 =>
  some q5))
  else if x2 = 4 then (wI ((f9_plungedBy s_t x1).bind fun q6 =>
  some q6))
  else some (.inr 1)
set_option maxHeartbeats 4000000 in
set_option maxRecDepth 100000 in
theorem c10_house (l : Launch) (D : va_G) (cs : xE) (o_x : Nat) (a_x : Nat → Nat) (a_t : Nat → Nat) (s_x : St) (s_t : St) (sz : Nat) (x1 : Int32) (x2 : Int32) (res : Int32) (hf : f10_house s_x s_t x1 x2 = some (.inl res)) : Met l yX10_house (Cond.code yX10_house cX10_house 3 (some .int) :: WG) { frames := 7, cells := 0, slots := 0, locals := 111 } (va_Pc [.ref o_x, .int x1, .int x2] (mP D cs (List.flatten [w10 cs o_x a_x s_x, w9 cs (a_x 2) a_t s_t]) sz)) (qI D cs res (List.flatten [w10 cs o_x a_x s_x, w9 cs (a_x 2) a_t s_t]) (va_A (List.flatten [w10 cs o_x a_x s_x, w9 cs (a_x 2) a_t s_t]) sz)) 0 0 (va_A (List.flatten [w10 cs o_x a_x s_x, w9 cs (a_x 2) a_t s_t]) sz) := by
  refine mgo (Qc := qI D cs res (List.flatten [w10 cs o_x a_x s_x, w9 cs (a_x 2) a_t s_t])) (cc := cX10_house) (maxL := 3) (ret := (some .int)) (by decide) rfl (Nat.le_of_ble_eq_true rfl) ?_
  intro p e s m below meth c ls A R Q args H hR hQ hx hb hml hr hlocks hown hts hP hK hD hA hS hG hl
  have hown : s.vm.findClass RX10 = some m.cls := hown
  have hl : lv_has ls 3 [(0, .ref o_x), (1, .int x1), (2, .int x2)] := hl
  have hW : ∀ w ∈ WG, w.before args s = true := fun w h => hts w (List.mem_cons_of_mem _ h)
  have htX10 : ∀ w ∈ u_ws RX10 TX10 14, w.before args s = true := fun w h => hW w (inW_X10 w h)
  have htX9 : ∀ w ∈ u_ws RX9 TX9 11, w.before args s = true := fun w h => hW w (inW_X9 w h)
  unfold f10_house at hf
  refine lv_aload_n hx hb dX10_house_0 rfl (lv_at hl 0 rfl) ?_
  refine lv_iload_n hx hb dX10_house_1 rfl (lv_at hl 1 rfl) ?_
  obtain ⟨q1, eq1, hf⟩ := xB_l hf
  refine mcVv (rest := []) (Bn := [w10 cs o_x a_x s_x, w9 cs (a_x 2) a_t s_t]) (isR := []) (isC := [0, 1]) (i0 := 0) ⟨hx, hb, hml, hown, hts⟩ hK hP hD hS hA hG (c10_needHouse l D cs o_x a_x a_t s_x s_t H.size x1 _ eq1) (cwV 1 hts (gV wd937 wd939 wd25 wd105 wd940) rfl rfl rfl (by decide +kernel) ⟨by rw [hR]; exact Nat.le_of_ble_eq_true rfl, by rw [hR]; exact Nat.le_of_ble_eq_true rfl⟩) 2 (by decide) rfl rfl rfl rfl rfl rfl rfl e10 rfl rfl rfl hl.1 rfl (Nat.le_of_ble_eq_true rfl) ⟨Nat.zero_le _, Nat.zero_le _⟩ dX10_house_2 (fun H locs hP hD hS => ?_)
  refine lv_iload_n hx hb dX10_house_5 rfl (lv_at hl 2 rfl) ?_
  by_cases hk0 : x2 = 0
  · have hf := ifp hk0 hf
    refine lv_tableIn (off := 34) (tgt := 40) hx hb dX10_house_6 (by rw [hk0]; decide) (by rw [hk0]; decide) (by rw [hk0]; rfl) (by decide) ?_
    have hf := wI_l hf
    refine lv_aload_n hx hb dX10_house_40 rfl (lv_at hl 0 rfl) ?_
    refine gfB (i0 := 0) (own := RX10) (T := TX10) (k := 2) (v := .ref (a_x 2)) hx hb htX10 hown hK hP rfl e10 rfl (by decide) (hW _ wd430) rfl dX10_house_41 ?_
    refine gfB (i0 := 1) (own := RX10) (T := TX9) (k := 5) (v := .ref (a_t 5)) hx hb htX9 hown hK hP rfl e9 rfl (by decide) (hW _ wd167) rfl dX10_house_44 ?_
    refine lv_iload_n hx hb dX10_house_47 rfl (lv_at hl 1 rfl) ?_
    obtain ⟨q2, eq2, hf⟩ := bnd hf
    obtain ⟨gq2, eq2⟩ := ldO_e eq2
    refine aldB (i0 := 1) hx hb hK hP rfl a9_5 gq2 dX10_house_48 ?_
    refine lv_nm eq2 ?_
    obtain rfl := Option.some.inj hf
    exact mretI hx hb hr hlocks hK hP hD hS rfl hQ dX10_house_49
  have hf := ifn hk0 hf
  by_cases hk1 : x2 = 1
  · have hf := ifp hk1 hf
    refine lv_tableIn (off := 44) (tgt := 50) hx hb dX10_house_6 (by rw [hk1]; decide) (by rw [hk1]; decide) (by rw [hk1]; rfl) (by decide) ?_
    have hf := wI_l hf
    refine lv_aload_n hx hb dX10_house_50 rfl (lv_at hl 0 rfl) ?_
    refine gfB (i0 := 0) (own := RX10) (T := TX10) (k := 2) (v := .ref (a_x 2)) hx hb htX10 hown hK hP rfl e10 rfl (by decide) (hW _ wd430) rfl dX10_house_51 ?_
    refine gfB (i0 := 1) (own := RX10) (T := TX9) (k := 6) (v := .ref (a_t 6)) hx hb htX9 hown hK hP rfl e9 rfl (by decide) (hW _ wd169) rfl dX10_house_54 ?_
    refine lv_iload_n hx hb dX10_house_57 rfl (lv_at hl 1 rfl) ?_
    obtain ⟨q3, eq3, hf⟩ := bnd hf
    obtain ⟨gq3, eq3⟩ := ldO_e eq3
    refine aldB (i0 := 1) hx hb hK hP rfl a9_6 gq3 dX10_house_58 ?_
    refine lv_nm eq3 ?_
    obtain rfl := Option.some.inj hf
    exact mretI hx hb hr hlocks hK hP hD hS rfl hQ dX10_house_59
  have hf := ifn hk1 hf
  by_cases hk2 : x2 = 2
  · have hf := ifp hk2 hf
    refine lv_tableIn (off := 54) (tgt := 60) hx hb dX10_house_6 (by rw [hk2]; decide) (by rw [hk2]; decide) (by rw [hk2]; rfl) (by decide) ?_
    have hf := wI_l hf
    refine lv_aload_n hx hb dX10_house_60 rfl (lv_at hl 0 rfl) ?_
    refine gfB (i0 := 0) (own := RX10) (T := TX10) (k := 2) (v := .ref (a_x 2)) hx hb htX10 hown hK hP rfl e10 rfl (by decide) (hW _ wd430) rfl dX10_house_61 ?_
    refine gfB (i0 := 1) (own := RX10) (T := TX9) (k := 7) (v := .ref (a_t 7)) hx hb htX9 hown hK hP rfl e9 rfl (by decide) (hW _ wd171) rfl dX10_house_64 ?_
    refine lv_iload_n hx hb dX10_house_67 rfl (lv_at hl 1 rfl) ?_
    obtain ⟨q4, eq4, hf⟩ := bnd hf
    obtain ⟨gq4, eq4⟩ := ldO_e eq4
    refine aldB (i0 := 1) hx hb hK hP rfl a9_7 gq4 dX10_house_68 ?_
    refine lv_nm eq4 ?_
    obtain rfl := Option.some.inj hf
    exact mretI hx hb hr hlocks hK hP hD hS rfl hQ dX10_house_69
  have hf := ifn hk2 hf
  by_cases hk3 : x2 = 3
  · have hf := ifp hk3 hf
    refine lv_tableIn (off := 64) (tgt := 70) hx hb dX10_house_6 (by rw [hk3]; decide) (by rw [hk3]; decide) (by rw [hk3]; rfl) (by decide) ?_
    have hf := wI_l hf
    refine lv_aload_n hx hb dX10_house_70 rfl (lv_at hl 0 rfl) ?_
    refine gfB (i0 := 0) (own := RX10) (T := TX10) (k := 2) (v := .ref (a_x 2)) hx hb htX10 hown hK hP rfl e10 rfl (by decide) (hW _ wd430) rfl dX10_house_71 ?_
    refine lv_iload_n hx hb dX10_house_74 rfl (lv_at hl 1 rfl) ?_
    obtain ⟨q5, eq5, hf⟩ := bnd hf
    refine mcVi (v := q5) (rest := []) (Bn := [w10 cs o_x a_x s_x, w9 cs (a_x 2) a_t s_t]) (isR := [0]) (isC := [1]) (i0 := 1) ⟨hx, hb, hml, hown, hts⟩ hK hP hD hS hA hG (c9_lampsOf l D cs (a_x 2) a_t s_t H.size x1 _ eq5) (cwV 1 hts (gV wd942 wd531 wd532 wd107 wd533) rfl rfl rfl (by decide +kernel) ⟨by rw [hR]; exact Nat.le_of_ble_eq_true rfl, by rw [hR]; exact Nat.le_of_ble_eq_true rfl⟩) 2 (by decide) rfl rfl rfl rfl rfl rfl rfl e9 rfl rfl rfl hl.1 rfl (Nat.le_of_ble_eq_true rfl) ⟨Nat.zero_le _, Nat.zero_le _⟩ dX10_house_75 (fun H locs hP hD hS => ?_)
    obtain rfl := Option.some.inj hf
    exact mretI hx hb hr hlocks hK hP hD hS rfl hQ dX10_house_78
  have hf := ifn hk3 hf
  by_cases hk4 : x2 = 4
  · have hf := ifp hk4 hf
    refine lv_tableIn (off := 73) (tgt := 79) hx hb dX10_house_6 (by rw [hk4]; decide) (by rw [hk4]; decide) (by rw [hk4]; rfl) (by decide) ?_
    have hf := wI_l hf
    refine lv_aload_n hx hb dX10_house_79 rfl (lv_at hl 0 rfl) ?_
    refine gfB (i0 := 0) (own := RX10) (T := TX10) (k := 2) (v := .ref (a_x 2)) hx hb htX10 hown hK hP rfl e10 rfl (by decide) (hW _ wd430) rfl dX10_house_80 ?_
    refine lv_iload_n hx hb dX10_house_83 rfl (lv_at hl 1 rfl) ?_
    obtain ⟨q6, eq6, hf⟩ := bnd hf
    refine mcVi (v := q6) (rest := []) (Bn := [w10 cs o_x a_x s_x, w9 cs (a_x 2) a_t s_t]) (isR := [0]) (isC := [1]) (i0 := 1) ⟨hx, hb, hml, hown, hts⟩ hK hP hD hS hA hG (c9_plungedBy l D cs (a_x 2) a_t s_t H.size x1 _ eq6) (cwV 1 hts (gV wd943 wd907 wd908 wd107 wd909) rfl rfl rfl (by decide +kernel) ⟨by rw [hR]; exact Nat.le_of_ble_eq_true rfl, by rw [hR]; exact Nat.le_of_ble_eq_true rfl⟩) 2 (by decide) rfl rfl rfl rfl rfl rfl rfl e9 rfl rfl rfl hl.1 rfl (Nat.le_of_ble_eq_true rfl) ⟨Nat.zero_le _, Nat.zero_le _⟩ dX10_house_84 (fun H locs hP hD hS => ?_)
    obtain rfl := Option.some.inj hf
    exact mretI hx hb hr hlocks hK hP hD hS rfl hQ dX10_house_87
  have hf := ifn hk4 hf
  refine lv_tableOut (tgt := 88) hx hb dX10_house_6 (by have ihk0 : (x2 : Int32).toInt ≠ 0 := fun z => tI_ne hk0 (z.trans (by decide +kernel)); have ihk1 : (x2 : Int32).toInt ≠ 1 := fun z => tI_ne hk1 (z.trans (by decide +kernel)); have ihk2 : (x2 : Int32).toInt ≠ 2 := fun z => tI_ne hk2 (z.trans (by decide +kernel)); have ihk3 : (x2 : Int32).toInt ≠ 3 := fun z => tI_ne hk3 (z.trans (by decide +kernel)); have ihk4 : (x2 : Int32).toInt ≠ 4 := fun z => tI_ne hk4 (z.trans (by decide +kernel)); omega) (by decide) ?_
  cases hf
set_option maxHeartbeats 4000000 in
set_option maxRecDepth 100000 in
theorem c10x_house (l : Launch) (D : va_G) (cs : xE) (hl0 : l.stackTraces = false) (o_x : Nat) (a_x : Nat → Nat) (a_t : Nat → Nat) (s_x : St) (s_t : St) (sz : Nat) (x1 : Int32) (x2 : Int32) (k : Nat) (hf : f10_house s_x s_t x1 x2 = some (.inr k)) : vx_Met l yX10_house (Cond.code yX10_house cX10_house 3 (some .int) :: WG) { frames := 7, cells := 1, slots := 6, locals := 111 } (va_Pc [.ref o_x, .int x1, .int x2] (mP D cs (List.flatten [w10 cs o_x a_x s_x, w9 cs (a_x 2) a_t s_t]) sz)) (fun _ _ _ _ => False) (qX D cs k (List.flatten [w10 cs o_x a_x s_x, w9 cs (a_x 2) a_t s_t]) (va_A (List.flatten [w10 cs o_x a_x s_x, w9 cs (a_x 2) a_t s_t]) sz)) 1 6 (va_A (List.flatten [w10 cs o_x a_x s_x, w9 cs (a_x 2) a_t s_t]) sz) := by
  refine mgoX (cc := cX10_house) (maxL := 3) (ret := (some .int)) (by decide) rfl (Nat.le_of_ble_eq_true rfl) ?_
  intro p e s m below meth c ls A R Q args H hR hQ hno hx hb hml hr hlocks hown hts hP hK hD hA hS hG hl
  have hown : s.vm.findClass RX10 = some m.cls := hown
  have hl : lv_has ls 3 [(0, .ref o_x), (1, .int x1), (2, .int x2)] := hl
  have hW : ∀ w ∈ WG, w.before args s = true := fun w h => hts w (List.mem_cons_of_mem _ h)
  have htX10 : ∀ w ∈ u_ws RX10 TX10 14, w.before args s = true := fun w h => hW w (inW_X10 w h)
  have htX9 : ∀ w ∈ u_ws RX9 TX9 11, w.before args s = true := fun w h => hW w (inW_X9 w h)
  unfold f10_house at hf
  refine lv_aload_n hx hb dX10_house_0 rfl (lv_at hl 0 rfl) ?_
  refine lv_iload_n hx hb dX10_house_1 rfl (lv_at hl 1 rfl) ?_
  rcases xB_r hf with xq1 | ⟨q1, eq1, hf⟩
  · exact mxV (rest := []) (isR := []) (isC := [0, 1]) (i0 := 0) ⟨hx, hb, hml, hown, hts⟩ hK hP hD hS hA hG (c10x_needHouse l D cs hl0 o_x a_x a_t s_x s_t H.size x1 _ xq1) (cwV 1 hts (gV wd937 wd939 wd25 wd105 wd940) rfl rfl rfl (by decide +kernel) ⟨by rw [hR]; exact Nat.le_of_ble_eq_true rfl, by rw [hR]; exact Nat.le_of_ble_eq_true rfl⟩) 2 (by decide) rfl rfl rfl rfl e10 rfl rfl rfl hl.1 rfl (Nat.le_of_ble_eq_true rfl) ⟨by rw [hR]; exact Nat.le_of_ble_eq_true rfl, by rw [hR]; exact Nat.le_of_ble_eq_true rfl⟩ dX10_house_2 hno hlocks hQ
  refine mcVv (rest := []) (Bn := [w10 cs o_x a_x s_x, w9 cs (a_x 2) a_t s_t]) (isR := []) (isC := [0, 1]) (i0 := 0) ⟨hx, hb, hml, hown, hts⟩ hK hP hD hS hA hG (c10_needHouse l D cs o_x a_x a_t s_x s_t H.size x1 _ eq1) (cwV 1 hts (gV wd937 wd939 wd25 wd105 wd940) rfl rfl rfl (by decide +kernel) ⟨by rw [hR]; exact Nat.le_of_ble_eq_true rfl, by rw [hR]; exact Nat.le_of_ble_eq_true rfl⟩) 2 (by decide) rfl rfl rfl rfl rfl rfl rfl e10 rfl rfl rfl hl.1 rfl (Nat.le_of_ble_eq_true rfl) ⟨Nat.zero_le _, Nat.zero_le _⟩ dX10_house_2 (fun H locs hP hD hS => ?_)
  refine lv_iload_n hx hb dX10_house_5 rfl (lv_at hl 2 rfl) ?_
  by_cases hk0 : x2 = 0
  · have hf := ifp hk0 hf
    refine lv_tableIn (off := 34) (tgt := 40) hx hb dX10_house_6 (by rw [hk0]; decide) (by rw [hk0]; decide) (by rw [hk0]; rfl) (by decide) ?_
    exact (wI_r hf).elim
  have hf := ifn hk0 hf
  by_cases hk1 : x2 = 1
  · have hf := ifp hk1 hf
    refine lv_tableIn (off := 44) (tgt := 50) hx hb dX10_house_6 (by rw [hk1]; decide) (by rw [hk1]; decide) (by rw [hk1]; rfl) (by decide) ?_
    exact (wI_r hf).elim
  have hf := ifn hk1 hf
  by_cases hk2 : x2 = 2
  · have hf := ifp hk2 hf
    refine lv_tableIn (off := 54) (tgt := 60) hx hb dX10_house_6 (by rw [hk2]; decide) (by rw [hk2]; decide) (by rw [hk2]; rfl) (by decide) ?_
    exact (wI_r hf).elim
  have hf := ifn hk2 hf
  by_cases hk3 : x2 = 3
  · have hf := ifp hk3 hf
    refine lv_tableIn (off := 64) (tgt := 70) hx hb dX10_house_6 (by rw [hk3]; decide) (by rw [hk3]; decide) (by rw [hk3]; rfl) (by decide) ?_
    exact (wI_r hf).elim
  have hf := ifn hk3 hf
  by_cases hk4 : x2 = 4
  · have hf := ifp hk4 hf
    refine lv_tableIn (off := 73) (tgt := 79) hx hb dX10_house_6 (by rw [hk4]; decide) (by rw [hk4]; decide) (by rw [hk4]; rfl) (by decide) ?_
    exact (wI_r hf).elim
  have hf := ifn hk4 hf
  refine lv_tableOut (tgt := 88) hx hb dX10_house_6 (by have ihk0 : (x2 : Int32).toInt ≠ 0 := fun z => tI_ne hk0 (z.trans (by decide +kernel)); have ihk1 : (x2 : Int32).toInt ≠ 1 := fun z => tI_ne hk1 (z.trans (by decide +kernel)); have ihk2 : (x2 : Int32).toInt ≠ 2 := fun z => tI_ne hk2 (z.trans (by decide +kernel)); have ihk3 : (x2 : Int32).toInt ≠ 3 := fun z => tI_ne hk3 (z.trans (by decide +kernel)); have ihk4 : (x2 : Int32).toInt ≠ 4 := fun z => tI_ne hk4 (z.trans (by decide +kernel)); omega) (by decide) ?_
  obtain rfl := Sum.inr.inj (Option.some.inj hf)
  exact thN (text := "a house has no such thing") hx hb hl0 (hl.1.trans hml.symm) hlocks hno hown hW hG hK hP hD hS (hG.1 ("TwinLamps", 198, "a house has no such thing", 18) (by decide +kernel)) dX10_house_88 dX10_house_91 dX10_house_92 dX10_house_94 dX10_house_97 (by rw [hR]; exact Nat.le_of_ble_eq_true rfl) (by rw [hR]; exact Nat.le_of_ble_eq_true rfl) (by rw [hR]; exact Nat.le_of_ble_eq_true rfl) (by rw [hR]; exact Nat.le_of_ble_eq_true rfl) hQ
/-! TwinLamps.needLamp -/
noncomputable def f10_needLamp (s_x : St) (s_t : St) (x1 : Int32) : Option ((Unit) ⊕ Nat) :=
  if x1 < 0 then (some (.inr 1))
  else if x1 < (s_t.1 1) then (wI (some ()))
  else some (.inr 1)
set_option maxHeartbeats 4000000 in
set_option maxRecDepth 100000 in
theorem c10_needLamp (l : Launch) (D : va_G) (cs : xE) (o_x : Nat) (a_x : Nat → Nat) (a_t : Nat → Nat) (s_x : St) (s_t : St) (sz : Nat) (x1 : Int32) (res : Unit) (hf : f10_needLamp s_x s_t x1 = some (.inl res)) : Met l yX10_needLamp (Cond.code yX10_needLamp cX10_needLamp 2 none :: WG) { frames := 6, cells := 0, slots := 0, locals := 90 } (va_Pc [.ref o_x, .int x1] (mP D cs (List.flatten [w10 cs o_x a_x s_x, w9 cs (a_x 2) a_t s_t]) sz)) (qV D cs (List.flatten [w10 cs o_x a_x s_x, w9 cs (a_x 2) a_t s_t]) (va_A (List.flatten [w10 cs o_x a_x s_x, w9 cs (a_x 2) a_t s_t]) sz)) 0 0 (va_A (List.flatten [w10 cs o_x a_x s_x, w9 cs (a_x 2) a_t s_t]) sz) := by
  refine mgo (Qc := qV D cs (List.flatten [w10 cs o_x a_x s_x, w9 cs (a_x 2) a_t s_t])) (cc := cX10_needLamp) (maxL := 2) (ret := none) (by decide) rfl (Nat.le_of_ble_eq_true rfl) ?_
  intro p e s m below meth c ls A R Q args H hR hQ hx hb hml hr hlocks hown hts hP hK hD hA hS hG hl
  have hown : s.vm.findClass RX10 = some m.cls := hown
  have hl : lv_has ls 2 [(0, .ref o_x), (1, .int x1)] := hl
  have hW : ∀ w ∈ WG, w.before args s = true := fun w h => hts w (List.mem_cons_of_mem _ h)
  have htX10 : ∀ w ∈ u_ws RX10 TX10 14, w.before args s = true := fun w h => hW w (inW_X10 w h)
  have htX9 : ∀ w ∈ u_ws RX9 TX9 11, w.before args s = true := fun w h => hW w (inW_X9 w h)
  unfold f10_needLamp at hf
  refine lv_iload_n hx hb dX10_needLamp_0 rfl (lv_at hl 1 rfl) ?_
  refine lv_if_lt (tgt := 15) hx hb dX10_needLamp_1 (by decide) (fun hc => ?_) (fun hc => ?_)
  · have hf := ifp hc hf
    cases hf
  · have hf := ifn hc hf
    refine lv_iload_n hx hb dX10_needLamp_4 rfl (lv_at hl 1 rfl) ?_
    refine lv_aload_n hx hb dX10_needLamp_5 rfl (lv_at hl 0 rfl) ?_
    refine gfB (i0 := 0) (own := RX10) (T := TX10) (k := 2) (v := .ref (a_x 2)) hx hb htX10 hown hK hP rfl e10 rfl (by decide) (hW _ wd430) rfl dX10_needLamp_6 ?_
    refine gfB (i0 := 1) (own := RX10) (T := TX9) (k := 1) (v := .int (s_t.1 1)) hx hb htX9 hown hK hP rfl e9 rfl (by decide) (hW _ wd155) rfl dX10_needLamp_9 ?_
    refine lv_icmp_lt (tgt := 26) hx hb dX10_needLamp_12 (by decide) (fun hc => ?_) (fun hc => ?_)
    · have hf := ifp hc hf
      have hf := wI_l hf
      obtain rfl := Option.some.inj hf
      exact mretV hx hb hr hlocks hK hP hD hS hQ dX10_needLamp_26
    · have hf := ifn hc hf
      cases hf
set_option maxHeartbeats 4000000 in
set_option maxRecDepth 100000 in
theorem c10x_needLamp (l : Launch) (D : va_G) (cs : xE) (hl0 : l.stackTraces = false) (o_x : Nat) (a_x : Nat → Nat) (a_t : Nat → Nat) (s_x : St) (s_t : St) (sz : Nat) (x1 : Int32) (k : Nat) (hf : f10_needLamp s_x s_t x1 = some (.inr k)) : vx_Met l yX10_needLamp (Cond.code yX10_needLamp cX10_needLamp 2 none :: WG) { frames := 6, cells := 1, slots := 6, locals := 90 } (va_Pc [.ref o_x, .int x1] (mP D cs (List.flatten [w10 cs o_x a_x s_x, w9 cs (a_x 2) a_t s_t]) sz)) (fun _ _ _ _ => False) (qX D cs k (List.flatten [w10 cs o_x a_x s_x, w9 cs (a_x 2) a_t s_t]) (va_A (List.flatten [w10 cs o_x a_x s_x, w9 cs (a_x 2) a_t s_t]) sz)) 1 6 (va_A (List.flatten [w10 cs o_x a_x s_x, w9 cs (a_x 2) a_t s_t]) sz) := by
  refine mgoX (cc := cX10_needLamp) (maxL := 2) (ret := none) (by decide) rfl (Nat.le_of_ble_eq_true rfl) ?_
  intro p e s m below meth c ls A R Q args H hR hQ hno hx hb hml hr hlocks hown hts hP hK hD hA hS hG hl
  have hown : s.vm.findClass RX10 = some m.cls := hown
  have hl : lv_has ls 2 [(0, .ref o_x), (1, .int x1)] := hl
  have hW : ∀ w ∈ WG, w.before args s = true := fun w h => hts w (List.mem_cons_of_mem _ h)
  have htX10 : ∀ w ∈ u_ws RX10 TX10 14, w.before args s = true := fun w h => hW w (inW_X10 w h)
  have htX9 : ∀ w ∈ u_ws RX9 TX9 11, w.before args s = true := fun w h => hW w (inW_X9 w h)
  unfold f10_needLamp at hf
  refine lv_iload_n hx hb dX10_needLamp_0 rfl (lv_at hl 1 rfl) ?_
  refine lv_if_lt (tgt := 15) hx hb dX10_needLamp_1 (by decide) (fun hc => ?_) (fun hc => ?_)
  · have hf := ifp hc hf
    obtain rfl := Sum.inr.inj (Option.some.inj hf)
    exact thNW (text := "there is no such lamp") hx hb hl0 (hl.1.trans hml.symm) hlocks hno hown hW hG hK hP hD hS (hG.1 ("TwinLamps", 376, "there is no such lamp", 25) (by decide +kernel)) dX10_needLamp_15 dX10_needLamp_18 dX10_needLamp_19 dX10_needLamp_22 dX10_needLamp_25 (by rw [hR]; exact Nat.le_of_ble_eq_true rfl) (by rw [hR]; exact Nat.le_of_ble_eq_true rfl) (by rw [hR]; exact Nat.le_of_ble_eq_true rfl) (by rw [hR]; exact Nat.le_of_ble_eq_true rfl) hQ
  · have hf := ifn hc hf
    refine lv_iload_n hx hb dX10_needLamp_4 rfl (lv_at hl 1 rfl) ?_
    refine lv_aload_n hx hb dX10_needLamp_5 rfl (lv_at hl 0 rfl) ?_
    refine gfB (i0 := 0) (own := RX10) (T := TX10) (k := 2) (v := .ref (a_x 2)) hx hb htX10 hown hK hP rfl e10 rfl (by decide) (hW _ wd430) rfl dX10_needLamp_6 ?_
    refine gfB (i0 := 1) (own := RX10) (T := TX9) (k := 1) (v := .int (s_t.1 1)) hx hb htX9 hown hK hP rfl e9 rfl (by decide) (hW _ wd155) rfl dX10_needLamp_9 ?_
    refine lv_icmp_lt (tgt := 26) hx hb dX10_needLamp_12 (by decide) (fun hc => ?_) (fun hc => ?_)
    · have hf := ifp hc hf
      exact (wI_r hf).elim
    · have hf := ifn hc hf
      obtain rfl := Sum.inr.inj (Option.some.inj hf)
      exact thNW (text := "there is no such lamp") hx hb hl0 (hl.1.trans hml.symm) hlocks hno hown hW hG hK hP hD hS (hG.1 ("TwinLamps", 376, "there is no such lamp", 25) (by decide +kernel)) dX10_needLamp_15 dX10_needLamp_18 dX10_needLamp_19 dX10_needLamp_22 dX10_needLamp_25 (by rw [hR]; exact Nat.le_of_ble_eq_true rfl) (by rw [hR]; exact Nat.le_of_ble_eq_true rfl) (by rw [hR]; exact Nat.le_of_ble_eq_true rfl) (by rw [hR]; exact Nat.le_of_ble_eq_true rfl) hQ
/-! TwinLamps.lamp -/
noncomputable def f10_lamp (s_x : St) (s_t : St) (s_g : St) (x1 : Int32) (x2 : Int32) : Option ((Int32 × St) ⊕ Nat) :=
  xB (f10_needLamp s_x s_t x1) fun q1 =>
  if x2 = 0 then (wI ((ldO 12 (s_t.2 8) x1).bind fun q2 =>
  some (q2, s_g)))
  else if x2 = 1 then (wI ((ldO 12 (s_t.2 9) x1).bind fun q3 =>
  some (q3, s_g)))
  else if x2 = 2 then (wI ((ldO 12 (s_t.2 10) x1).bind fun q4 =>
  some (q4, s_g)))
  else if x2 = 3 then (wI ((f9_isLit s_t x1).bind fun q5 =>
  if (zB q5) = 0 then some (0, s_g) else some (1, s_g)))
  else if x2 = 4 then (wI ((f9_isBroken s_t x1).bind fun q6 =>
  if (zB q6) = 0 then some (0, s_g) else some (1, s_g)))
  else if x2 = 5 then (wI ((f7_wantsLit s_g s_t x1 ((s_t.1 2) - (s_t.1 2) / 24 * 24)).bind fun q7 =>
  if (zB q7.1) = 0 then some (0, q7.2) else some (1, q7.2)))
  else if x2 = 6 then (wI ((f7_hoursWanted s_g s_t x1).bind fun q8 =>
  some (q8.1, q8.2)))
  else some (.inr 1)
set_option maxHeartbeats 4000000 in
set_option maxRecDepth 100000 in
theorem c10_lamp (l : Launch) (D : va_G) (cs : xE) (o_x : Nat) (a_x : Nat → Nat) (a_t : Nat → Nat) (a_g : Nat → Nat) (s_x : St) (s_t : St) (s_g : St) (sz : Nat) (x1 : Int32) (x2 : Int32) (res : Int32 × St) (hf : f10_lamp s_x s_t s_g x1 x2 = some (.inl res)) : Met l yX10_lamp (Cond.code yX10_lamp cX10_lamp 3 (some .int) :: WG) { frames := 7, cells := 0, slots := 0, locals := 111 } (va_Pc [.ref o_x, .int x1, .int x2] (mP D cs (List.flatten [w10 cs o_x a_x s_x, w9 cs (a_x 2) a_t s_t, w7 cs (a_x 1) a_g s_g]) sz)) (qI D cs res.1 (List.flatten [w10 cs o_x a_x s_x, w9 cs (a_x 2) a_t s_t, w7 cs (a_x 1) a_g res.2]) (va_A (List.flatten [w10 cs o_x a_x s_x, w9 cs (a_x 2) a_t s_t, w7 cs (a_x 1) a_g s_g]) sz)) 0 0 (va_A (List.flatten [w10 cs o_x a_x s_x, w9 cs (a_x 2) a_t s_t, w7 cs (a_x 1) a_g s_g]) sz) := by
  refine mgo (Qc := qI D cs res.1 (List.flatten [w10 cs o_x a_x s_x, w9 cs (a_x 2) a_t s_t, w7 cs (a_x 1) a_g res.2])) (cc := cX10_lamp) (maxL := 3) (ret := (some .int)) (by decide) rfl (Nat.le_of_ble_eq_true rfl) ?_
  intro p e s m below meth c ls A R Q args H hR hQ hx hb hml hr hlocks hown hts hP hK hD hA hS hG hl
  have hown : s.vm.findClass RX10 = some m.cls := hown
  have hl : lv_has ls 3 [(0, .ref o_x), (1, .int x1), (2, .int x2)] := hl
  have hW : ∀ w ∈ WG, w.before args s = true := fun w h => hts w (List.mem_cons_of_mem _ h)
  have htX10 : ∀ w ∈ u_ws RX10 TX10 14, w.before args s = true := fun w h => hW w (inW_X10 w h)
  have htX9 : ∀ w ∈ u_ws RX9 TX9 11, w.before args s = true := fun w h => hW w (inW_X9 w h)
  unfold f10_lamp at hf
  refine lv_aload_n hx hb dX10_lamp_0 rfl (lv_at hl 0 rfl) ?_
  refine lv_iload_n hx hb dX10_lamp_1 rfl (lv_at hl 1 rfl) ?_
  obtain ⟨q1, eq1, hf⟩ := xB_l hf
  refine mcVv (rest := []) (Bn := [w10 cs o_x a_x s_x, w9 cs (a_x 2) a_t s_t, w7 cs (a_x 1) a_g s_g]) (isR := [2]) (isC := [0, 1]) (i0 := 0) ⟨hx, hb, hml, hown, hts⟩ hK hP hD hS hA hG (c10_needLamp l D cs o_x a_x a_t s_x s_t H.size x1 _ eq1) (cwV 1 hts (gV wd952 wd954 wd26 wd105 wd955) rfl rfl rfl (by decide +kernel) ⟨by rw [hR]; exact Nat.le_of_ble_eq_true rfl, by rw [hR]; exact Nat.le_of_ble_eq_true rfl⟩) 3 (by decide) rfl rfl rfl rfl rfl rfl rfl e10 rfl rfl rfl hl.1 rfl (Nat.le_of_ble_eq_true rfl) ⟨Nat.zero_le _, Nat.zero_le _⟩ dX10_lamp_2 (fun H locs hP hD hS => ?_)
  refine lv_iload_n hx hb dX10_lamp_5 rfl (lv_at hl 2 rfl) ?_
  by_cases hk0 : x2 = 0
  · have hf := ifp hk0 hf
    refine lv_tableIn (off := 42) (tgt := 48) hx hb dX10_lamp_6 (by rw [hk0]; decide) (by rw [hk0]; decide) (by rw [hk0]; rfl) (by decide) ?_
    have hf := wI_l hf
    refine lv_aload_n hx hb dX10_lamp_48 rfl (lv_at hl 0 rfl) ?_
    refine gfB (i0 := 0) (own := RX10) (T := TX10) (k := 2) (v := .ref (a_x 2)) hx hb htX10 hown hK hP rfl e10 rfl (by decide) (hW _ wd430) rfl dX10_lamp_49 ?_
    refine gfB (i0 := 1) (own := RX10) (T := TX9) (k := 8) (v := .ref (a_t 8)) hx hb htX9 hown hK hP rfl e9 rfl (by decide) (hW _ wd174) rfl dX10_lamp_52 ?_
    refine lv_iload_n hx hb dX10_lamp_55 rfl (lv_at hl 1 rfl) ?_
    obtain ⟨q2, eq2, hf⟩ := bnd hf
    obtain ⟨gq2, eq2⟩ := ldO_e eq2
    refine aldB (i0 := 1) hx hb hK hP rfl a9_8 gq2 dX10_lamp_56 ?_
    refine lv_nm eq2 ?_
    obtain rfl := Option.some.inj hf
    exact mretI hx hb hr hlocks hK hP hD hS rfl hQ dX10_lamp_57
  have hf := ifn hk0 hf
  by_cases hk1 : x2 = 1
  · have hf := ifp hk1 hf
    refine lv_tableIn (off := 52) (tgt := 58) hx hb dX10_lamp_6 (by rw [hk1]; decide) (by rw [hk1]; decide) (by rw [hk1]; rfl) (by decide) ?_
    have hf := wI_l hf
    refine lv_aload_n hx hb dX10_lamp_58 rfl (lv_at hl 0 rfl) ?_
    refine gfB (i0 := 0) (own := RX10) (T := TX10) (k := 2) (v := .ref (a_x 2)) hx hb htX10 hown hK hP rfl e10 rfl (by decide) (hW _ wd430) rfl dX10_lamp_59 ?_
    refine gfB (i0 := 1) (own := RX10) (T := TX9) (k := 9) (v := .ref (a_t 9)) hx hb htX9 hown hK hP rfl e9 rfl (by decide) (hW _ wd179) rfl dX10_lamp_62 ?_
    refine lv_iload_n hx hb dX10_lamp_65 rfl (lv_at hl 1 rfl) ?_
    obtain ⟨q3, eq3, hf⟩ := bnd hf
    obtain ⟨gq3, eq3⟩ := ldO_e eq3
    refine aldB (i0 := 1) hx hb hK hP rfl a9_9 gq3 dX10_lamp_66 ?_
    refine lv_nm eq3 ?_
    obtain rfl := Option.some.inj hf
    exact mretI hx hb hr hlocks hK hP hD hS rfl hQ dX10_lamp_67
  have hf := ifn hk1 hf
  by_cases hk2 : x2 = 2
  · have hf := ifp hk2 hf
    refine lv_tableIn (off := 62) (tgt := 68) hx hb dX10_lamp_6 (by rw [hk2]; decide) (by rw [hk2]; decide) (by rw [hk2]; rfl) (by decide) ?_
    have hf := wI_l hf
    refine lv_aload_n hx hb dX10_lamp_68 rfl (lv_at hl 0 rfl) ?_
    refine gfB (i0 := 0) (own := RX10) (T := TX10) (k := 2) (v := .ref (a_x 2)) hx hb htX10 hown hK hP rfl e10 rfl (by decide) (hW _ wd430) rfl dX10_lamp_69 ?_
    refine gfB (i0 := 1) (own := RX10) (T := TX9) (k := 10) (v := .ref (a_t 10)) hx hb htX9 hown hK hP rfl e9 rfl (by decide) (hW _ wd181) rfl dX10_lamp_72 ?_
    refine lv_iload_n hx hb dX10_lamp_75 rfl (lv_at hl 1 rfl) ?_
    obtain ⟨q4, eq4, hf⟩ := bnd hf
    obtain ⟨gq4, eq4⟩ := ldO_e eq4
    refine aldB (i0 := 1) hx hb hK hP rfl a9_10 gq4 dX10_lamp_76 ?_
    refine lv_nm eq4 ?_
    obtain rfl := Option.some.inj hf
    exact mretI hx hb hr hlocks hK hP hD hS rfl hQ dX10_lamp_77
  have hf := ifn hk2 hf
  by_cases hk3 : x2 = 3
  · have hf := ifp hk3 hf
    refine lv_tableIn (off := 72) (tgt := 78) hx hb dX10_lamp_6 (by rw [hk3]; decide) (by rw [hk3]; decide) (by rw [hk3]; rfl) (by decide) ?_
    have hf := wI_l hf
    refine lv_aload_n hx hb dX10_lamp_78 rfl (lv_at hl 0 rfl) ?_
    refine gfB (i0 := 0) (own := RX10) (T := TX10) (k := 2) (v := .ref (a_x 2)) hx hb htX10 hown hK hP rfl e10 rfl (by decide) (hW _ wd430) rfl dX10_lamp_79 ?_
    refine lv_iload_n hx hb dX10_lamp_82 rfl (lv_at hl 1 rfl) ?_
    obtain ⟨q5, eq5, hf⟩ := bnd hf
    refine mcVi (v := (zB q5)) (rest := []) (Bn := [w10 cs o_x a_x s_x, w9 cs (a_x 2) a_t s_t, w7 cs (a_x 1) a_g s_g]) (isR := [0, 2]) (isC := [1]) (i0 := 1) ⟨hx, hb, hml, hown, hts⟩ hK hP hD hS hA hG (c9_isLit l D cs (a_x 2) a_t s_t H.size x1 _ eq5) (cwV 1 hts (gV wd957 wd556 wd557 wd107 wd558) rfl rfl rfl (by decide +kernel) ⟨by rw [hR]; exact Nat.le_of_ble_eq_true rfl, by rw [hR]; exact Nat.le_of_ble_eq_true rfl⟩) 3 (by decide) rfl rfl rfl rfl rfl rfl rfl e9 rfl rfl rfl hl.1 rfl (Nat.le_of_ble_eq_true rfl) ⟨Nat.zero_le _, Nat.zero_le _⟩ dX10_lamp_83 (fun H locs hP hD hS => ?_)
    refine lv_if_eq (tgt := 93) hx hb dX10_lamp_86 (by decide) (fun hc => ?_) (fun hc => ?_)
    · have hf := ifp hc hf
      refine lv_iconst (v := 0) hx hb dX10_lamp_93 (by decide) ?_
      obtain rfl := Option.some.inj hf
      exact mretI hx hb hr hlocks hK hP hD hS rfl hQ dX10_lamp_94
    · have hf := ifn hc hf
      refine lv_iconst (v := 1) hx hb dX10_lamp_89 (by decide) ?_
      refine lv_goto (tgt := 94) hx hb dX10_lamp_90 (by decide) ?_
      obtain rfl := Option.some.inj hf
      exact mretI hx hb hr hlocks hK hP hD hS rfl hQ dX10_lamp_94
  have hf := ifn hk3 hf
  by_cases hk4 : x2 = 4
  · have hf := ifp hk4 hf
    refine lv_tableIn (off := 89) (tgt := 95) hx hb dX10_lamp_6 (by rw [hk4]; decide) (by rw [hk4]; decide) (by rw [hk4]; rfl) (by decide) ?_
    have hf := wI_l hf
    refine lv_aload_n hx hb dX10_lamp_95 rfl (lv_at hl 0 rfl) ?_
    refine gfB (i0 := 0) (own := RX10) (T := TX10) (k := 2) (v := .ref (a_x 2)) hx hb htX10 hown hK hP rfl e10 rfl (by decide) (hW _ wd430) rfl dX10_lamp_96 ?_
    refine lv_iload_n hx hb dX10_lamp_99 rfl (lv_at hl 1 rfl) ?_
    obtain ⟨q6, eq6, hf⟩ := bnd hf
    refine mcVi (v := (zB q6)) (rest := []) (Bn := [w10 cs o_x a_x s_x, w9 cs (a_x 2) a_t s_t, w7 cs (a_x 1) a_g s_g]) (isR := [0, 2]) (isC := [1]) (i0 := 1) ⟨hx, hb, hml, hown, hts⟩ hK hP hD hS hA hG (c9_isBroken l D cs (a_x 2) a_t s_t H.size x1 _ eq6) (cwV 1 hts (gV wd958 wd959 wd960 wd107 wd961) rfl rfl rfl (by decide +kernel) ⟨by rw [hR]; exact Nat.le_of_ble_eq_true rfl, by rw [hR]; exact Nat.le_of_ble_eq_true rfl⟩) 3 (by decide) rfl rfl rfl rfl rfl rfl rfl e9 rfl rfl rfl hl.1 rfl (Nat.le_of_ble_eq_true rfl) ⟨Nat.zero_le _, Nat.zero_le _⟩ dX10_lamp_100 (fun H locs hP hD hS => ?_)
    refine lv_if_eq (tgt := 110) hx hb dX10_lamp_103 (by decide) (fun hc => ?_) (fun hc => ?_)
    · have hf := ifp hc hf
      refine lv_iconst (v := 0) hx hb dX10_lamp_110 (by decide) ?_
      obtain rfl := Option.some.inj hf
      exact mretI hx hb hr hlocks hK hP hD hS rfl hQ dX10_lamp_111
    · have hf := ifn hc hf
      refine lv_iconst (v := 1) hx hb dX10_lamp_106 (by decide) ?_
      refine lv_goto (tgt := 111) hx hb dX10_lamp_107 (by decide) ?_
      obtain rfl := Option.some.inj hf
      exact mretI hx hb hr hlocks hK hP hD hS rfl hQ dX10_lamp_111
  have hf := ifn hk4 hf
  by_cases hk5 : x2 = 5
  · have hf := ifp hk5 hf
    refine lv_tableIn (off := 106) (tgt := 112) hx hb dX10_lamp_6 (by rw [hk5]; decide) (by rw [hk5]; decide) (by rw [hk5]; rfl) (by decide) ?_
    have hf := wI_l hf
    refine lv_aload_n hx hb dX10_lamp_112 rfl (lv_at hl 0 rfl) ?_
    refine gfB (i0 := 0) (own := RX10) (T := TX10) (k := 1) (v := .ref (a_x 1)) hx hb htX10 hown hK hP rfl e10 rfl (by decide) (hW _ wd429) rfl dX10_lamp_113 ?_
    refine lv_aload_n hx hb dX10_lamp_116 rfl (lv_at hl 0 rfl) ?_
    refine gfB (i0 := 0) (own := RX10) (T := TX10) (k := 2) (v := .ref (a_x 2)) hx hb htX10 hown hK hP rfl e10 rfl (by decide) (hW _ wd430) rfl dX10_lamp_117 ?_
    refine lv_iload_n hx hb dX10_lamp_120 rfl (lv_at hl 1 rfl) ?_
    refine lv_aload_n hx hb dX10_lamp_121 rfl (lv_at hl 0 rfl) ?_
    refine gfB (i0 := 0) (own := RX10) (T := TX10) (k := 2) (v := .ref (a_x 2)) hx hb htX10 hown hK hP rfl e10 rfl (by decide) (hW _ wd430) rfl dX10_lamp_122 ?_
    refine gfB (i0 := 1) (own := RX10) (T := TX9) (k := 2) (v := .int (s_t.1 2)) hx hb htX9 hown hK hP rfl e9 rfl (by decide) (hW _ wd159) rfl dX10_lamp_125 ?_
    refine lv_bipush (v := 24) hx hb dX10_lamp_128 (by decide) ?_
    refine lv_irem hx hb dX10_lamp_130 (by decide) ?_
    obtain ⟨q7, eq7, hf⟩ := bnd hf
    refine mcVi (v := (zB q7.1)) (rest := []) (Bn := [w10 cs o_x a_x s_x, w9 cs (a_x 2) a_t s_t, w7 cs (a_x 1) a_g q7.2]) (isR := [0]) (isC := [2, 1]) (i0 := 2) ⟨hx, hb, hml, hown, hts⟩ hK hP hD hS hA hG (c7_wantsLit l D cs (a_x 1) a_g (a_x 2) a_t s_g s_t H.size x1 ((s_t.1 2) - (s_t.1 2) / 24 * 24) _ eq7) (cwV 3 hts (gV wd962 wd519 wd520 wd108 wd521) rfl rfl rfl (by decide +kernel) ⟨by rw [hR]; exact Nat.le_of_ble_eq_true rfl, by rw [hR]; exact Nat.le_of_ble_eq_true rfl⟩) 3 (by decide) rfl rfl rfl rfl rfl rfl rfl e7 rfl rfl rfl hl.1 rfl (Nat.le_of_ble_eq_true rfl) ⟨Nat.zero_le _, Nat.zero_le _⟩ dX10_lamp_131 (fun H locs hP hD hS => ?_)
    refine lv_if_eq (tgt := 141) hx hb dX10_lamp_134 (by decide) (fun hc => ?_) (fun hc => ?_)
    · have hf := ifp hc hf
      refine lv_iconst (v := 0) hx hb dX10_lamp_141 (by decide) ?_
      obtain rfl := Option.some.inj hf
      exact mretI hx hb hr hlocks hK hP hD hS rfl hQ dX10_lamp_142
    · have hf := ifn hc hf
      refine lv_iconst (v := 1) hx hb dX10_lamp_137 (by decide) ?_
      refine lv_goto (tgt := 142) hx hb dX10_lamp_138 (by decide) ?_
      obtain rfl := Option.some.inj hf
      exact mretI hx hb hr hlocks hK hP hD hS rfl hQ dX10_lamp_142
  have hf := ifn hk5 hf
  by_cases hk6 : x2 = 6
  · have hf := ifp hk6 hf
    refine lv_tableIn (off := 137) (tgt := 143) hx hb dX10_lamp_6 (by rw [hk6]; decide) (by rw [hk6]; decide) (by rw [hk6]; rfl) (by decide) ?_
    have hf := wI_l hf
    refine lv_aload_n hx hb dX10_lamp_143 rfl (lv_at hl 0 rfl) ?_
    refine gfB (i0 := 0) (own := RX10) (T := TX10) (k := 1) (v := .ref (a_x 1)) hx hb htX10 hown hK hP rfl e10 rfl (by decide) (hW _ wd429) rfl dX10_lamp_144 ?_
    refine lv_aload_n hx hb dX10_lamp_147 rfl (lv_at hl 0 rfl) ?_
    refine gfB (i0 := 0) (own := RX10) (T := TX10) (k := 2) (v := .ref (a_x 2)) hx hb htX10 hown hK hP rfl e10 rfl (by decide) (hW _ wd430) rfl dX10_lamp_148 ?_
    refine lv_iload_n hx hb dX10_lamp_151 rfl (lv_at hl 1 rfl) ?_
    obtain ⟨q8, eq8, hf⟩ := bnd hf
    refine mcVi (v := q8.1) (rest := []) (Bn := [w10 cs o_x a_x s_x, w9 cs (a_x 2) a_t s_t, w7 cs (a_x 1) a_g q8.2]) (isR := [0]) (isC := [2, 1]) (i0 := 2) ⟨hx, hb, hml, hown, hts⟩ hK hP hD hS hA hG (c7_hoursWanted l D cs (a_x 1) a_g (a_x 2) a_t s_g s_t H.size x1 _ eq8) (cwV 2 hts (gV wd963 wd964 wd965 wd108 wd966) rfl rfl rfl (by decide +kernel) ⟨by rw [hR]; exact Nat.le_of_ble_eq_true rfl, by rw [hR]; exact Nat.le_of_ble_eq_true rfl⟩) 3 (by decide) rfl rfl rfl rfl rfl rfl rfl e7 rfl rfl rfl hl.1 rfl (Nat.le_of_ble_eq_true rfl) ⟨Nat.zero_le _, Nat.zero_le _⟩ dX10_lamp_152 (fun H locs hP hD hS => ?_)
    obtain rfl := Option.some.inj hf
    exact mretI hx hb hr hlocks hK hP hD hS rfl hQ dX10_lamp_155
  have hf := ifn hk6 hf
  refine lv_tableOut (tgt := 156) hx hb dX10_lamp_6 (by have ihk0 : (x2 : Int32).toInt ≠ 0 := fun z => tI_ne hk0 (z.trans (by decide +kernel)); have ihk1 : (x2 : Int32).toInt ≠ 1 := fun z => tI_ne hk1 (z.trans (by decide +kernel)); have ihk2 : (x2 : Int32).toInt ≠ 2 := fun z => tI_ne hk2 (z.trans (by decide +kernel)); have ihk3 : (x2 : Int32).toInt ≠ 3 := fun z => tI_ne hk3 (z.trans (by decide +kernel)); have ihk4 : (x2 : Int32).toInt ≠ 4 := fun z => tI_ne hk4 (z.trans (by decide +kernel)); have ihk5 : (x2 : Int32).toInt ≠ 5 := fun z => tI_ne hk5 (z.trans (by decide +kernel)); have ihk6 : (x2 : Int32).toInt ≠ 6 := fun z => tI_ne hk6 (z.trans (by decide +kernel)); omega) (by decide) ?_
  cases hf
set_option maxHeartbeats 4000000 in
set_option maxRecDepth 100000 in
theorem c10x_lamp (l : Launch) (D : va_G) (cs : xE) (hl0 : l.stackTraces = false) (o_x : Nat) (a_x : Nat → Nat) (a_t : Nat → Nat) (a_g : Nat → Nat) (s_x : St) (s_t : St) (s_g : St) (sz : Nat) (x1 : Int32) (x2 : Int32) (k : Nat) (hf : f10_lamp s_x s_t s_g x1 x2 = some (.inr k)) : vx_Met l yX10_lamp (Cond.code yX10_lamp cX10_lamp 3 (some .int) :: WG) { frames := 7, cells := 1, slots := 6, locals := 111 } (va_Pc [.ref o_x, .int x1, .int x2] (mP D cs (List.flatten [w10 cs o_x a_x s_x, w9 cs (a_x 2) a_t s_t, w7 cs (a_x 1) a_g s_g]) sz)) (fun _ _ _ _ => False) (qX D cs k (List.flatten [w10 cs o_x a_x s_x, w9 cs (a_x 2) a_t s_t, w7 cs (a_x 1) a_g s_g]) (va_A (List.flatten [w10 cs o_x a_x s_x, w9 cs (a_x 2) a_t s_t, w7 cs (a_x 1) a_g s_g]) sz)) 1 6 (va_A (List.flatten [w10 cs o_x a_x s_x, w9 cs (a_x 2) a_t s_t, w7 cs (a_x 1) a_g s_g]) sz) := by
  refine mgoX (cc := cX10_lamp) (maxL := 3) (ret := (some .int)) (by decide) rfl (Nat.le_of_ble_eq_true rfl) ?_
  intro p e s m below meth c ls A R Q args H hR hQ hno hx hb hml hr hlocks hown hts hP hK hD hA hS hG hl
  have hown : s.vm.findClass RX10 = some m.cls := hown
  have hl : lv_has ls 3 [(0, .ref o_x), (1, .int x1), (2, .int x2)] := hl
  have hW : ∀ w ∈ WG, w.before args s = true := fun w h => hts w (List.mem_cons_of_mem _ h)
  have htX10 : ∀ w ∈ u_ws RX10 TX10 14, w.before args s = true := fun w h => hW w (inW_X10 w h)
  have htX9 : ∀ w ∈ u_ws RX9 TX9 11, w.before args s = true := fun w h => hW w (inW_X9 w h)
  unfold f10_lamp at hf
  refine lv_aload_n hx hb dX10_lamp_0 rfl (lv_at hl 0 rfl) ?_
  refine lv_iload_n hx hb dX10_lamp_1 rfl (lv_at hl 1 rfl) ?_
  rcases xB_r hf with xq1 | ⟨q1, eq1, hf⟩
  · exact mxV (rest := []) (isR := [2]) (isC := [0, 1]) (i0 := 0) ⟨hx, hb, hml, hown, hts⟩ hK hP hD hS hA hG (c10x_needLamp l D cs hl0 o_x a_x a_t s_x s_t H.size x1 _ xq1) (cwV 1 hts (gV wd952 wd954 wd26 wd105 wd955) rfl rfl rfl (by decide +kernel) ⟨by rw [hR]; exact Nat.le_of_ble_eq_true rfl, by rw [hR]; exact Nat.le_of_ble_eq_true rfl⟩) 3 (by decide) rfl rfl rfl rfl e10 rfl rfl rfl hl.1 rfl (Nat.le_of_ble_eq_true rfl) ⟨by rw [hR]; exact Nat.le_of_ble_eq_true rfl, by rw [hR]; exact Nat.le_of_ble_eq_true rfl⟩ dX10_lamp_2 hno hlocks hQ
  refine mcVv (rest := []) (Bn := [w10 cs o_x a_x s_x, w9 cs (a_x 2) a_t s_t, w7 cs (a_x 1) a_g s_g]) (isR := [2]) (isC := [0, 1]) (i0 := 0) ⟨hx, hb, hml, hown, hts⟩ hK hP hD hS hA hG (c10_needLamp l D cs o_x a_x a_t s_x s_t H.size x1 _ eq1) (cwV 1 hts (gV wd952 wd954 wd26 wd105 wd955) rfl rfl rfl (by decide +kernel) ⟨by rw [hR]; exact Nat.le_of_ble_eq_true rfl, by rw [hR]; exact Nat.le_of_ble_eq_true rfl⟩) 3 (by decide) rfl rfl rfl rfl rfl rfl rfl e10 rfl rfl rfl hl.1 rfl (Nat.le_of_ble_eq_true rfl) ⟨Nat.zero_le _, Nat.zero_le _⟩ dX10_lamp_2 (fun H locs hP hD hS => ?_)
  refine lv_iload_n hx hb dX10_lamp_5 rfl (lv_at hl 2 rfl) ?_
  by_cases hk0 : x2 = 0
  · have hf := ifp hk0 hf
    refine lv_tableIn (off := 42) (tgt := 48) hx hb dX10_lamp_6 (by rw [hk0]; decide) (by rw [hk0]; decide) (by rw [hk0]; rfl) (by decide) ?_
    exact (wI_r hf).elim
  have hf := ifn hk0 hf
  by_cases hk1 : x2 = 1
  · have hf := ifp hk1 hf
    refine lv_tableIn (off := 52) (tgt := 58) hx hb dX10_lamp_6 (by rw [hk1]; decide) (by rw [hk1]; decide) (by rw [hk1]; rfl) (by decide) ?_
    exact (wI_r hf).elim
  have hf := ifn hk1 hf
  by_cases hk2 : x2 = 2
  · have hf := ifp hk2 hf
    refine lv_tableIn (off := 62) (tgt := 68) hx hb dX10_lamp_6 (by rw [hk2]; decide) (by rw [hk2]; decide) (by rw [hk2]; rfl) (by decide) ?_
    exact (wI_r hf).elim
  have hf := ifn hk2 hf
  by_cases hk3 : x2 = 3
  · have hf := ifp hk3 hf
    refine lv_tableIn (off := 72) (tgt := 78) hx hb dX10_lamp_6 (by rw [hk3]; decide) (by rw [hk3]; decide) (by rw [hk3]; rfl) (by decide) ?_
    exact (wI_r hf).elim
  have hf := ifn hk3 hf
  by_cases hk4 : x2 = 4
  · have hf := ifp hk4 hf
    refine lv_tableIn (off := 89) (tgt := 95) hx hb dX10_lamp_6 (by rw [hk4]; decide) (by rw [hk4]; decide) (by rw [hk4]; rfl) (by decide) ?_
    exact (wI_r hf).elim
  have hf := ifn hk4 hf
  by_cases hk5 : x2 = 5
  · have hf := ifp hk5 hf
    refine lv_tableIn (off := 106) (tgt := 112) hx hb dX10_lamp_6 (by rw [hk5]; decide) (by rw [hk5]; decide) (by rw [hk5]; rfl) (by decide) ?_
    exact (wI_r hf).elim
  have hf := ifn hk5 hf
  by_cases hk6 : x2 = 6
  · have hf := ifp hk6 hf
    refine lv_tableIn (off := 137) (tgt := 143) hx hb dX10_lamp_6 (by rw [hk6]; decide) (by rw [hk6]; decide) (by rw [hk6]; rfl) (by decide) ?_
    exact (wI_r hf).elim
  have hf := ifn hk6 hf
  refine lv_tableOut (tgt := 156) hx hb dX10_lamp_6 (by have ihk0 : (x2 : Int32).toInt ≠ 0 := fun z => tI_ne hk0 (z.trans (by decide +kernel)); have ihk1 : (x2 : Int32).toInt ≠ 1 := fun z => tI_ne hk1 (z.trans (by decide +kernel)); have ihk2 : (x2 : Int32).toInt ≠ 2 := fun z => tI_ne hk2 (z.trans (by decide +kernel)); have ihk3 : (x2 : Int32).toInt ≠ 3 := fun z => tI_ne hk3 (z.trans (by decide +kernel)); have ihk4 : (x2 : Int32).toInt ≠ 4 := fun z => tI_ne hk4 (z.trans (by decide +kernel)); have ihk5 : (x2 : Int32).toInt ≠ 5 := fun z => tI_ne hk5 (z.trans (by decide +kernel)); have ihk6 : (x2 : Int32).toInt ≠ 6 := fun z => tI_ne hk6 (z.trans (by decide +kernel)); omega) (by decide) ?_
  obtain rfl := Sum.inr.inj (Option.some.inj hf)
  exact thN (text := "a lamp has no such thing") hx hb hl0 (hl.1.trans hml.symm) hlocks hno hown hW hG hK hP hD hS (hG.1 ("TwinLamps", 227, "a lamp has no such thing", 19) (by decide +kernel)) dX10_lamp_156 dX10_lamp_159 dX10_lamp_160 dX10_lamp_162 dX10_lamp_165 (by rw [hR]; exact Nat.le_of_ble_eq_true rfl) (by rw [hR]; exact Nat.le_of_ble_eq_true rfl) (by rw [hR]; exact Nat.le_of_ble_eq_true rfl) (by rw [hR]; exact Nat.le_of_ble_eq_true rfl) hQ
/-! TwinLamps.refuse -/
noncomputable def f10_refuse (s_x : St) (x1 : Int32) : Option (Int32 × St) :=
  (ldO 3 (s_x.2 5) x1).bind fun q1 =>
  (stS 3 s_x 5 x1 (q1 + 1)).bind fun s2 =>
  some ((-1), s2)
set_option maxHeartbeats 4000000 in
set_option maxRecDepth 100000 in
theorem c10_refuse (l : Launch) (D : va_G) (cs : xE) (o_x : Nat) (a_x : Nat → Nat) (s_x : St) (sz : Nat) (x1 : Int32) (res : Int32 × St) (hf : f10_refuse s_x x1 = some res) : Met l yX10_refuse (Cond.code yX10_refuse cX10_refuse 2 (some .int) :: WG) { frames := 0, cells := 0, slots := 0, locals := 0 } (va_Pc [.ref o_x, .int x1] (mP D cs (List.flatten [w10 cs o_x a_x s_x]) sz)) (qI D cs res.1 (List.flatten [w10 cs o_x a_x res.2]) (va_A (List.flatten [w10 cs o_x a_x s_x]) sz)) 0 0 (va_A (List.flatten [w10 cs o_x a_x s_x]) sz) := by
  refine mgo (Qc := qI D cs res.1 (List.flatten [w10 cs o_x a_x res.2])) (cc := cX10_refuse) (maxL := 2) (ret := (some .int)) (by decide) rfl (Nat.le_of_ble_eq_true rfl) ?_
  intro p e s m below meth c ls A R Q args H hR hQ hx hb hml hr hlocks hown hts hP hK hD hA hS hG hl
  have hown : s.vm.findClass RX10 = some m.cls := hown
  have hl : lv_has ls 2 [(0, .ref o_x), (1, .int x1)] := hl
  have hW : ∀ w ∈ WG, w.before args s = true := fun w h => hts w (List.mem_cons_of_mem _ h)
  have htX10 : ∀ w ∈ u_ws RX10 TX10 14, w.before args s = true := fun w h => hW w (inW_X10 w h)
  unfold f10_refuse at hf
  refine lv_aload_n hx hb dX10_refuse_0 rfl (lv_at hl 0 rfl) ?_
  refine gfB (i0 := 0) (own := RX10) (T := TX10) (k := 5) (v := .ref (a_x 5)) hx hb htX10 hown hK hP rfl e10 rfl (by decide) (hW _ wd433) rfl dX10_refuse_1 ?_
  refine lv_iload_n hx hb dX10_refuse_4 rfl (lv_at hl 1 rfl) ?_
  refine lv_dup2_11 hx hb dX10_refuse_5 rfl rfl ?_
  obtain ⟨q1, eq1, hf⟩ := bnd hf
  obtain ⟨gq1, eq1⟩ := ldO_e eq1
  refine aldB (i0 := 0) hx hb hK hP rfl a10_5 gq1 dX10_refuse_6 ?_
  refine lv_nm eq1 ?_
  refine lv_iconst (v := 1) hx hb dX10_refuse_7 (by decide) ?_
  refine lv_iadd hx hb dX10_refuse_8 ?_
  obtain ⟨s2, es2, hf⟩ := bnd hf
  obtain ⟨gs2, es2⟩ := stS_e es2
  refine astB (i0 := 0) (Bn := [w10 cs o_x a_x s2]) hx hb hK hP hD hS rfl a10_5 gs2 rfl dX10_refuse_9 (by rw [← es2]; exact v10_5) rfl (fun H locs hP hD hS => ?_)
  refine lv_iconst (v := (-1)) hx hb dX10_refuse_10 (by decide) ?_
  obtain rfl := Option.some.inj hf
  exact mretI hx hb hr hlocks hK hP hD hS rfl hQ dX10_refuse_11
/-! TwinLamps.hours -/
noncomputable def f10_hours_L4 (x1 : Int32) (v5 : Int32 × St × St × St) : Option ((Int32 × St × St × St) ⊕ (St × St × St)) :=
  if x1 ≤ v5.1 then some (.inr (v5.2.1, v5.2.2.1, v5.2.2.2)) else (f2_passHour v5.2.2.1 v5.2.2.2 v5.2.1).bind fun q6 =>
  some (.inl ((v5.1 + 1), q6.2.2, q6.1, q6.2.1))
noncomputable def f10_hours (s_x : St) (s_t : St) (s_h : HSt) (s_e : St) (s_g : St) (x1 : Int32) : Option (Int32 × St × St × HSt × St × St) :=
  if x1 < 1 then ((f10_refuse s_x (1 : Int32)).bind fun q1 =>
  some (q1.1, q1.2, s_t, s_h, s_e, s_g))
  else if (48 : Int32) < x1 then ((f10_refuse s_x (1 : Int32)).bind fun q2 =>
  some (q2.1, q2.2, s_t, s_h, s_e, s_g))
  else if ((s_t.1 2) + x1) ≤ 9999 then ((f3_keep s_h s_t).bind fun q3 =>
  (lpw (f10_hours_L4 x1) (0, s_t, s_e, s_g)).bind fun q4 =>
  some ((q4.1.1 2), s_x, q4.1, q3, q4.2.1, q4.2.2))
  else (f10_refuse s_x (1 : Int32)).bind fun q7 =>
  some (q7.1, q7.2, s_t, s_h, s_e, s_g)
set_option maxHeartbeats 4000000 in
set_option maxRecDepth 100000 in
theorem c10_hours (l : Launch) (D : va_G) (cs : xE) (o_x : Nat) (a_x : Nat → Nat) (a_t : Nat → Nat) (a_h : Nat → Nat) (a_g : Nat → Nat) (s_x : St) (s_t : St) (s_h : HSt) (s_e : St) (s_g : St) (sz : Nat) (x1 : Int32) (res : Int32 × St × St × HSt × St × St) (hf : f10_hours s_x s_t s_h s_e s_g x1 = some res) : Met l yX10_hours (Cond.code yX10_hours cX10_hours 3 (some .int) :: WG) { frames := 4, cells := 0, slots := 0, locals := 92 } (va_Pc [.ref o_x, .int x1] (mP D cs (List.flatten [w10 cs o_x a_x s_x, w9 cs (a_x 2) a_t s_t, w3 cs (a_x 3) a_h s_h, w2 cs (a_x 8) a0n s_e, w7 cs (a_x 1) a_g s_g]) sz)) (qI D cs res.1 (List.flatten [w10 cs o_x a_x res.2.1, w9 cs (a_x 2) a_t res.2.2.1, w3 cs (a_x 3) a_h res.2.2.2.1, w2 cs (a_x 8) a0n res.2.2.2.2.1, w7 cs (a_x 1) a_g res.2.2.2.2.2]) (va_A (List.flatten [w10 cs o_x a_x s_x, w9 cs (a_x 2) a_t s_t, w3 cs (a_x 3) a_h s_h, w2 cs (a_x 8) a0n s_e, w7 cs (a_x 1) a_g s_g]) sz)) 0 0 (va_A (List.flatten [w10 cs o_x a_x s_x, w9 cs (a_x 2) a_t s_t, w3 cs (a_x 3) a_h s_h, w2 cs (a_x 8) a0n s_e, w7 cs (a_x 1) a_g s_g]) sz) := by
  refine mgo (Qc := qI D cs res.1 (List.flatten [w10 cs o_x a_x res.2.1, w9 cs (a_x 2) a_t res.2.2.1, w3 cs (a_x 3) a_h res.2.2.2.1, w2 cs (a_x 8) a0n res.2.2.2.2.1, w7 cs (a_x 1) a_g res.2.2.2.2.2])) (cc := cX10_hours) (maxL := 3) (ret := (some .int)) (by decide) rfl (Nat.le_of_ble_eq_true rfl) ?_
  intro p e s m below meth c ls A R Q args H hR hQ hx hb hml hr hlocks hown hts hP hK hD hA hS hG hl
  have hown : s.vm.findClass RX10 = some m.cls := hown
  have hl : lv_has ls 3 [(0, .ref o_x), (1, .int x1)] := hl
  have hW : ∀ w ∈ WG, w.before args s = true := fun w h => hts w (List.mem_cons_of_mem _ h)
  have htX10 : ∀ w ∈ u_ws RX10 TX10 14, w.before args s = true := fun w h => hW w (inW_X10 w h)
  have htX9 : ∀ w ∈ u_ws RX9 TX9 11, w.before args s = true := fun w h => hW w (inW_X9 w h)
  unfold f10_hours at hf
  refine lv_iload_n hx hb dX10_hours_0 rfl (lv_at hl 1 rfl) ?_
  refine lv_iconst (v := 1) hx hb dX10_hours_1 (by decide) ?_
  refine lv_icmp_lt (tgt := 26) hx hb dX10_hours_2 (by decide) (fun hc => ?_) (fun hc => ?_)
  · have hf := ifp hc hf
    refine lv_aload_n hx hb dX10_hours_26 rfl (lv_at hl 0 rfl) ?_
    refine lv_iconst (v := 1) hx hb dX10_hours_27 (by decide) ?_
    obtain ⟨q1, eq1, hf⟩ := bnd hf
    refine mcVi (v := q1.1) (rest := []) (Bn := [w10 cs o_x a_x q1.2, w9 cs (a_x 2) a_t s_t, w3 cs (a_x 3) a_h s_h, w2 cs (a_x 8) a0n s_e, w7 cs (a_x 1) a_g s_g]) (isR := [1, 2, 3, 4]) (isC := [0]) (i0 := 0) ⟨hx, hb, hml, hown, hts⟩ hK hP hD hS hA hG (c10_refuse l D cs o_x a_x s_x H.size (1 : Int32) _ eq1) (cwV 1 hts (gV wd487 wd489 wd0 wd105 wd490) rfl rfl rfl (by decide +kernel) ⟨by rw [hR]; exact Nat.le_of_ble_eq_true rfl, by rw [hR]; exact Nat.le_of_ble_eq_true rfl⟩) 5 (by decide) rfl rfl rfl rfl rfl rfl rfl e10 rfl rfl rfl hl.1 rfl (Nat.le_of_ble_eq_true rfl) ⟨Nat.zero_le _, Nat.zero_le _⟩ dX10_hours_28 (fun H locs hP hD hS => ?_)
    obtain rfl := Option.some.inj hf
    exact mretI hx hb hr hlocks hK hP hD hS rfl hQ dX10_hours_31
  · have hf := ifn hc hf
    refine lv_iload_n hx hb dX10_hours_5 rfl (lv_at hl 1 rfl) ?_
    refine lv_bipush (v := 48) hx hb dX10_hours_6 (by decide) ?_
    refine lv_icmp_gt (tgt := 26) hx hb dX10_hours_8 (by decide) (fun hc => ?_) (fun hc => ?_)
    · have hf := ifp hc hf
      refine lv_aload_n hx hb dX10_hours_26 rfl (lv_at hl 0 rfl) ?_
      refine lv_iconst (v := 1) hx hb dX10_hours_27 (by decide) ?_
      obtain ⟨q2, eq2, hf⟩ := bnd hf
      refine mcVi (v := q2.1) (rest := []) (Bn := [w10 cs o_x a_x q2.2, w9 cs (a_x 2) a_t s_t, w3 cs (a_x 3) a_h s_h, w2 cs (a_x 8) a0n s_e, w7 cs (a_x 1) a_g s_g]) (isR := [1, 2, 3, 4]) (isC := [0]) (i0 := 0) ⟨hx, hb, hml, hown, hts⟩ hK hP hD hS hA hG (c10_refuse l D cs o_x a_x s_x H.size (1 : Int32) _ eq2) (cwV 1 hts (gV wd487 wd489 wd0 wd105 wd490) rfl rfl rfl (by decide +kernel) ⟨by rw [hR]; exact Nat.le_of_ble_eq_true rfl, by rw [hR]; exact Nat.le_of_ble_eq_true rfl⟩) 5 (by decide) rfl rfl rfl rfl rfl rfl rfl e10 rfl rfl rfl hl.1 rfl (Nat.le_of_ble_eq_true rfl) ⟨Nat.zero_le _, Nat.zero_le _⟩ dX10_hours_28 (fun H locs hP hD hS => ?_)
      obtain rfl := Option.some.inj hf
      exact mretI hx hb hr hlocks hK hP hD hS rfl hQ dX10_hours_31
    · have hf := ifn hc hf
      refine lv_aload_n hx hb dX10_hours_11 rfl (lv_at hl 0 rfl) ?_
      refine gfB (i0 := 0) (own := RX10) (T := TX10) (k := 2) (v := .ref (a_x 2)) hx hb htX10 hown hK hP rfl e10 rfl (by decide) (hW _ wd430) rfl dX10_hours_12 ?_
      refine gfB (i0 := 1) (own := RX10) (T := TX9) (k := 2) (v := .int (s_t.1 2)) hx hb htX9 hown hK hP rfl e9 rfl (by decide) (hW _ wd159) rfl dX10_hours_15 ?_
      refine lv_iload_n hx hb dX10_hours_18 rfl (lv_at hl 1 rfl) ?_
      refine lv_iadd hx hb dX10_hours_19 ?_
      refine lv_sipush (v := 9999) hx hb dX10_hours_20 (by decide) ?_
      refine lv_icmp_le (tgt := 32) hx hb dX10_hours_23 (by decide) (fun hc => ?_) (fun hc => ?_)
      · have hf := ifp hc hf
        refine lv_aload_n hx hb dX10_hours_32 rfl (lv_at hl 0 rfl) ?_
        refine gfB (i0 := 0) (own := RX10) (T := TX10) (k := 3) (v := .ref (a_x 3)) hx hb htX10 hown hK hP rfl e10 rfl (by decide) (hW _ wd431) rfl dX10_hours_33 ?_
        refine lv_aload_n hx hb dX10_hours_36 rfl (lv_at hl 0 rfl) ?_
        refine gfB (i0 := 0) (own := RX10) (T := TX10) (k := 2) (v := .ref (a_x 2)) hx hb htX10 hown hK hP rfl e10 rfl (by decide) (hW _ wd430) rfl dX10_hours_37 ?_
        obtain ⟨q3, eq3, hf⟩ := bnd hf
        refine mcVv (rest := []) (Bn := [w10 cs o_x a_x s_x, w9 cs (a_x 2) a_t s_t, w3 cs (a_x 3) a_h q3, w2 cs (a_x 8) a0n s_e, w7 cs (a_x 1) a_g s_g]) (isR := [0, 3, 4]) (isC := [2, 1]) (i0 := 2) ⟨hx, hb, hml, hown, hts⟩ hK hP hD hS hA hG (c3_keep l D cs (a_x 3) a_h (a_x 2) a_t s_h s_t H.size _ eq3) (cwV 1 hts (gV wd491 wd492 wd493 wd109 wd494) rfl rfl rfl (by decide +kernel) ⟨by rw [hR]; exact Nat.le_of_ble_eq_true rfl, by rw [hR]; exact Nat.le_of_ble_eq_true rfl⟩) 5 (by decide) rfl rfl rfl rfl rfl rfl rfl e3 rfl rfl rfl hl.1 rfl (Nat.le_of_ble_eq_true rfl) ⟨Nat.zero_le _, Nat.zero_le _⟩ dX10_hours_40 (fun H locs hP hD hS => ?_)
        refine lv_iconst (v := 0) hx hb dX10_hours_43 (by decide) ?_
        refine lv_istore_n (lv' := [(2, .int 0), (0, .ref o_x), (1, .int x1)]) hx hb dX10_hours_44 rfl hl (by decide) rfl (fun ls hl => ?_)
        obtain ⟨q4, hq4, hf⟩ := bnd hf
        obtain ⟨n4, hq4⟩ := lpw_ex hq4
        have Jq4_0 : ∀ rr4_0 : St × St × St, q4 = rr4_0 → ∀ (H : Heap) (locs : List Loc) (ls : Array Slot), va_P D vwCl (List.flatten [w10 cs o_x a_x s_x, w9 cs (a_x 2) a_t rr4_0.1, w3 cs (a_x 3) a_h q3, w2 cs (a_x 8) a0n rr4_0.2.1, w7 cs (a_x 1) a_g rr4_0.2.2]) H → va_D A (List.flatten [w10 cs o_x a_x s_x, w9 cs (a_x 2) a_t rr4_0.1, w3 cs (a_x 3) a_h q3, w2 cs (a_x 8) a0n rr4_0.2.1, w7 cs (a_x 1) a_g rr4_0.2.2]) → va_S A s.heap H locs → lv_has ls 3 [(0, .ref o_x)] → W p l e R s m args below meth c H locs 0 0 Q (F0 m 71 ls []) := by
          intro rr4_0 eq4 H locs ls hP hD hS hl
          subst eq4
          refine lv_aload_n hx hb dX10_hours_71 rfl (lv_at hl 0 rfl) ?_
          refine gfB (i0 := 0) (own := RX10) (T := TX10) (k := 2) (v := .ref (a_x 2)) hx hb htX10 hown hK hP rfl e10 rfl (by decide) (hW _ wd430) rfl dX10_hours_72 ?_
          refine gfB (i0 := 1) (own := RX10) (T := TX9) (k := 2) (v := .int (q4.1.1 2)) hx hb htX9 hown hK hP rfl e9 rfl (by decide) (hW _ wd159) rfl dX10_hours_75 ?_
          obtain rfl := Option.some.inj hf
          exact mretI hx hb hr hlocks hK hP hD hS rfl hQ dX10_hours_78
        clear hf
        have L4 : ∀ n4, ∀ v5 : Int32 × St × St × St, lp n4 (f10_hours_L4 x1) v5 = some q4 → ∀ (H : Heap) (locs : List Loc) (ls : Array Slot), va_P D vwCl (List.flatten [w10 cs o_x a_x s_x, w9 cs (a_x 2) a_t v5.2.1, w3 cs (a_x 3) a_h q3, w2 cs (a_x 8) a0n v5.2.2.1, w7 cs (a_x 1) a_g v5.2.2.2]) H → va_D A (List.flatten [w10 cs o_x a_x s_x, w9 cs (a_x 2) a_t v5.2.1, w3 cs (a_x 3) a_h q3, w2 cs (a_x 8) a0n v5.2.2.1, w7 cs (a_x 1) a_g v5.2.2.2]) → va_S A s.heap H locs → lv_has ls 3 [(0, .ref o_x), (1, .int x1), (2, .int v5.1)] → W p l e R s m args below meth c H locs 0 0 Q (F0 m 45 ls []) := by
          intro n4
          induction n4 with
          | zero => intro v5 hn; cases hn
          | succ n4 ih4 =>
            intro v5 hn4 H locs ls hP hD hS hl
            obtain ⟨y4, hf, hn4⟩ := lp_succ hn4
            unfold f10_hours_L4 at hf
            refine lv_iload_n hx hb dX10_hours_45 rfl (lv_at hl 2 rfl) ?_
            refine lv_iload_n hx hb dX10_hours_46 rfl (lv_at hl 1 rfl) ?_
            refine lv_icmp_ge (tgt := 71) hx hb dX10_hours_47 (by decide) (fun hc => ?_) (fun hc => ?_)
            · have hf := ifp hc hf
              cases hf
              exact Jq4_0 _ (Option.some.inj hn4).symm _ _ _ hP hD hS (lv_sub hl [0] rfl)
            · have hf := ifn hc hf
              refine lv_aload_n hx hb dX10_hours_50 rfl (lv_at hl 0 rfl) ?_
              refine gfB (i0 := 0) (own := RX10) (T := TX10) (k := 8) (v := .ref (a_x 8)) hx hb htX10 hown hK hP rfl e10 rfl (by decide) (hW _ wd436) rfl dX10_hours_51 ?_
              refine lv_aload_n hx hb dX10_hours_54 rfl (lv_at hl 0 rfl) ?_
              refine gfB (i0 := 0) (own := RX10) (T := TX10) (k := 1) (v := .ref (a_x 1)) hx hb htX10 hown hK hP rfl e10 rfl (by decide) (hW _ wd429) rfl dX10_hours_55 ?_
              refine lv_aload_n hx hb dX10_hours_58 rfl (lv_at hl 0 rfl) ?_
              refine gfB (i0 := 0) (own := RX10) (T := TX10) (k := 2) (v := .ref (a_x 2)) hx hb htX10 hown hK hP rfl e10 rfl (by decide) (hW _ wd430) rfl dX10_hours_59 ?_
              obtain ⟨q6, eq6, hf⟩ := bnd hf
              refine mcVv (rest := []) (Bn := [w10 cs o_x a_x s_x, w9 cs (a_x 2) a_t q6.2.2, w3 cs (a_x 3) a_h q3, w2 cs (a_x 8) a0n q6.1, w7 cs (a_x 1) a_g q6.2.1]) (isR := [0, 2]) (isC := [3, 4, 1]) (i0 := 3) ⟨hx, hb, hml, hown, hts⟩ hK hP hD hS hA hG (c2_passHour l D cs (a_x 8) (a_x 1) a_g (a_x 2) a_t v5.2.2.1 v5.2.2.2 v5.2.1 H.size _ eq6) (cwV 2 hts (gV wd506 wd507 wd508 wd112 wd509) rfl rfl rfl (by decide +kernel) ⟨by rw [hR]; exact Nat.le_of_ble_eq_true rfl, by rw [hR]; exact Nat.le_of_ble_eq_true rfl⟩) 5 (by decide) rfl rfl rfl rfl rfl rfl rfl e2 rfl rfl rfl hl.1 rfl (Nat.le_of_ble_eq_true rfl) ⟨Nat.zero_le _, Nat.zero_le _⟩ dX10_hours_62 (fun H locs hP hD hS => ?_)
              refine lv_iinc (v := (v5.1 + 1)) (lv' := [(2, .int (v5.1 + 1)), (0, .ref o_x), (1, .int x1)]) hx hb dX10_hours_65 hl (k := 2) rfl rfl (by decide) rfl (fun ls hl => ?_)
              refine lv_goto (tgt := 45) hx hb dX10_hours_68 (by decide) ?_
              cases hf
              exact ih4 _ hn4 _ _ _ hP hD hS (lv_sub hl [1, 2, 0] rfl)
        exact L4 _ _ hq4 _ _ _ hP hD hS (lv_sub hl [1, 2, 0] rfl)
      · have hf := ifn hc hf
        refine lv_aload_n hx hb dX10_hours_26 rfl (lv_at hl 0 rfl) ?_
        refine lv_iconst (v := 1) hx hb dX10_hours_27 (by decide) ?_
        obtain ⟨q7, eq7, hf⟩ := bnd hf
        refine mcVi (v := q7.1) (rest := []) (Bn := [w10 cs o_x a_x q7.2, w9 cs (a_x 2) a_t s_t, w3 cs (a_x 3) a_h s_h, w2 cs (a_x 8) a0n s_e, w7 cs (a_x 1) a_g s_g]) (isR := [1, 2, 3, 4]) (isC := [0]) (i0 := 0) ⟨hx, hb, hml, hown, hts⟩ hK hP hD hS hA hG (c10_refuse l D cs o_x a_x s_x H.size (1 : Int32) _ eq7) (cwV 1 hts (gV wd487 wd489 wd0 wd105 wd490) rfl rfl rfl (by decide +kernel) ⟨by rw [hR]; exact Nat.le_of_ble_eq_true rfl, by rw [hR]; exact Nat.le_of_ble_eq_true rfl⟩) 5 (by decide) rfl rfl rfl rfl rfl rfl rfl e10 rfl rfl rfl hl.1 rfl (Nat.le_of_ble_eq_true rfl) ⟨Nat.zero_le _, Nat.zero_le _⟩ dX10_hours_28 (fun H locs hP hD hS => ?_)
        obtain rfl := Option.some.inj hf
        exact mretI hx hb hr hlocks hK hP hD hS rfl hQ dX10_hours_31
/-! TwinLamps.flick -/
noncomputable def f10_flick (s_x : St) (s_t : St) (s_h : HSt) (x1 : Int32) : Option ((Int32 × St × St × HSt) ⊕ Nat) :=
  xB (f10_needLamp s_x s_t x1) fun q1 =>
  wI ((f9_isLit s_t x1).bind fun q2 =>
  if (zB q2) = 0 then ((f9_canBeLit s_t x1).bind fun q6 =>
  if (zB q6) = 0 then ((f10_refuse s_x (1 : Int32)).bind fun q10 =>
  some (q10.1, q10.2, s_t, s_h))
  else (f3_keep s_h s_t).bind fun q7 =>
  (f9_flickByHand s_t x1).bind fun q8 =>
  (f9_isLit q8 x1).bind fun q9 =>
  if (zB q9) = 0 then some (0, s_x, q8, q7) else some (1, s_x, q8, q7))
  else (f3_keep s_h s_t).bind fun q3 =>
  (f9_flickByHand s_t x1).bind fun q4 =>
  (f9_isLit q4 x1).bind fun q5 =>
  if (zB q5) = 0 then some (0, s_x, q4, q3) else some (1, s_x, q4, q3))
set_option maxHeartbeats 4000000 in
set_option maxRecDepth 100000 in
theorem c10_flick (l : Launch) (D : va_G) (cs : xE) (o_x : Nat) (a_x : Nat → Nat) (a_t : Nat → Nat) (a_h : Nat → Nat) (s_x : St) (s_t : St) (s_h : HSt) (sz : Nat) (x1 : Int32) (res : Int32 × St × St × HSt) (hf : f10_flick s_x s_t s_h x1 = some (.inl res)) : Met l yX10_flick (Cond.code yX10_flick cX10_flick 2 (some .int) :: WG) { frames := 7, cells := 0, slots := 0, locals := 111 } (va_Pc [.ref o_x, .int x1] (mP D cs (List.flatten [w10 cs o_x a_x s_x, w9 cs (a_x 2) a_t s_t, w3 cs (a_x 3) a_h s_h]) sz)) (qI D cs res.1 (List.flatten [w10 cs o_x a_x res.2.1, w9 cs (a_x 2) a_t res.2.2.1, w3 cs (a_x 3) a_h res.2.2.2]) (va_A (List.flatten [w10 cs o_x a_x s_x, w9 cs (a_x 2) a_t s_t, w3 cs (a_x 3) a_h s_h]) sz)) 0 0 (va_A (List.flatten [w10 cs o_x a_x s_x, w9 cs (a_x 2) a_t s_t, w3 cs (a_x 3) a_h s_h]) sz) := by
  refine mgo (Qc := qI D cs res.1 (List.flatten [w10 cs o_x a_x res.2.1, w9 cs (a_x 2) a_t res.2.2.1, w3 cs (a_x 3) a_h res.2.2.2])) (cc := cX10_flick) (maxL := 2) (ret := (some .int)) (by decide) rfl (Nat.le_of_ble_eq_true rfl) ?_
  intro p e s m below meth c ls A R Q args H hR hQ hx hb hml hr hlocks hown hts hP hK hD hA hS hG hl
  have hown : s.vm.findClass RX10 = some m.cls := hown
  have hl : lv_has ls 2 [(0, .ref o_x), (1, .int x1)] := hl
  have hW : ∀ w ∈ WG, w.before args s = true := fun w h => hts w (List.mem_cons_of_mem _ h)
  have htX10 : ∀ w ∈ u_ws RX10 TX10 14, w.before args s = true := fun w h => hW w (inW_X10 w h)
  unfold f10_flick at hf
  refine lv_aload_n hx hb dX10_flick_0 rfl (lv_at hl 0 rfl) ?_
  refine lv_iload_n hx hb dX10_flick_1 rfl (lv_at hl 1 rfl) ?_
  obtain ⟨q1, eq1, hf⟩ := xB_l hf
  refine mcVv (rest := []) (Bn := [w10 cs o_x a_x s_x, w9 cs (a_x 2) a_t s_t, w3 cs (a_x 3) a_h s_h]) (isR := [2]) (isC := [0, 1]) (i0 := 0) ⟨hx, hb, hml, hown, hts⟩ hK hP hD hS hA hG (c10_needLamp l D cs o_x a_x a_t s_x s_t H.size x1 _ eq1) (cwV 1 hts (gV wd952 wd954 wd26 wd105 wd955) rfl rfl rfl (by decide +kernel) ⟨by rw [hR]; exact Nat.le_of_ble_eq_true rfl, by rw [hR]; exact Nat.le_of_ble_eq_true rfl⟩) 3 (by decide) rfl rfl rfl rfl rfl rfl rfl e10 rfl rfl rfl hl.1 rfl (Nat.le_of_ble_eq_true rfl) ⟨Nat.zero_le _, Nat.zero_le _⟩ dX10_flick_2 (fun H locs hP hD hS => ?_)
  have hf := wI_l hf
  refine lv_aload_n hx hb dX10_flick_5 rfl (lv_at hl 0 rfl) ?_
  refine gfB (i0 := 0) (own := RX10) (T := TX10) (k := 2) (v := .ref (a_x 2)) hx hb htX10 hown hK hP rfl e10 rfl (by decide) (hW _ wd430) rfl dX10_flick_6 ?_
  refine lv_iload_n hx hb dX10_flick_9 rfl (lv_at hl 1 rfl) ?_
  obtain ⟨q2, eq2, hf⟩ := bnd hf
  refine mcVi (v := (zB q2)) (rest := []) (Bn := [w10 cs o_x a_x s_x, w9 cs (a_x 2) a_t s_t, w3 cs (a_x 3) a_h s_h]) (isR := [0, 2]) (isC := [1]) (i0 := 1) ⟨hx, hb, hml, hown, hts⟩ hK hP hD hS hA hG (c9_isLit l D cs (a_x 2) a_t s_t H.size x1 _ eq2) (cwV 1 hts (gV wd957 wd556 wd557 wd107 wd558) rfl rfl rfl (by decide +kernel) ⟨by rw [hR]; exact Nat.le_of_ble_eq_true rfl, by rw [hR]; exact Nat.le_of_ble_eq_true rfl⟩) 3 (by decide) rfl rfl rfl rfl rfl rfl rfl e9 rfl rfl rfl hl.1 rfl (Nat.le_of_ble_eq_true rfl) ⟨Nat.zero_le _, Nat.zero_le _⟩ dX10_flick_10 (fun H locs hP hD hS => ?_)
  refine lv_if_ne (tgt := 33) hx hb dX10_flick_13 (by decide) (fun hc => ?_) (fun hc => ?_)
  · have hf := ifn hc hf
    refine lv_aload_n hx hb dX10_flick_33 rfl (lv_at hl 0 rfl) ?_
    refine gfB (i0 := 0) (own := RX10) (T := TX10) (k := 3) (v := .ref (a_x 3)) hx hb htX10 hown hK hP rfl e10 rfl (by decide) (hW _ wd431) rfl dX10_flick_34 ?_
    refine lv_aload_n hx hb dX10_flick_37 rfl (lv_at hl 0 rfl) ?_
    refine gfB (i0 := 0) (own := RX10) (T := TX10) (k := 2) (v := .ref (a_x 2)) hx hb htX10 hown hK hP rfl e10 rfl (by decide) (hW _ wd430) rfl dX10_flick_38 ?_
    obtain ⟨q3, eq3, hf⟩ := bnd hf
    refine mcVv (rest := []) (Bn := [w10 cs o_x a_x s_x, w9 cs (a_x 2) a_t s_t, w3 cs (a_x 3) a_h q3]) (isR := [0]) (isC := [2, 1]) (i0 := 2) ⟨hx, hb, hml, hown, hts⟩ hK hP hD hS hA hG (c3_keep l D cs (a_x 3) a_h (a_x 2) a_t s_h s_t H.size _ eq3) (cwV 1 hts (gV wd491 wd492 wd493 wd109 wd494) rfl rfl rfl (by decide +kernel) ⟨by rw [hR]; exact Nat.le_of_ble_eq_true rfl, by rw [hR]; exact Nat.le_of_ble_eq_true rfl⟩) 3 (by decide) rfl rfl rfl rfl rfl rfl rfl e3 rfl rfl rfl hl.1 rfl (Nat.le_of_ble_eq_true rfl) ⟨Nat.zero_le _, Nat.zero_le _⟩ dX10_flick_41 (fun H locs hP hD hS => ?_)
    refine lv_aload_n hx hb dX10_flick_44 rfl (lv_at hl 0 rfl) ?_
    refine gfB (i0 := 0) (own := RX10) (T := TX10) (k := 2) (v := .ref (a_x 2)) hx hb htX10 hown hK hP rfl e10 rfl (by decide) (hW _ wd430) rfl dX10_flick_45 ?_
    refine lv_iload_n hx hb dX10_flick_48 rfl (lv_at hl 1 rfl) ?_
    obtain ⟨q4, eq4, hf⟩ := bnd hf
    refine mcVv (rest := []) (Bn := [w10 cs o_x a_x s_x, w9 cs (a_x 2) a_t q4, w3 cs (a_x 3) a_h q3]) (isR := [0, 2]) (isC := [1]) (i0 := 1) ⟨hx, hb, hml, hown, hts⟩ hK hP hD hS hA hG (c9_flickByHand l D cs (a_x 2) a_t s_t H.size x1 _ eq4) (cwV 1 hts (gV wd977 wd978 wd979 wd107 wd980) rfl rfl rfl (by decide +kernel) ⟨by rw [hR]; exact Nat.le_of_ble_eq_true rfl, by rw [hR]; exact Nat.le_of_ble_eq_true rfl⟩) 3 (by decide) rfl rfl rfl rfl rfl rfl rfl e9 rfl rfl rfl hl.1 rfl (Nat.le_of_ble_eq_true rfl) ⟨Nat.zero_le _, Nat.zero_le _⟩ dX10_flick_49 (fun H locs hP hD hS => ?_)
    refine lv_aload_n hx hb dX10_flick_52 rfl (lv_at hl 0 rfl) ?_
    refine gfB (i0 := 0) (own := RX10) (T := TX10) (k := 2) (v := .ref (a_x 2)) hx hb htX10 hown hK hP rfl e10 rfl (by decide) (hW _ wd430) rfl dX10_flick_53 ?_
    refine lv_iload_n hx hb dX10_flick_56 rfl (lv_at hl 1 rfl) ?_
    obtain ⟨q5, eq5, hf⟩ := bnd hf
    refine mcVi (v := (zB q5)) (rest := []) (Bn := [w10 cs o_x a_x s_x, w9 cs (a_x 2) a_t q4, w3 cs (a_x 3) a_h q3]) (isR := [0, 2]) (isC := [1]) (i0 := 1) ⟨hx, hb, hml, hown, hts⟩ hK hP hD hS hA hG (c9_isLit l D cs (a_x 2) a_t q4 H.size x1 _ eq5) (cwV 1 hts (gV wd957 wd556 wd557 wd107 wd558) rfl rfl rfl (by decide +kernel) ⟨by rw [hR]; exact Nat.le_of_ble_eq_true rfl, by rw [hR]; exact Nat.le_of_ble_eq_true rfl⟩) 3 (by decide) rfl rfl rfl rfl rfl rfl rfl e9 rfl rfl rfl hl.1 rfl (Nat.le_of_ble_eq_true rfl) ⟨Nat.zero_le _, Nat.zero_le _⟩ dX10_flick_57 (fun H locs hP hD hS => ?_)
    refine lv_if_eq (tgt := 67) hx hb dX10_flick_60 (by decide) (fun hc => ?_) (fun hc => ?_)
    · have hf := ifp hc hf
      refine lv_iconst (v := 0) hx hb dX10_flick_67 (by decide) ?_
      obtain rfl := Option.some.inj hf
      exact mretI hx hb hr hlocks hK hP hD hS rfl hQ dX10_flick_68
    · have hf := ifn hc hf
      refine lv_iconst (v := 1) hx hb dX10_flick_63 (by decide) ?_
      refine lv_goto (tgt := 68) hx hb dX10_flick_64 (by decide) ?_
      obtain rfl := Option.some.inj hf
      exact mretI hx hb hr hlocks hK hP hD hS rfl hQ dX10_flick_68
  · have hf := ifp hc hf
    refine lv_aload_n hx hb dX10_flick_16 rfl (lv_at hl 0 rfl) ?_
    refine gfB (i0 := 0) (own := RX10) (T := TX10) (k := 2) (v := .ref (a_x 2)) hx hb htX10 hown hK hP rfl e10 rfl (by decide) (hW _ wd430) rfl dX10_flick_17 ?_
    refine lv_iload_n hx hb dX10_flick_20 rfl (lv_at hl 1 rfl) ?_
    obtain ⟨q6, eq6, hf⟩ := bnd hf
    refine mcVi (v := (zB q6)) (rest := []) (Bn := [w10 cs o_x a_x s_x, w9 cs (a_x 2) a_t s_t, w3 cs (a_x 3) a_h s_h]) (isR := [0, 2]) (isC := [1]) (i0 := 1) ⟨hx, hb, hml, hown, hts⟩ hK hP hD hS hA hG (c9_canBeLit l D cs (a_x 2) a_t s_t H.size x1 _ eq6) (cwV 1 hts (gV wd976 wd560 wd561 wd107 wd562) rfl rfl rfl (by decide +kernel) ⟨by rw [hR]; exact Nat.le_of_ble_eq_true rfl, by rw [hR]; exact Nat.le_of_ble_eq_true rfl⟩) 3 (by decide) rfl rfl rfl rfl rfl rfl rfl e9 rfl rfl rfl hl.1 rfl (Nat.le_of_ble_eq_true rfl) ⟨Nat.zero_le _, Nat.zero_le _⟩ dX10_flick_21 (fun H locs hP hD hS => ?_)
    refine lv_if_ne (tgt := 33) hx hb dX10_flick_24 (by decide) (fun hc => ?_) (fun hc => ?_)
    · have hf := ifn hc hf
      refine lv_aload_n hx hb dX10_flick_33 rfl (lv_at hl 0 rfl) ?_
      refine gfB (i0 := 0) (own := RX10) (T := TX10) (k := 3) (v := .ref (a_x 3)) hx hb htX10 hown hK hP rfl e10 rfl (by decide) (hW _ wd431) rfl dX10_flick_34 ?_
      refine lv_aload_n hx hb dX10_flick_37 rfl (lv_at hl 0 rfl) ?_
      refine gfB (i0 := 0) (own := RX10) (T := TX10) (k := 2) (v := .ref (a_x 2)) hx hb htX10 hown hK hP rfl e10 rfl (by decide) (hW _ wd430) rfl dX10_flick_38 ?_
      obtain ⟨q7, eq7, hf⟩ := bnd hf
      refine mcVv (rest := []) (Bn := [w10 cs o_x a_x s_x, w9 cs (a_x 2) a_t s_t, w3 cs (a_x 3) a_h q7]) (isR := [0]) (isC := [2, 1]) (i0 := 2) ⟨hx, hb, hml, hown, hts⟩ hK hP hD hS hA hG (c3_keep l D cs (a_x 3) a_h (a_x 2) a_t s_h s_t H.size _ eq7) (cwV 1 hts (gV wd491 wd492 wd493 wd109 wd494) rfl rfl rfl (by decide +kernel) ⟨by rw [hR]; exact Nat.le_of_ble_eq_true rfl, by rw [hR]; exact Nat.le_of_ble_eq_true rfl⟩) 3 (by decide) rfl rfl rfl rfl rfl rfl rfl e3 rfl rfl rfl hl.1 rfl (Nat.le_of_ble_eq_true rfl) ⟨Nat.zero_le _, Nat.zero_le _⟩ dX10_flick_41 (fun H locs hP hD hS => ?_)
      refine lv_aload_n hx hb dX10_flick_44 rfl (lv_at hl 0 rfl) ?_
      refine gfB (i0 := 0) (own := RX10) (T := TX10) (k := 2) (v := .ref (a_x 2)) hx hb htX10 hown hK hP rfl e10 rfl (by decide) (hW _ wd430) rfl dX10_flick_45 ?_
      refine lv_iload_n hx hb dX10_flick_48 rfl (lv_at hl 1 rfl) ?_
      obtain ⟨q8, eq8, hf⟩ := bnd hf
      refine mcVv (rest := []) (Bn := [w10 cs o_x a_x s_x, w9 cs (a_x 2) a_t q8, w3 cs (a_x 3) a_h q7]) (isR := [0, 2]) (isC := [1]) (i0 := 1) ⟨hx, hb, hml, hown, hts⟩ hK hP hD hS hA hG (c9_flickByHand l D cs (a_x 2) a_t s_t H.size x1 _ eq8) (cwV 1 hts (gV wd977 wd978 wd979 wd107 wd980) rfl rfl rfl (by decide +kernel) ⟨by rw [hR]; exact Nat.le_of_ble_eq_true rfl, by rw [hR]; exact Nat.le_of_ble_eq_true rfl⟩) 3 (by decide) rfl rfl rfl rfl rfl rfl rfl e9 rfl rfl rfl hl.1 rfl (Nat.le_of_ble_eq_true rfl) ⟨Nat.zero_le _, Nat.zero_le _⟩ dX10_flick_49 (fun H locs hP hD hS => ?_)
      refine lv_aload_n hx hb dX10_flick_52 rfl (lv_at hl 0 rfl) ?_
      refine gfB (i0 := 0) (own := RX10) (T := TX10) (k := 2) (v := .ref (a_x 2)) hx hb htX10 hown hK hP rfl e10 rfl (by decide) (hW _ wd430) rfl dX10_flick_53 ?_
      refine lv_iload_n hx hb dX10_flick_56 rfl (lv_at hl 1 rfl) ?_
      obtain ⟨q9, eq9, hf⟩ := bnd hf
      refine mcVi (v := (zB q9)) (rest := []) (Bn := [w10 cs o_x a_x s_x, w9 cs (a_x 2) a_t q8, w3 cs (a_x 3) a_h q7]) (isR := [0, 2]) (isC := [1]) (i0 := 1) ⟨hx, hb, hml, hown, hts⟩ hK hP hD hS hA hG (c9_isLit l D cs (a_x 2) a_t q8 H.size x1 _ eq9) (cwV 1 hts (gV wd957 wd556 wd557 wd107 wd558) rfl rfl rfl (by decide +kernel) ⟨by rw [hR]; exact Nat.le_of_ble_eq_true rfl, by rw [hR]; exact Nat.le_of_ble_eq_true rfl⟩) 3 (by decide) rfl rfl rfl rfl rfl rfl rfl e9 rfl rfl rfl hl.1 rfl (Nat.le_of_ble_eq_true rfl) ⟨Nat.zero_le _, Nat.zero_le _⟩ dX10_flick_57 (fun H locs hP hD hS => ?_)
      refine lv_if_eq (tgt := 67) hx hb dX10_flick_60 (by decide) (fun hc => ?_) (fun hc => ?_)
      · have hf := ifp hc hf
        refine lv_iconst (v := 0) hx hb dX10_flick_67 (by decide) ?_
        obtain rfl := Option.some.inj hf
        exact mretI hx hb hr hlocks hK hP hD hS rfl hQ dX10_flick_68
      · have hf := ifn hc hf
        refine lv_iconst (v := 1) hx hb dX10_flick_63 (by decide) ?_
        refine lv_goto (tgt := 68) hx hb dX10_flick_64 (by decide) ?_
        obtain rfl := Option.some.inj hf
        exact mretI hx hb hr hlocks hK hP hD hS rfl hQ dX10_flick_68
    · have hf := ifp hc hf
      refine lv_aload_n hx hb dX10_flick_27 rfl (lv_at hl 0 rfl) ?_
      refine lv_iconst (v := 1) hx hb dX10_flick_28 (by decide) ?_
      obtain ⟨q10, eq10, hf⟩ := bnd hf
      refine mcVi (v := q10.1) (rest := []) (Bn := [w10 cs o_x a_x q10.2, w9 cs (a_x 2) a_t s_t, w3 cs (a_x 3) a_h s_h]) (isR := [1, 2]) (isC := [0]) (i0 := 0) ⟨hx, hb, hml, hown, hts⟩ hK hP hD hS hA hG (c10_refuse l D cs o_x a_x s_x H.size (1 : Int32) _ eq10) (cwV 1 hts (gV wd487 wd489 wd0 wd105 wd490) rfl rfl rfl (by decide +kernel) ⟨by rw [hR]; exact Nat.le_of_ble_eq_true rfl, by rw [hR]; exact Nat.le_of_ble_eq_true rfl⟩) 3 (by decide) rfl rfl rfl rfl rfl rfl rfl e10 rfl rfl rfl hl.1 rfl (Nat.le_of_ble_eq_true rfl) ⟨Nat.zero_le _, Nat.zero_le _⟩ dX10_flick_29 (fun H locs hP hD hS => ?_)
      obtain rfl := Option.some.inj hf
      exact mretI hx hb hr hlocks hK hP hD hS rfl hQ dX10_flick_32
set_option maxHeartbeats 4000000 in
set_option maxRecDepth 100000 in
theorem c10x_flick (l : Launch) (D : va_G) (cs : xE) (hl0 : l.stackTraces = false) (o_x : Nat) (a_x : Nat → Nat) (a_t : Nat → Nat) (a_h : Nat → Nat) (s_x : St) (s_t : St) (s_h : HSt) (sz : Nat) (x1 : Int32) (k : Nat) (hf : f10_flick s_x s_t s_h x1 = some (.inr k)) : vx_Met l yX10_flick (Cond.code yX10_flick cX10_flick 2 (some .int) :: WG) { frames := 7, cells := 1, slots := 6, locals := 111 } (va_Pc [.ref o_x, .int x1] (mP D cs (List.flatten [w10 cs o_x a_x s_x, w9 cs (a_x 2) a_t s_t, w3 cs (a_x 3) a_h s_h]) sz)) (fun _ _ _ _ => False) (qX D cs k (List.flatten [w10 cs o_x a_x s_x, w9 cs (a_x 2) a_t s_t, w3 cs (a_x 3) a_h s_h]) (va_A (List.flatten [w10 cs o_x a_x s_x, w9 cs (a_x 2) a_t s_t, w3 cs (a_x 3) a_h s_h]) sz)) 1 6 (va_A (List.flatten [w10 cs o_x a_x s_x, w9 cs (a_x 2) a_t s_t, w3 cs (a_x 3) a_h s_h]) sz) := by
  refine mgoX (cc := cX10_flick) (maxL := 2) (ret := (some .int)) (by decide) rfl (Nat.le_of_ble_eq_true rfl) ?_
  intro p e s m below meth c ls A R Q args H hR hQ hno hx hb hml hr hlocks hown hts hP hK hD hA hS hG hl
  have hown : s.vm.findClass RX10 = some m.cls := hown
  have hl : lv_has ls 2 [(0, .ref o_x), (1, .int x1)] := hl
  have hW : ∀ w ∈ WG, w.before args s = true := fun w h => hts w (List.mem_cons_of_mem _ h)
  have htX10 : ∀ w ∈ u_ws RX10 TX10 14, w.before args s = true := fun w h => hW w (inW_X10 w h)
  unfold f10_flick at hf
  refine lv_aload_n hx hb dX10_flick_0 rfl (lv_at hl 0 rfl) ?_
  refine lv_iload_n hx hb dX10_flick_1 rfl (lv_at hl 1 rfl) ?_
  rcases xB_r hf with xq1 | ⟨q1, eq1, hf⟩
  · exact mxV (rest := []) (isR := [2]) (isC := [0, 1]) (i0 := 0) ⟨hx, hb, hml, hown, hts⟩ hK hP hD hS hA hG (c10x_needLamp l D cs hl0 o_x a_x a_t s_x s_t H.size x1 _ xq1) (cwV 1 hts (gV wd952 wd954 wd26 wd105 wd955) rfl rfl rfl (by decide +kernel) ⟨by rw [hR]; exact Nat.le_of_ble_eq_true rfl, by rw [hR]; exact Nat.le_of_ble_eq_true rfl⟩) 3 (by decide) rfl rfl rfl rfl e10 rfl rfl rfl hl.1 rfl (Nat.le_of_ble_eq_true rfl) ⟨by rw [hR]; exact Nat.le_of_ble_eq_true rfl, by rw [hR]; exact Nat.le_of_ble_eq_true rfl⟩ dX10_flick_2 hno hlocks hQ
  refine mcVv (rest := []) (Bn := [w10 cs o_x a_x s_x, w9 cs (a_x 2) a_t s_t, w3 cs (a_x 3) a_h s_h]) (isR := [2]) (isC := [0, 1]) (i0 := 0) ⟨hx, hb, hml, hown, hts⟩ hK hP hD hS hA hG (c10_needLamp l D cs o_x a_x a_t s_x s_t H.size x1 _ eq1) (cwV 1 hts (gV wd952 wd954 wd26 wd105 wd955) rfl rfl rfl (by decide +kernel) ⟨by rw [hR]; exact Nat.le_of_ble_eq_true rfl, by rw [hR]; exact Nat.le_of_ble_eq_true rfl⟩) 3 (by decide) rfl rfl rfl rfl rfl rfl rfl e10 rfl rfl rfl hl.1 rfl (Nat.le_of_ble_eq_true rfl) ⟨Nat.zero_le _, Nat.zero_le _⟩ dX10_flick_2 (fun H locs hP hD hS => ?_)
  exact (wI_r hf).elim
/-! TwinLamps.trim -/
noncomputable def f10_trim (s_x : St) (s_t : St) (s_h : HSt) (x1 : Int32) (x2 : Int32) : Option ((Int32 × St × St × HSt) ⊕ Nat) :=
  xB (f10_needLamp s_x s_t x1) fun q1 =>
  wI (if x2 < 0 then ((f10_refuse s_x (1 : Int32)).bind fun q2 =>
  some (q2.1, q2.2, s_t, s_h))
  else if x2 ≤ 99 then ((f3_keep s_h s_t).bind fun q3 =>
  (ldO 12 (s_t.2 9) x1).bind fun q4 =>
  (stS 12 s_t 9 x1 x2).bind fun s5 =>
  ((if x2 = 0 then ((f9_putOut s5 x1).bind fun q7 =>
  some q7)
  else some s5 : Option (St))).bind fun q6 =>
  some (q4, s_x, q6, q3))
  else (f10_refuse s_x (1 : Int32)).bind fun q8 =>
  some (q8.1, q8.2, s_t, s_h))
set_option maxHeartbeats 4000000 in
set_option maxRecDepth 100000 in
theorem c10_trim (l : Launch) (D : va_G) (cs : xE) (o_x : Nat) (a_x : Nat → Nat) (a_t : Nat → Nat) (a_h : Nat → Nat) (s_x : St) (s_t : St) (s_h : HSt) (sz : Nat) (x1 : Int32) (x2 : Int32) (res : Int32 × St × St × HSt) (hf : f10_trim s_x s_t s_h x1 x2 = some (.inl res)) : Met l yX10_trim (Cond.code yX10_trim cX10_trim 4 (some .int) :: WG) { frames := 7, cells := 0, slots := 0, locals := 111 } (va_Pc [.ref o_x, .int x1, .int x2] (mP D cs (List.flatten [w10 cs o_x a_x s_x, w9 cs (a_x 2) a_t s_t, w3 cs (a_x 3) a_h s_h]) sz)) (qI D cs res.1 (List.flatten [w10 cs o_x a_x res.2.1, w9 cs (a_x 2) a_t res.2.2.1, w3 cs (a_x 3) a_h res.2.2.2]) (va_A (List.flatten [w10 cs o_x a_x s_x, w9 cs (a_x 2) a_t s_t, w3 cs (a_x 3) a_h s_h]) sz)) 0 0 (va_A (List.flatten [w10 cs o_x a_x s_x, w9 cs (a_x 2) a_t s_t, w3 cs (a_x 3) a_h s_h]) sz) := by
  refine mgo (Qc := qI D cs res.1 (List.flatten [w10 cs o_x a_x res.2.1, w9 cs (a_x 2) a_t res.2.2.1, w3 cs (a_x 3) a_h res.2.2.2])) (cc := cX10_trim) (maxL := 4) (ret := (some .int)) (by decide) rfl (Nat.le_of_ble_eq_true rfl) ?_
  intro p e s m below meth c ls A R Q args H hR hQ hx hb hml hr hlocks hown hts hP hK hD hA hS hG hl
  have hown : s.vm.findClass RX10 = some m.cls := hown
  have hl : lv_has ls 4 [(0, .ref o_x), (1, .int x1), (2, .int x2)] := hl
  have hW : ∀ w ∈ WG, w.before args s = true := fun w h => hts w (List.mem_cons_of_mem _ h)
  have htX10 : ∀ w ∈ u_ws RX10 TX10 14, w.before args s = true := fun w h => hW w (inW_X10 w h)
  have htX9 : ∀ w ∈ u_ws RX9 TX9 11, w.before args s = true := fun w h => hW w (inW_X9 w h)
  unfold f10_trim at hf
  refine lv_aload_n hx hb dX10_trim_0 rfl (lv_at hl 0 rfl) ?_
  refine lv_iload_n hx hb dX10_trim_1 rfl (lv_at hl 1 rfl) ?_
  obtain ⟨q1, eq1, hf⟩ := xB_l hf
  refine mcVv (rest := []) (Bn := [w10 cs o_x a_x s_x, w9 cs (a_x 2) a_t s_t, w3 cs (a_x 3) a_h s_h]) (isR := [2]) (isC := [0, 1]) (i0 := 0) ⟨hx, hb, hml, hown, hts⟩ hK hP hD hS hA hG (c10_needLamp l D cs o_x a_x a_t s_x s_t H.size x1 _ eq1) (cwV 1 hts (gV wd952 wd954 wd26 wd105 wd955) rfl rfl rfl (by decide +kernel) ⟨by rw [hR]; exact Nat.le_of_ble_eq_true rfl, by rw [hR]; exact Nat.le_of_ble_eq_true rfl⟩) 3 (by decide) rfl rfl rfl rfl rfl rfl rfl e10 rfl rfl rfl hl.1 rfl (Nat.le_of_ble_eq_true rfl) ⟨Nat.zero_le _, Nat.zero_le _⟩ dX10_trim_2 (fun H locs hP hD hS => ?_)
  have hf := wI_l hf
  refine lv_iload_n hx hb dX10_trim_5 rfl (lv_at hl 2 rfl) ?_
  refine lv_if_lt (tgt := 15) hx hb dX10_trim_6 (by decide) (fun hc => ?_) (fun hc => ?_)
  · have hf := ifp hc hf
    refine lv_aload_n hx hb dX10_trim_15 rfl (lv_at hl 0 rfl) ?_
    refine lv_iconst (v := 1) hx hb dX10_trim_16 (by decide) ?_
    obtain ⟨q2, eq2, hf⟩ := bnd hf
    refine mcVi (v := q2.1) (rest := []) (Bn := [w10 cs o_x a_x q2.2, w9 cs (a_x 2) a_t s_t, w3 cs (a_x 3) a_h s_h]) (isR := [1, 2]) (isC := [0]) (i0 := 0) ⟨hx, hb, hml, hown, hts⟩ hK hP hD hS hA hG (c10_refuse l D cs o_x a_x s_x H.size (1 : Int32) _ eq2) (cwV 1 hts (gV wd487 wd489 wd0 wd105 wd490) rfl rfl rfl (by decide +kernel) ⟨by rw [hR]; exact Nat.le_of_ble_eq_true rfl, by rw [hR]; exact Nat.le_of_ble_eq_true rfl⟩) 3 (by decide) rfl rfl rfl rfl rfl rfl rfl e10 rfl rfl rfl hl.1 rfl (Nat.le_of_ble_eq_true rfl) ⟨Nat.zero_le _, Nat.zero_le _⟩ dX10_trim_17 (fun H locs hP hD hS => ?_)
    obtain rfl := Option.some.inj hf
    exact mretI hx hb hr hlocks hK hP hD hS rfl hQ dX10_trim_20
  · have hf := ifn hc hf
    refine lv_iload_n hx hb dX10_trim_9 rfl (lv_at hl 2 rfl) ?_
    refine lv_bipush (v := 99) hx hb dX10_trim_10 (by decide) ?_
    refine lv_icmp_le (tgt := 21) hx hb dX10_trim_12 (by decide) (fun hc => ?_) (fun hc => ?_)
    · have hf := ifp hc hf
      refine lv_aload_n hx hb dX10_trim_21 rfl (lv_at hl 0 rfl) ?_
      refine gfB (i0 := 0) (own := RX10) (T := TX10) (k := 3) (v := .ref (a_x 3)) hx hb htX10 hown hK hP rfl e10 rfl (by decide) (hW _ wd431) rfl dX10_trim_22 ?_
      refine lv_aload_n hx hb dX10_trim_25 rfl (lv_at hl 0 rfl) ?_
      refine gfB (i0 := 0) (own := RX10) (T := TX10) (k := 2) (v := .ref (a_x 2)) hx hb htX10 hown hK hP rfl e10 rfl (by decide) (hW _ wd430) rfl dX10_trim_26 ?_
      obtain ⟨q3, eq3, hf⟩ := bnd hf
      refine mcVv (rest := []) (Bn := [w10 cs o_x a_x s_x, w9 cs (a_x 2) a_t s_t, w3 cs (a_x 3) a_h q3]) (isR := [0]) (isC := [2, 1]) (i0 := 2) ⟨hx, hb, hml, hown, hts⟩ hK hP hD hS hA hG (c3_keep l D cs (a_x 3) a_h (a_x 2) a_t s_h s_t H.size _ eq3) (cwV 1 hts (gV wd491 wd492 wd493 wd109 wd494) rfl rfl rfl (by decide +kernel) ⟨by rw [hR]; exact Nat.le_of_ble_eq_true rfl, by rw [hR]; exact Nat.le_of_ble_eq_true rfl⟩) 3 (by decide) rfl rfl rfl rfl rfl rfl rfl e3 rfl rfl rfl hl.1 rfl (Nat.le_of_ble_eq_true rfl) ⟨Nat.zero_le _, Nat.zero_le _⟩ dX10_trim_29 (fun H locs hP hD hS => ?_)
      refine lv_aload_n hx hb dX10_trim_32 rfl (lv_at hl 0 rfl) ?_
      refine gfB (i0 := 0) (own := RX10) (T := TX10) (k := 2) (v := .ref (a_x 2)) hx hb htX10 hown hK hP rfl e10 rfl (by decide) (hW _ wd430) rfl dX10_trim_33 ?_
      refine gfB (i0 := 1) (own := RX10) (T := TX9) (k := 9) (v := .ref (a_t 9)) hx hb htX9 hown hK hP rfl e9 rfl (by decide) (hW _ wd179) rfl dX10_trim_36 ?_
      refine lv_iload_n hx hb dX10_trim_39 rfl (lv_at hl 1 rfl) ?_
      obtain ⟨q4, eq4, hf⟩ := bnd hf
      obtain ⟨gq4, eq4⟩ := ldO_e eq4
      refine aldB (i0 := 1) hx hb hK hP rfl a9_9 gq4 dX10_trim_40 ?_
      refine lv_nm eq4 ?_
      refine lv_istore_n (lv' := [(3, .int q4), (0, .ref o_x), (1, .int x1), (2, .int x2)]) hx hb dX10_trim_41 rfl hl (by decide) rfl (fun ls hl => ?_)
      refine lv_aload_n hx hb dX10_trim_42 rfl (lv_at hl 1 rfl) ?_
      refine gfB (i0 := 0) (own := RX10) (T := TX10) (k := 2) (v := .ref (a_x 2)) hx hb htX10 hown hK hP rfl e10 rfl (by decide) (hW _ wd430) rfl dX10_trim_43 ?_
      refine gfB (i0 := 1) (own := RX10) (T := TX9) (k := 9) (v := .ref (a_t 9)) hx hb htX9 hown hK hP rfl e9 rfl (by decide) (hW _ wd179) rfl dX10_trim_46 ?_
      refine lv_iload_n hx hb dX10_trim_49 rfl (lv_at hl 2 rfl) ?_
      refine lv_iload_n hx hb dX10_trim_50 rfl (lv_at hl 3 rfl) ?_
      obtain ⟨s5, es5, hf⟩ := bnd hf
      obtain ⟨gs5, es5⟩ := stS_e es5
      refine astB (i0 := 1) (Bn := [w10 cs o_x a_x s_x, w9 cs (a_x 2) a_t s5, w3 cs (a_x 3) a_h q3]) hx hb hK hP hD hS rfl a9_9 gs5 rfl dX10_trim_51 (by rw [← es5]; exact v9_9) rfl (fun H locs hP hD hS => ?_)
      refine lv_iload_n hx hb dX10_trim_52 rfl (lv_at hl 3 rfl) ?_
      obtain ⟨q6, hq6, hf⟩ := bnd hf
      have Jq6 : ∀ r6 : St, q6 = r6 → ∀ (H : Heap) (locs : List Loc) (ls : Array Slot), va_P D vwCl (List.flatten [w10 cs o_x a_x s_x, w9 cs (a_x 2) a_t r6, w3 cs (a_x 3) a_h q3]) H → va_D A (List.flatten [w10 cs o_x a_x s_x, w9 cs (a_x 2) a_t r6, w3 cs (a_x 3) a_h q3]) → va_S A s.heap H locs → lv_has ls 4 [(3, .int q4)] → W p l e R s m args below meth c H locs 0 0 Q (F0 m 64 ls []) := by
        intro r6 eq6 H locs ls hP hD hS hl
        subst eq6
        refine lv_iload_n hx hb dX10_trim_64 rfl (lv_at hl 0 rfl) ?_
        obtain rfl := Option.some.inj hf
        exact mretI hx hb hr hlocks hK hP hD hS rfl hQ dX10_trim_65
      clear hf
      have hf := hq6
      refine lv_if_ne (tgt := 64) hx hb dX10_trim_53 (by decide) (fun hc => ?_) (fun hc => ?_)
      · have hf := ifn hc hf
        exact Jq6 _ (Option.some.inj hf).symm _ _ _ hP hD hS (lv_sub hl [0] rfl)
      · have hf := ifp hc hf
        refine lv_aload_n hx hb dX10_trim_56 rfl (lv_at hl 1 rfl) ?_
        refine gfB (i0 := 0) (own := RX10) (T := TX10) (k := 2) (v := .ref (a_x 2)) hx hb htX10 hown hK hP rfl e10 rfl (by decide) (hW _ wd430) rfl dX10_trim_57 ?_
        refine lv_iload_n hx hb dX10_trim_60 rfl (lv_at hl 2 rfl) ?_
        obtain ⟨q7, eq7, hf⟩ := bnd hf
        refine mcVv (rest := []) (Bn := [w10 cs o_x a_x s_x, w9 cs (a_x 2) a_t q7, w3 cs (a_x 3) a_h q3]) (isR := [0, 2]) (isC := [1]) (i0 := 1) ⟨hx, hb, hml, hown, hts⟩ hK hP hD hS hA hG (c9_putOut l D cs (a_x 2) a_t s5 H.size x1 _ eq7) (cwV 1 hts (gV wd992 wd572 wd573 wd107 wd574) rfl rfl rfl (by decide +kernel) ⟨by rw [hR]; exact Nat.le_of_ble_eq_true rfl, by rw [hR]; exact Nat.le_of_ble_eq_true rfl⟩) 3 (by decide) rfl rfl rfl rfl rfl rfl rfl e9 rfl rfl rfl hl.1 rfl (Nat.le_of_ble_eq_true rfl) ⟨Nat.zero_le _, Nat.zero_le _⟩ dX10_trim_61 (fun H locs hP hD hS => ?_)
        exact Jq6 _ (Option.some.inj hf).symm _ _ _ hP hD hS (lv_sub hl [0] rfl)
    · have hf := ifn hc hf
      refine lv_aload_n hx hb dX10_trim_15 rfl (lv_at hl 0 rfl) ?_
      refine lv_iconst (v := 1) hx hb dX10_trim_16 (by decide) ?_
      obtain ⟨q8, eq8, hf⟩ := bnd hf
      refine mcVi (v := q8.1) (rest := []) (Bn := [w10 cs o_x a_x q8.2, w9 cs (a_x 2) a_t s_t, w3 cs (a_x 3) a_h s_h]) (isR := [1, 2]) (isC := [0]) (i0 := 0) ⟨hx, hb, hml, hown, hts⟩ hK hP hD hS hA hG (c10_refuse l D cs o_x a_x s_x H.size (1 : Int32) _ eq8) (cwV 1 hts (gV wd487 wd489 wd0 wd105 wd490) rfl rfl rfl (by decide +kernel) ⟨by rw [hR]; exact Nat.le_of_ble_eq_true rfl, by rw [hR]; exact Nat.le_of_ble_eq_true rfl⟩) 3 (by decide) rfl rfl rfl rfl rfl rfl rfl e10 rfl rfl rfl hl.1 rfl (Nat.le_of_ble_eq_true rfl) ⟨Nat.zero_le _, Nat.zero_le _⟩ dX10_trim_17 (fun H locs hP hD hS => ?_)
      obtain rfl := Option.some.inj hf
      exact mretI hx hb hr hlocks hK hP hD hS rfl hQ dX10_trim_20
set_option maxHeartbeats 4000000 in
set_option maxRecDepth 100000 in
theorem c10x_trim (l : Launch) (D : va_G) (cs : xE) (hl0 : l.stackTraces = false) (o_x : Nat) (a_x : Nat → Nat) (a_t : Nat → Nat) (a_h : Nat → Nat) (s_x : St) (s_t : St) (s_h : HSt) (sz : Nat) (x1 : Int32) (x2 : Int32) (k : Nat) (hf : f10_trim s_x s_t s_h x1 x2 = some (.inr k)) : vx_Met l yX10_trim (Cond.code yX10_trim cX10_trim 4 (some .int) :: WG) { frames := 7, cells := 1, slots := 6, locals := 111 } (va_Pc [.ref o_x, .int x1, .int x2] (mP D cs (List.flatten [w10 cs o_x a_x s_x, w9 cs (a_x 2) a_t s_t, w3 cs (a_x 3) a_h s_h]) sz)) (fun _ _ _ _ => False) (qX D cs k (List.flatten [w10 cs o_x a_x s_x, w9 cs (a_x 2) a_t s_t, w3 cs (a_x 3) a_h s_h]) (va_A (List.flatten [w10 cs o_x a_x s_x, w9 cs (a_x 2) a_t s_t, w3 cs (a_x 3) a_h s_h]) sz)) 1 6 (va_A (List.flatten [w10 cs o_x a_x s_x, w9 cs (a_x 2) a_t s_t, w3 cs (a_x 3) a_h s_h]) sz) := by
  refine mgoX (cc := cX10_trim) (maxL := 4) (ret := (some .int)) (by decide) rfl (Nat.le_of_ble_eq_true rfl) ?_
  intro p e s m below meth c ls A R Q args H hR hQ hno hx hb hml hr hlocks hown hts hP hK hD hA hS hG hl
  have hown : s.vm.findClass RX10 = some m.cls := hown
  have hl : lv_has ls 4 [(0, .ref o_x), (1, .int x1), (2, .int x2)] := hl
  have hW : ∀ w ∈ WG, w.before args s = true := fun w h => hts w (List.mem_cons_of_mem _ h)
  have htX10 : ∀ w ∈ u_ws RX10 TX10 14, w.before args s = true := fun w h => hW w (inW_X10 w h)
  have htX9 : ∀ w ∈ u_ws RX9 TX9 11, w.before args s = true := fun w h => hW w (inW_X9 w h)
  unfold f10_trim at hf
  refine lv_aload_n hx hb dX10_trim_0 rfl (lv_at hl 0 rfl) ?_
  refine lv_iload_n hx hb dX10_trim_1 rfl (lv_at hl 1 rfl) ?_
  rcases xB_r hf with xq1 | ⟨q1, eq1, hf⟩
  · exact mxV (rest := []) (isR := [2]) (isC := [0, 1]) (i0 := 0) ⟨hx, hb, hml, hown, hts⟩ hK hP hD hS hA hG (c10x_needLamp l D cs hl0 o_x a_x a_t s_x s_t H.size x1 _ xq1) (cwV 1 hts (gV wd952 wd954 wd26 wd105 wd955) rfl rfl rfl (by decide +kernel) ⟨by rw [hR]; exact Nat.le_of_ble_eq_true rfl, by rw [hR]; exact Nat.le_of_ble_eq_true rfl⟩) 3 (by decide) rfl rfl rfl rfl e10 rfl rfl rfl hl.1 rfl (Nat.le_of_ble_eq_true rfl) ⟨by rw [hR]; exact Nat.le_of_ble_eq_true rfl, by rw [hR]; exact Nat.le_of_ble_eq_true rfl⟩ dX10_trim_2 hno hlocks hQ
  refine mcVv (rest := []) (Bn := [w10 cs o_x a_x s_x, w9 cs (a_x 2) a_t s_t, w3 cs (a_x 3) a_h s_h]) (isR := [2]) (isC := [0, 1]) (i0 := 0) ⟨hx, hb, hml, hown, hts⟩ hK hP hD hS hA hG (c10_needLamp l D cs o_x a_x a_t s_x s_t H.size x1 _ eq1) (cwV 1 hts (gV wd952 wd954 wd26 wd105 wd955) rfl rfl rfl (by decide +kernel) ⟨by rw [hR]; exact Nat.le_of_ble_eq_true rfl, by rw [hR]; exact Nat.le_of_ble_eq_true rfl⟩) 3 (by decide) rfl rfl rfl rfl rfl rfl rfl e10 rfl rfl rfl hl.1 rfl (Nat.le_of_ble_eq_true rfl) ⟨Nat.zero_le _, Nat.zero_le _⟩ dX10_trim_2 (fun H locs hP hD hS => ?_)
  exact (wI_r hf).elim
/-! TwinLamps.breaks -/
noncomputable def f10_breaks (s_x : St) (s_t : St) (s_h : HSt) (x1 : Int32) : Option ((Bool × St × St × HSt) ⊕ Nat) :=
  xB (f10_needLamp s_x s_t x1) fun q1 =>
  wI ((f9_isBroken s_t x1).bind fun q2 =>
  if (zB q2) = 0 then ((f3_keep s_h s_t).bind fun q3 =>
  (f9_shatter s_t x1).bind fun q4 =>
  some (true, s_x, q4, q3))
  else (f10_refuse s_x (1 : Int32)).bind fun q5 =>
  some (false, q5.2, s_t, s_h))
set_option maxHeartbeats 4000000 in
set_option maxRecDepth 100000 in
theorem c10_breaks (l : Launch) (D : va_G) (cs : xE) (o_x : Nat) (a_x : Nat → Nat) (a_t : Nat → Nat) (a_h : Nat → Nat) (s_x : St) (s_t : St) (s_h : HSt) (sz : Nat) (x1 : Int32) (res : Bool × St × St × HSt) (hf : f10_breaks s_x s_t s_h x1 = some (.inl res)) : Met l yX10_breaks (Cond.code yX10_breaks cX10_breaks 2 (some .boolean) :: WG) { frames := 7, cells := 0, slots := 0, locals := 111 } (va_Pc [.ref o_x, .int x1] (mP D cs (List.flatten [w10 cs o_x a_x s_x, w9 cs (a_x 2) a_t s_t, w3 cs (a_x 3) a_h s_h]) sz)) (qI D cs (zB res.1) (List.flatten [w10 cs o_x a_x res.2.1, w9 cs (a_x 2) a_t res.2.2.1, w3 cs (a_x 3) a_h res.2.2.2]) (va_A (List.flatten [w10 cs o_x a_x s_x, w9 cs (a_x 2) a_t s_t, w3 cs (a_x 3) a_h s_h]) sz)) 0 0 (va_A (List.flatten [w10 cs o_x a_x s_x, w9 cs (a_x 2) a_t s_t, w3 cs (a_x 3) a_h s_h]) sz) := by
  refine mgo (Qc := qI D cs (zB res.1) (List.flatten [w10 cs o_x a_x res.2.1, w9 cs (a_x 2) a_t res.2.2.1, w3 cs (a_x 3) a_h res.2.2.2])) (cc := cX10_breaks) (maxL := 2) (ret := (some .boolean)) (by decide) rfl (Nat.le_of_ble_eq_true rfl) ?_
  intro p e s m below meth c ls A R Q args H hR hQ hx hb hml hr hlocks hown hts hP hK hD hA hS hG hl
  have hown : s.vm.findClass RX10 = some m.cls := hown
  have hl : lv_has ls 2 [(0, .ref o_x), (1, .int x1)] := hl
  have hW : ∀ w ∈ WG, w.before args s = true := fun w h => hts w (List.mem_cons_of_mem _ h)
  have htX10 : ∀ w ∈ u_ws RX10 TX10 14, w.before args s = true := fun w h => hW w (inW_X10 w h)
  unfold f10_breaks at hf
  refine lv_aload_n hx hb dX10_breaks_0 rfl (lv_at hl 0 rfl) ?_
  refine lv_iload_n hx hb dX10_breaks_1 rfl (lv_at hl 1 rfl) ?_
  obtain ⟨q1, eq1, hf⟩ := xB_l hf
  refine mcVv (rest := []) (Bn := [w10 cs o_x a_x s_x, w9 cs (a_x 2) a_t s_t, w3 cs (a_x 3) a_h s_h]) (isR := [2]) (isC := [0, 1]) (i0 := 0) ⟨hx, hb, hml, hown, hts⟩ hK hP hD hS hA hG (c10_needLamp l D cs o_x a_x a_t s_x s_t H.size x1 _ eq1) (cwV 1 hts (gV wd952 wd954 wd26 wd105 wd955) rfl rfl rfl (by decide +kernel) ⟨by rw [hR]; exact Nat.le_of_ble_eq_true rfl, by rw [hR]; exact Nat.le_of_ble_eq_true rfl⟩) 3 (by decide) rfl rfl rfl rfl rfl rfl rfl e10 rfl rfl rfl hl.1 rfl (Nat.le_of_ble_eq_true rfl) ⟨Nat.zero_le _, Nat.zero_le _⟩ dX10_breaks_2 (fun H locs hP hD hS => ?_)
  have hf := wI_l hf
  refine lv_aload_n hx hb dX10_breaks_5 rfl (lv_at hl 0 rfl) ?_
  refine gfB (i0 := 0) (own := RX10) (T := TX10) (k := 2) (v := .ref (a_x 2)) hx hb htX10 hown hK hP rfl e10 rfl (by decide) (hW _ wd430) rfl dX10_breaks_6 ?_
  refine lv_iload_n hx hb dX10_breaks_9 rfl (lv_at hl 1 rfl) ?_
  obtain ⟨q2, eq2, hf⟩ := bnd hf
  refine mcVi (v := (zB q2)) (rest := []) (Bn := [w10 cs o_x a_x s_x, w9 cs (a_x 2) a_t s_t, w3 cs (a_x 3) a_h s_h]) (isR := [0, 2]) (isC := [1]) (i0 := 1) ⟨hx, hb, hml, hown, hts⟩ hK hP hD hS hA hG (c9_isBroken l D cs (a_x 2) a_t s_t H.size x1 _ eq2) (cwV 1 hts (gV wd958 wd959 wd960 wd107 wd961) rfl rfl rfl (by decide +kernel) ⟨by rw [hR]; exact Nat.le_of_ble_eq_true rfl, by rw [hR]; exact Nat.le_of_ble_eq_true rfl⟩) 3 (by decide) rfl rfl rfl rfl rfl rfl rfl e9 rfl rfl rfl hl.1 rfl (Nat.le_of_ble_eq_true rfl) ⟨Nat.zero_le _, Nat.zero_le _⟩ dX10_breaks_10 (fun H locs hP hD hS => ?_)
  refine lv_if_eq (tgt := 24) hx hb dX10_breaks_13 (by decide) (fun hc => ?_) (fun hc => ?_)
  · have hf := ifp hc hf
    refine lv_aload_n hx hb dX10_breaks_24 rfl (lv_at hl 0 rfl) ?_
    refine gfB (i0 := 0) (own := RX10) (T := TX10) (k := 3) (v := .ref (a_x 3)) hx hb htX10 hown hK hP rfl e10 rfl (by decide) (hW _ wd431) rfl dX10_breaks_25 ?_
    refine lv_aload_n hx hb dX10_breaks_28 rfl (lv_at hl 0 rfl) ?_
    refine gfB (i0 := 0) (own := RX10) (T := TX10) (k := 2) (v := .ref (a_x 2)) hx hb htX10 hown hK hP rfl e10 rfl (by decide) (hW _ wd430) rfl dX10_breaks_29 ?_
    obtain ⟨q3, eq3, hf⟩ := bnd hf
    refine mcVv (rest := []) (Bn := [w10 cs o_x a_x s_x, w9 cs (a_x 2) a_t s_t, w3 cs (a_x 3) a_h q3]) (isR := [0]) (isC := [2, 1]) (i0 := 2) ⟨hx, hb, hml, hown, hts⟩ hK hP hD hS hA hG (c3_keep l D cs (a_x 3) a_h (a_x 2) a_t s_h s_t H.size _ eq3) (cwV 1 hts (gV wd491 wd492 wd493 wd109 wd494) rfl rfl rfl (by decide +kernel) ⟨by rw [hR]; exact Nat.le_of_ble_eq_true rfl, by rw [hR]; exact Nat.le_of_ble_eq_true rfl⟩) 3 (by decide) rfl rfl rfl rfl rfl rfl rfl e3 rfl rfl rfl hl.1 rfl (Nat.le_of_ble_eq_true rfl) ⟨Nat.zero_le _, Nat.zero_le _⟩ dX10_breaks_32 (fun H locs hP hD hS => ?_)
    refine lv_aload_n hx hb dX10_breaks_35 rfl (lv_at hl 0 rfl) ?_
    refine gfB (i0 := 0) (own := RX10) (T := TX10) (k := 2) (v := .ref (a_x 2)) hx hb htX10 hown hK hP rfl e10 rfl (by decide) (hW _ wd430) rfl dX10_breaks_36 ?_
    refine lv_iload_n hx hb dX10_breaks_39 rfl (lv_at hl 1 rfl) ?_
    obtain ⟨q4, eq4, hf⟩ := bnd hf
    refine mcVv (rest := []) (Bn := [w10 cs o_x a_x s_x, w9 cs (a_x 2) a_t q4, w3 cs (a_x 3) a_h q3]) (isR := [0, 2]) (isC := [1]) (i0 := 1) ⟨hx, hb, hml, hown, hts⟩ hK hP hD hS hA hG (c9_shatter l D cs (a_x 2) a_t s_t H.size x1 _ eq4) (cwV 1 hts (gV wd1000 wd1001 wd1002 wd107 wd1003) rfl rfl rfl (by decide +kernel) ⟨by rw [hR]; exact Nat.le_of_ble_eq_true rfl, by rw [hR]; exact Nat.le_of_ble_eq_true rfl⟩) 3 (by decide) rfl rfl rfl rfl rfl rfl rfl e9 rfl rfl rfl hl.1 rfl (Nat.le_of_ble_eq_true rfl) ⟨Nat.zero_le _, Nat.zero_le _⟩ dX10_breaks_40 (fun H locs hP hD hS => ?_)
    refine lv_iconst (v := 1) hx hb dX10_breaks_43 (by decide) ?_
    obtain rfl := Option.some.inj hf
    exact mretZ hx hb hr hlocks hK hP hD hS rfl hQ dX10_breaks_44
  · have hf := ifn hc hf
    refine lv_aload_n hx hb dX10_breaks_16 rfl (lv_at hl 0 rfl) ?_
    refine lv_iconst (v := 1) hx hb dX10_breaks_17 (by decide) ?_
    obtain ⟨q5, eq5, hf⟩ := bnd hf
    refine mcVi (v := q5.1) (rest := []) (Bn := [w10 cs o_x a_x q5.2, w9 cs (a_x 2) a_t s_t, w3 cs (a_x 3) a_h s_h]) (isR := [1, 2]) (isC := [0]) (i0 := 0) ⟨hx, hb, hml, hown, hts⟩ hK hP hD hS hA hG (c10_refuse l D cs o_x a_x s_x H.size (1 : Int32) _ eq5) (cwV 1 hts (gV wd487 wd489 wd0 wd105 wd490) rfl rfl rfl (by decide +kernel) ⟨by rw [hR]; exact Nat.le_of_ble_eq_true rfl, by rw [hR]; exact Nat.le_of_ble_eq_true rfl⟩) 3 (by decide) rfl rfl rfl rfl rfl rfl rfl e10 rfl rfl rfl hl.1 rfl (Nat.le_of_ble_eq_true rfl) ⟨Nat.zero_le _, Nat.zero_le _⟩ dX10_breaks_18 (fun H locs hP hD hS => ?_)
    refine lv_pop hx hb dX10_breaks_21 rfl ?_
    refine lv_iconst (v := 0) hx hb dX10_breaks_22 (by decide) ?_
    obtain rfl := Option.some.inj hf
    exact mretZ hx hb hr hlocks hK hP hD hS rfl hQ dX10_breaks_23
set_option maxHeartbeats 4000000 in
set_option maxRecDepth 100000 in
theorem c10x_breaks (l : Launch) (D : va_G) (cs : xE) (hl0 : l.stackTraces = false) (o_x : Nat) (a_x : Nat → Nat) (a_t : Nat → Nat) (a_h : Nat → Nat) (s_x : St) (s_t : St) (s_h : HSt) (sz : Nat) (x1 : Int32) (k : Nat) (hf : f10_breaks s_x s_t s_h x1 = some (.inr k)) : vx_Met l yX10_breaks (Cond.code yX10_breaks cX10_breaks 2 (some .boolean) :: WG) { frames := 7, cells := 1, slots := 6, locals := 111 } (va_Pc [.ref o_x, .int x1] (mP D cs (List.flatten [w10 cs o_x a_x s_x, w9 cs (a_x 2) a_t s_t, w3 cs (a_x 3) a_h s_h]) sz)) (fun _ _ _ _ => False) (qX D cs k (List.flatten [w10 cs o_x a_x s_x, w9 cs (a_x 2) a_t s_t, w3 cs (a_x 3) a_h s_h]) (va_A (List.flatten [w10 cs o_x a_x s_x, w9 cs (a_x 2) a_t s_t, w3 cs (a_x 3) a_h s_h]) sz)) 1 6 (va_A (List.flatten [w10 cs o_x a_x s_x, w9 cs (a_x 2) a_t s_t, w3 cs (a_x 3) a_h s_h]) sz) := by
  refine mgoX (cc := cX10_breaks) (maxL := 2) (ret := (some .boolean)) (by decide) rfl (Nat.le_of_ble_eq_true rfl) ?_
  intro p e s m below meth c ls A R Q args H hR hQ hno hx hb hml hr hlocks hown hts hP hK hD hA hS hG hl
  have hown : s.vm.findClass RX10 = some m.cls := hown
  have hl : lv_has ls 2 [(0, .ref o_x), (1, .int x1)] := hl
  have hW : ∀ w ∈ WG, w.before args s = true := fun w h => hts w (List.mem_cons_of_mem _ h)
  have htX10 : ∀ w ∈ u_ws RX10 TX10 14, w.before args s = true := fun w h => hW w (inW_X10 w h)
  unfold f10_breaks at hf
  refine lv_aload_n hx hb dX10_breaks_0 rfl (lv_at hl 0 rfl) ?_
  refine lv_iload_n hx hb dX10_breaks_1 rfl (lv_at hl 1 rfl) ?_
  rcases xB_r hf with xq1 | ⟨q1, eq1, hf⟩
  · exact mxV (rest := []) (isR := [2]) (isC := [0, 1]) (i0 := 0) ⟨hx, hb, hml, hown, hts⟩ hK hP hD hS hA hG (c10x_needLamp l D cs hl0 o_x a_x a_t s_x s_t H.size x1 _ xq1) (cwV 1 hts (gV wd952 wd954 wd26 wd105 wd955) rfl rfl rfl (by decide +kernel) ⟨by rw [hR]; exact Nat.le_of_ble_eq_true rfl, by rw [hR]; exact Nat.le_of_ble_eq_true rfl⟩) 3 (by decide) rfl rfl rfl rfl e10 rfl rfl rfl hl.1 rfl (Nat.le_of_ble_eq_true rfl) ⟨by rw [hR]; exact Nat.le_of_ble_eq_true rfl, by rw [hR]; exact Nat.le_of_ble_eq_true rfl⟩ dX10_breaks_2 hno hlocks hQ
  refine mcVv (rest := []) (Bn := [w10 cs o_x a_x s_x, w9 cs (a_x 2) a_t s_t, w3 cs (a_x 3) a_h s_h]) (isR := [2]) (isC := [0, 1]) (i0 := 0) ⟨hx, hb, hml, hown, hts⟩ hK hP hD hS hA hG (c10_needLamp l D cs o_x a_x a_t s_x s_t H.size x1 _ eq1) (cwV 1 hts (gV wd952 wd954 wd26 wd105 wd955) rfl rfl rfl (by decide +kernel) ⟨by rw [hR]; exact Nat.le_of_ble_eq_true rfl, by rw [hR]; exact Nat.le_of_ble_eq_true rfl⟩) 3 (by decide) rfl rfl rfl rfl rfl rfl rfl e10 rfl rfl rfl hl.1 rfl (Nat.le_of_ble_eq_true rfl) ⟨Nat.zero_le _, Nat.zero_le _⟩ dX10_breaks_2 (fun H locs hP hD hS => ?_)
  exact (wI_r hf).elim
/-! TwinLamps.give -/
noncomputable def f10_give (s_x : St) (s_t : St) (s_h : HSt) (x1 : Int32) (x2 : Int32) : Option ((Int32 × St × St × HSt) ⊕ Nat) :=
  xB (f10_needLamp s_x s_t x1) fun q1 =>
  xB (f10_needHouse s_x s_t x2) fun q2 =>
  wI ((ldO 12 (s_t.2 8) x1).bind fun q3 =>
  if q3 = x2 then ((f10_refuse s_x (1 : Int32)).bind fun q6 =>
  some (q6.1, q6.2, s_t, s_h))
  else (f3_keep s_h s_t).bind fun q4 =>
  (stS 12 s_t 8 x1 x2).bind fun s5 =>
  some (q3, s_x, s5, q4))
set_option maxHeartbeats 4000000 in
set_option maxRecDepth 100000 in
theorem c10_give (l : Launch) (D : va_G) (cs : xE) (o_x : Nat) (a_x : Nat → Nat) (a_t : Nat → Nat) (a_h : Nat → Nat) (s_x : St) (s_t : St) (s_h : HSt) (sz : Nat) (x1 : Int32) (x2 : Int32) (res : Int32 × St × St × HSt) (hf : f10_give s_x s_t s_h x1 x2 = some (.inl res)) : Met l yX10_give (Cond.code yX10_give cX10_give 4 (some .int) :: WG) { frames := 7, cells := 0, slots := 0, locals := 111 } (va_Pc [.ref o_x, .int x1, .int x2] (mP D cs (List.flatten [w10 cs o_x a_x s_x, w9 cs (a_x 2) a_t s_t, w3 cs (a_x 3) a_h s_h]) sz)) (qI D cs res.1 (List.flatten [w10 cs o_x a_x res.2.1, w9 cs (a_x 2) a_t res.2.2.1, w3 cs (a_x 3) a_h res.2.2.2]) (va_A (List.flatten [w10 cs o_x a_x s_x, w9 cs (a_x 2) a_t s_t, w3 cs (a_x 3) a_h s_h]) sz)) 0 0 (va_A (List.flatten [w10 cs o_x a_x s_x, w9 cs (a_x 2) a_t s_t, w3 cs (a_x 3) a_h s_h]) sz) := by
  refine mgo (Qc := qI D cs res.1 (List.flatten [w10 cs o_x a_x res.2.1, w9 cs (a_x 2) a_t res.2.2.1, w3 cs (a_x 3) a_h res.2.2.2])) (cc := cX10_give) (maxL := 4) (ret := (some .int)) (by decide) rfl (Nat.le_of_ble_eq_true rfl) ?_
  intro p e s m below meth c ls A R Q args H hR hQ hx hb hml hr hlocks hown hts hP hK hD hA hS hG hl
  have hown : s.vm.findClass RX10 = some m.cls := hown
  have hl : lv_has ls 4 [(0, .ref o_x), (1, .int x1), (2, .int x2)] := hl
  have hW : ∀ w ∈ WG, w.before args s = true := fun w h => hts w (List.mem_cons_of_mem _ h)
  have htX10 : ∀ w ∈ u_ws RX10 TX10 14, w.before args s = true := fun w h => hW w (inW_X10 w h)
  have htX9 : ∀ w ∈ u_ws RX9 TX9 11, w.before args s = true := fun w h => hW w (inW_X9 w h)
  unfold f10_give at hf
  refine lv_aload_n hx hb dX10_give_0 rfl (lv_at hl 0 rfl) ?_
  refine lv_iload_n hx hb dX10_give_1 rfl (lv_at hl 1 rfl) ?_
  obtain ⟨q1, eq1, hf⟩ := xB_l hf
  refine mcVv (rest := []) (Bn := [w10 cs o_x a_x s_x, w9 cs (a_x 2) a_t s_t, w3 cs (a_x 3) a_h s_h]) (isR := [2]) (isC := [0, 1]) (i0 := 0) ⟨hx, hb, hml, hown, hts⟩ hK hP hD hS hA hG (c10_needLamp l D cs o_x a_x a_t s_x s_t H.size x1 _ eq1) (cwV 1 hts (gV wd952 wd954 wd26 wd105 wd955) rfl rfl rfl (by decide +kernel) ⟨by rw [hR]; exact Nat.le_of_ble_eq_true rfl, by rw [hR]; exact Nat.le_of_ble_eq_true rfl⟩) 3 (by decide) rfl rfl rfl rfl rfl rfl rfl e10 rfl rfl rfl hl.1 rfl (Nat.le_of_ble_eq_true rfl) ⟨Nat.zero_le _, Nat.zero_le _⟩ dX10_give_2 (fun H locs hP hD hS => ?_)
  refine lv_aload_n hx hb dX10_give_5 rfl (lv_at hl 0 rfl) ?_
  refine lv_iload_n hx hb dX10_give_6 rfl (lv_at hl 2 rfl) ?_
  obtain ⟨q2, eq2, hf⟩ := xB_l hf
  refine mcVv (rest := []) (Bn := [w10 cs o_x a_x s_x, w9 cs (a_x 2) a_t s_t, w3 cs (a_x 3) a_h s_h]) (isR := [2]) (isC := [0, 1]) (i0 := 0) ⟨hx, hb, hml, hown, hts⟩ hK hP hD hS hA hG (c10_needHouse l D cs o_x a_x a_t s_x s_t H.size x2 _ eq2) (cwV 1 hts (gV wd937 wd939 wd25 wd105 wd940) rfl rfl rfl (by decide +kernel) ⟨by rw [hR]; exact Nat.le_of_ble_eq_true rfl, by rw [hR]; exact Nat.le_of_ble_eq_true rfl⟩) 3 (by decide) rfl rfl rfl rfl rfl rfl rfl e10 rfl rfl rfl hl.1 rfl (Nat.le_of_ble_eq_true rfl) ⟨Nat.zero_le _, Nat.zero_le _⟩ dX10_give_7 (fun H locs hP hD hS => ?_)
  have hf := wI_l hf
  refine lv_aload_n hx hb dX10_give_10 rfl (lv_at hl 0 rfl) ?_
  refine gfB (i0 := 0) (own := RX10) (T := TX10) (k := 2) (v := .ref (a_x 2)) hx hb htX10 hown hK hP rfl e10 rfl (by decide) (hW _ wd430) rfl dX10_give_11 ?_
  refine gfB (i0 := 1) (own := RX10) (T := TX9) (k := 8) (v := .ref (a_t 8)) hx hb htX9 hown hK hP rfl e9 rfl (by decide) (hW _ wd174) rfl dX10_give_14 ?_
  refine lv_iload_n hx hb dX10_give_17 rfl (lv_at hl 1 rfl) ?_
  obtain ⟨q3, eq3, hf⟩ := bnd hf
  obtain ⟨gq3, eq3⟩ := ldO_e eq3
  refine aldB (i0 := 1) hx hb hK hP rfl a9_8 gq3 dX10_give_18 ?_
  refine lv_nm eq3 ?_
  refine lv_istore_n (lv' := [(3, .int q3), (0, .ref o_x), (1, .int x1), (2, .int x2)]) hx hb dX10_give_19 rfl hl (by decide) rfl (fun ls hl => ?_)
  refine lv_iload_n hx hb dX10_give_20 rfl (lv_at hl 0 rfl) ?_
  refine lv_iload_n hx hb dX10_give_21 rfl (lv_at hl 3 rfl) ?_
  refine lv_icmp_ne (tgt := 31) hx hb dX10_give_22 (by decide) (fun hc => ?_) (fun hc => ?_)
  · have hf := ifn hc hf
    refine lv_aload_n hx hb dX10_give_31 rfl (lv_at hl 1 rfl) ?_
    refine gfB (i0 := 0) (own := RX10) (T := TX10) (k := 3) (v := .ref (a_x 3)) hx hb htX10 hown hK hP rfl e10 rfl (by decide) (hW _ wd431) rfl dX10_give_32 ?_
    refine lv_aload_n hx hb dX10_give_35 rfl (lv_at hl 1 rfl) ?_
    refine gfB (i0 := 0) (own := RX10) (T := TX10) (k := 2) (v := .ref (a_x 2)) hx hb htX10 hown hK hP rfl e10 rfl (by decide) (hW _ wd430) rfl dX10_give_36 ?_
    obtain ⟨q4, eq4, hf⟩ := bnd hf
    refine mcVv (rest := []) (Bn := [w10 cs o_x a_x s_x, w9 cs (a_x 2) a_t s_t, w3 cs (a_x 3) a_h q4]) (isR := [0]) (isC := [2, 1]) (i0 := 2) ⟨hx, hb, hml, hown, hts⟩ hK hP hD hS hA hG (c3_keep l D cs (a_x 3) a_h (a_x 2) a_t s_h s_t H.size _ eq4) (cwV 1 hts (gV wd491 wd492 wd493 wd109 wd494) rfl rfl rfl (by decide +kernel) ⟨by rw [hR]; exact Nat.le_of_ble_eq_true rfl, by rw [hR]; exact Nat.le_of_ble_eq_true rfl⟩) 3 (by decide) rfl rfl rfl rfl rfl rfl rfl e3 rfl rfl rfl hl.1 rfl (Nat.le_of_ble_eq_true rfl) ⟨Nat.zero_le _, Nat.zero_le _⟩ dX10_give_39 (fun H locs hP hD hS => ?_)
    refine lv_aload_n hx hb dX10_give_42 rfl (lv_at hl 1 rfl) ?_
    refine gfB (i0 := 0) (own := RX10) (T := TX10) (k := 2) (v := .ref (a_x 2)) hx hb htX10 hown hK hP rfl e10 rfl (by decide) (hW _ wd430) rfl dX10_give_43 ?_
    refine gfB (i0 := 1) (own := RX10) (T := TX9) (k := 8) (v := .ref (a_t 8)) hx hb htX9 hown hK hP rfl e9 rfl (by decide) (hW _ wd174) rfl dX10_give_46 ?_
    refine lv_iload_n hx hb dX10_give_49 rfl (lv_at hl 2 rfl) ?_
    refine lv_iload_n hx hb dX10_give_50 rfl (lv_at hl 3 rfl) ?_
    obtain ⟨s5, es5, hf⟩ := bnd hf
    obtain ⟨gs5, es5⟩ := stS_e es5
    refine astB (i0 := 1) (Bn := [w10 cs o_x a_x s_x, w9 cs (a_x 2) a_t s5, w3 cs (a_x 3) a_h q4]) hx hb hK hP hD hS rfl a9_8 gs5 rfl dX10_give_51 (by rw [← es5]; exact v9_8) rfl (fun H locs hP hD hS => ?_)
    refine lv_iload_n hx hb dX10_give_52 rfl (lv_at hl 0 rfl) ?_
    obtain rfl := Option.some.inj hf
    exact mretI hx hb hr hlocks hK hP hD hS rfl hQ dX10_give_53
  · have hf := ifp hc hf
    refine lv_aload_n hx hb dX10_give_25 rfl (lv_at hl 1 rfl) ?_
    refine lv_iconst (v := 1) hx hb dX10_give_26 (by decide) ?_
    obtain ⟨q6, eq6, hf⟩ := bnd hf
    refine mcVi (v := q6.1) (rest := []) (Bn := [w10 cs o_x a_x q6.2, w9 cs (a_x 2) a_t s_t, w3 cs (a_x 3) a_h s_h]) (isR := [1, 2]) (isC := [0]) (i0 := 0) ⟨hx, hb, hml, hown, hts⟩ hK hP hD hS hA hG (c10_refuse l D cs o_x a_x s_x H.size (1 : Int32) _ eq6) (cwV 1 hts (gV wd487 wd489 wd0 wd105 wd490) rfl rfl rfl (by decide +kernel) ⟨by rw [hR]; exact Nat.le_of_ble_eq_true rfl, by rw [hR]; exact Nat.le_of_ble_eq_true rfl⟩) 3 (by decide) rfl rfl rfl rfl rfl rfl rfl e10 rfl rfl rfl hl.1 rfl (Nat.le_of_ble_eq_true rfl) ⟨Nat.zero_le _, Nat.zero_le _⟩ dX10_give_27 (fun H locs hP hD hS => ?_)
    obtain rfl := Option.some.inj hf
    exact mretI hx hb hr hlocks hK hP hD hS rfl hQ dX10_give_30
set_option maxHeartbeats 4000000 in
set_option maxRecDepth 100000 in
theorem c10x_give (l : Launch) (D : va_G) (cs : xE) (hl0 : l.stackTraces = false) (o_x : Nat) (a_x : Nat → Nat) (a_t : Nat → Nat) (a_h : Nat → Nat) (s_x : St) (s_t : St) (s_h : HSt) (sz : Nat) (x1 : Int32) (x2 : Int32) (k : Nat) (hf : f10_give s_x s_t s_h x1 x2 = some (.inr k)) : vx_Met l yX10_give (Cond.code yX10_give cX10_give 4 (some .int) :: WG) { frames := 7, cells := 1, slots := 6, locals := 111 } (va_Pc [.ref o_x, .int x1, .int x2] (mP D cs (List.flatten [w10 cs o_x a_x s_x, w9 cs (a_x 2) a_t s_t, w3 cs (a_x 3) a_h s_h]) sz)) (fun _ _ _ _ => False) (qX D cs k (List.flatten [w10 cs o_x a_x s_x, w9 cs (a_x 2) a_t s_t, w3 cs (a_x 3) a_h s_h]) (va_A (List.flatten [w10 cs o_x a_x s_x, w9 cs (a_x 2) a_t s_t, w3 cs (a_x 3) a_h s_h]) sz)) 1 6 (va_A (List.flatten [w10 cs o_x a_x s_x, w9 cs (a_x 2) a_t s_t, w3 cs (a_x 3) a_h s_h]) sz) := by
  refine mgoX (cc := cX10_give) (maxL := 4) (ret := (some .int)) (by decide) rfl (Nat.le_of_ble_eq_true rfl) ?_
  intro p e s m below meth c ls A R Q args H hR hQ hno hx hb hml hr hlocks hown hts hP hK hD hA hS hG hl
  have hown : s.vm.findClass RX10 = some m.cls := hown
  have hl : lv_has ls 4 [(0, .ref o_x), (1, .int x1), (2, .int x2)] := hl
  have hW : ∀ w ∈ WG, w.before args s = true := fun w h => hts w (List.mem_cons_of_mem _ h)
  have htX10 : ∀ w ∈ u_ws RX10 TX10 14, w.before args s = true := fun w h => hW w (inW_X10 w h)
  have htX9 : ∀ w ∈ u_ws RX9 TX9 11, w.before args s = true := fun w h => hW w (inW_X9 w h)
  unfold f10_give at hf
  refine lv_aload_n hx hb dX10_give_0 rfl (lv_at hl 0 rfl) ?_
  refine lv_iload_n hx hb dX10_give_1 rfl (lv_at hl 1 rfl) ?_
  rcases xB_r hf with xq1 | ⟨q1, eq1, hf⟩
  · exact mxV (rest := []) (isR := [2]) (isC := [0, 1]) (i0 := 0) ⟨hx, hb, hml, hown, hts⟩ hK hP hD hS hA hG (c10x_needLamp l D cs hl0 o_x a_x a_t s_x s_t H.size x1 _ xq1) (cwV 1 hts (gV wd952 wd954 wd26 wd105 wd955) rfl rfl rfl (by decide +kernel) ⟨by rw [hR]; exact Nat.le_of_ble_eq_true rfl, by rw [hR]; exact Nat.le_of_ble_eq_true rfl⟩) 3 (by decide) rfl rfl rfl rfl e10 rfl rfl rfl hl.1 rfl (Nat.le_of_ble_eq_true rfl) ⟨by rw [hR]; exact Nat.le_of_ble_eq_true rfl, by rw [hR]; exact Nat.le_of_ble_eq_true rfl⟩ dX10_give_2 hno hlocks hQ
  refine mcVv (rest := []) (Bn := [w10 cs o_x a_x s_x, w9 cs (a_x 2) a_t s_t, w3 cs (a_x 3) a_h s_h]) (isR := [2]) (isC := [0, 1]) (i0 := 0) ⟨hx, hb, hml, hown, hts⟩ hK hP hD hS hA hG (c10_needLamp l D cs o_x a_x a_t s_x s_t H.size x1 _ eq1) (cwV 1 hts (gV wd952 wd954 wd26 wd105 wd955) rfl rfl rfl (by decide +kernel) ⟨by rw [hR]; exact Nat.le_of_ble_eq_true rfl, by rw [hR]; exact Nat.le_of_ble_eq_true rfl⟩) 3 (by decide) rfl rfl rfl rfl rfl rfl rfl e10 rfl rfl rfl hl.1 rfl (Nat.le_of_ble_eq_true rfl) ⟨Nat.zero_le _, Nat.zero_le _⟩ dX10_give_2 (fun H locs hP hD hS => ?_)
  refine lv_aload_n hx hb dX10_give_5 rfl (lv_at hl 0 rfl) ?_
  refine lv_iload_n hx hb dX10_give_6 rfl (lv_at hl 2 rfl) ?_
  rcases xB_r hf with xq2 | ⟨q2, eq2, hf⟩
  · exact mxV (rest := []) (isR := [2]) (isC := [0, 1]) (i0 := 0) ⟨hx, hb, hml, hown, hts⟩ hK hP hD hS hA hG (c10x_needHouse l D cs hl0 o_x a_x a_t s_x s_t H.size x2 _ xq2) (cwV 1 hts (gV wd937 wd939 wd25 wd105 wd940) rfl rfl rfl (by decide +kernel) ⟨by rw [hR]; exact Nat.le_of_ble_eq_true rfl, by rw [hR]; exact Nat.le_of_ble_eq_true rfl⟩) 3 (by decide) rfl rfl rfl rfl e10 rfl rfl rfl hl.1 rfl (Nat.le_of_ble_eq_true rfl) ⟨by rw [hR]; exact Nat.le_of_ble_eq_true rfl, by rw [hR]; exact Nat.le_of_ble_eq_true rfl⟩ dX10_give_7 hno hlocks hQ
  refine mcVv (rest := []) (Bn := [w10 cs o_x a_x s_x, w9 cs (a_x 2) a_t s_t, w3 cs (a_x 3) a_h s_h]) (isR := [2]) (isC := [0, 1]) (i0 := 0) ⟨hx, hb, hml, hown, hts⟩ hK hP hD hS hA hG (c10_needHouse l D cs o_x a_x a_t s_x s_t H.size x2 _ eq2) (cwV 1 hts (gV wd937 wd939 wd25 wd105 wd940) rfl rfl rfl (by decide +kernel) ⟨by rw [hR]; exact Nat.le_of_ble_eq_true rfl, by rw [hR]; exact Nat.le_of_ble_eq_true rfl⟩) 3 (by decide) rfl rfl rfl rfl rfl rfl rfl e10 rfl rfl rfl hl.1 rfl (Nat.le_of_ble_eq_true rfl) ⟨Nat.zero_le _, Nat.zero_le _⟩ dX10_give_7 (fun H locs hP hD hS => ?_)
  exact (wI_r hf).elim
/-! TwinLamps.isHourOfDay -/
noncomputable def f10_isHourOfDay (x0 : Int32) : Option (Bool) :=
  if x0 < 0 then some false else if (24 : Int32) ≤ x0 then some false else some true
set_option maxHeartbeats 4000000 in
set_option maxRecDepth 100000 in
theorem c10_isHourOfDay (l : Launch) (D : va_G) (cs : xE) (sz : Nat) (x0 : Int32) (res : Bool) (hf : f10_isHourOfDay x0 = some res) : Met l yX10_isHourOfDay (Cond.code yX10_isHourOfDay cX10_isHourOfDay 1 (some .boolean) :: WG) { frames := 0, cells := 0, slots := 0, locals := 0 } (va_Pc [.int x0] (mP D cs (List.flatten []) sz)) (qI D cs (zB res) (List.flatten []) (va_A (List.flatten []) sz)) 0 0 (va_A (List.flatten []) sz) := by
  refine mgo (Qc := qI D cs (zB res) (List.flatten [])) (cc := cX10_isHourOfDay) (maxL := 1) (ret := (some .boolean)) (by decide) rfl (Nat.le_of_ble_eq_true rfl) ?_
  intro p e s m below meth c ls A R Q args H hR hQ hx hb hml hr hlocks hown hts hP hK hD hA hS hG hl
  have hown : s.vm.findClass RX10 = some m.cls := hown
  have hl : lv_has ls 1 [(0, .int x0)] := hl
  have hW : ∀ w ∈ WG, w.before args s = true := fun w h => hts w (List.mem_cons_of_mem _ h)
  unfold f10_isHourOfDay at hf
  refine lv_iload_n hx hb dX10_isHourOfDay_0 rfl (lv_at hl 0 rfl) ?_
  refine lv_if_lt (tgt := 14) hx hb dX10_isHourOfDay_1 (by decide) (fun hc => ?_) (fun hc => ?_)
  · have hf := ifp hc hf
    refine lv_iconst (v := 0) hx hb dX10_isHourOfDay_14 (by decide) ?_
    obtain rfl := Option.some.inj hf
    exact mretZ hx hb hr hlocks hK hP hD hS rfl hQ dX10_isHourOfDay_15
  · have hf := ifn hc hf
    refine lv_iload_n hx hb dX10_isHourOfDay_4 rfl (lv_at hl 0 rfl) ?_
    refine lv_bipush (v := 24) hx hb dX10_isHourOfDay_5 (by decide) ?_
    refine lv_icmp_ge (tgt := 14) hx hb dX10_isHourOfDay_7 (by decide) (fun hc => ?_) (fun hc => ?_)
    · have hf := ifp hc hf
      refine lv_iconst (v := 0) hx hb dX10_isHourOfDay_14 (by decide) ?_
      obtain rfl := Option.some.inj hf
      exact mretZ hx hb hr hlocks hK hP hD hS rfl hQ dX10_isHourOfDay_15
    · have hf := ifn hc hf
      refine lv_iconst (v := 1) hx hb dX10_isHourOfDay_10 (by decide) ?_
      refine lv_goto (tgt := 15) hx hb dX10_isHourOfDay_11 (by decide) ?_
      obtain rfl := Option.some.inj hf
      exact mretZ hx hb hr hlocks hK hP hD hS rfl hQ dX10_isHourOfDay_15
/-! TwinLamps.sleep -/
noncomputable def f10_sleep (s_x : St) (s_t : St) (s_h : HSt) (x1 : Int32) (x2 : Int32) (x3 : Int32) : Option ((Int32 × St × St × HSt) ⊕ Nat) :=
  xB (f10_needHouse s_x s_t x1) fun q1 =>
  wI ((f10_isHourOfDay x2).bind fun q2 =>
  if (zB q2) = 0 then ((f10_refuse s_x (1 : Int32)).bind fun q3 =>
  some (q3.1, q3.2, s_t, s_h))
  else (f10_isHourOfDay x3).bind fun q4 =>
  if (zB q4) = 0 then ((f10_refuse s_x (1 : Int32)).bind fun q10 =>
  some (q10.1, q10.2, s_t, s_h))
  else (f3_keep s_h s_t).bind fun q5 =>
  (ldO 8 (s_t.2 6) x1).bind fun q6 =>
  (ldO 8 (s_t.2 7) x1).bind fun q7 =>
  (stS 8 s_t 6 x1 x2).bind fun s8 =>
  (stS 8 s8 7 x1 x3).bind fun s9 =>
  some (((q6 * 24) + q7), s_x, s9, q5))
set_option maxHeartbeats 4000000 in
set_option maxRecDepth 100000 in
theorem c10_sleep (l : Launch) (D : va_G) (cs : xE) (o_x : Nat) (a_x : Nat → Nat) (a_t : Nat → Nat) (a_h : Nat → Nat) (s_x : St) (s_t : St) (s_h : HSt) (sz : Nat) (x1 : Int32) (x2 : Int32) (x3 : Int32) (res : Int32 × St × St × HSt) (hf : f10_sleep s_x s_t s_h x1 x2 x3 = some (.inl res)) : Met l yX10_sleep (Cond.code yX10_sleep cX10_sleep 5 (some .int) :: WG) { frames := 7, cells := 0, slots := 0, locals := 111 } (va_Pc [.ref o_x, .int x1, .int x2, .int x3] (mP D cs (List.flatten [w10 cs o_x a_x s_x, w9 cs (a_x 2) a_t s_t, w3 cs (a_x 3) a_h s_h]) sz)) (qI D cs res.1 (List.flatten [w10 cs o_x a_x res.2.1, w9 cs (a_x 2) a_t res.2.2.1, w3 cs (a_x 3) a_h res.2.2.2]) (va_A (List.flatten [w10 cs o_x a_x s_x, w9 cs (a_x 2) a_t s_t, w3 cs (a_x 3) a_h s_h]) sz)) 0 0 (va_A (List.flatten [w10 cs o_x a_x s_x, w9 cs (a_x 2) a_t s_t, w3 cs (a_x 3) a_h s_h]) sz) := by
  refine mgo (Qc := qI D cs res.1 (List.flatten [w10 cs o_x a_x res.2.1, w9 cs (a_x 2) a_t res.2.2.1, w3 cs (a_x 3) a_h res.2.2.2])) (cc := cX10_sleep) (maxL := 5) (ret := (some .int)) (by decide) rfl (Nat.le_of_ble_eq_true rfl) ?_
  intro p e s m below meth c ls A R Q args H hR hQ hx hb hml hr hlocks hown hts hP hK hD hA hS hG hl
  have hown : s.vm.findClass RX10 = some m.cls := hown
  have hl : lv_has ls 5 [(0, .ref o_x), (1, .int x1), (2, .int x2), (3, .int x3)] := hl
  have hW : ∀ w ∈ WG, w.before args s = true := fun w h => hts w (List.mem_cons_of_mem _ h)
  have htX10 : ∀ w ∈ u_ws RX10 TX10 14, w.before args s = true := fun w h => hW w (inW_X10 w h)
  have htX9 : ∀ w ∈ u_ws RX9 TX9 11, w.before args s = true := fun w h => hW w (inW_X9 w h)
  unfold f10_sleep at hf
  refine lv_aload_n hx hb dX10_sleep_0 rfl (lv_at hl 0 rfl) ?_
  refine lv_iload_n hx hb dX10_sleep_1 rfl (lv_at hl 1 rfl) ?_
  obtain ⟨q1, eq1, hf⟩ := xB_l hf
  refine mcVv (rest := []) (Bn := [w10 cs o_x a_x s_x, w9 cs (a_x 2) a_t s_t, w3 cs (a_x 3) a_h s_h]) (isR := [2]) (isC := [0, 1]) (i0 := 0) ⟨hx, hb, hml, hown, hts⟩ hK hP hD hS hA hG (c10_needHouse l D cs o_x a_x a_t s_x s_t H.size x1 _ eq1) (cwV 1 hts (gV wd937 wd939 wd25 wd105 wd940) rfl rfl rfl (by decide +kernel) ⟨by rw [hR]; exact Nat.le_of_ble_eq_true rfl, by rw [hR]; exact Nat.le_of_ble_eq_true rfl⟩) 3 (by decide) rfl rfl rfl rfl rfl rfl rfl e10 rfl rfl rfl hl.1 rfl (Nat.le_of_ble_eq_true rfl) ⟨Nat.zero_le _, Nat.zero_le _⟩ dX10_sleep_2 (fun H locs hP hD hS => ?_)
  have hf := wI_l hf
  refine lv_iload_n hx hb dX10_sleep_5 rfl (lv_at hl 2 rfl) ?_
  obtain ⟨q2, eq2, hf⟩ := bnd hf
  refine mcSi0 (v := (zB q2)) (As := [.int x2]) (rest := []) ⟨hx, hb, hml, hown, hts⟩ hK hP hS hA hG (c10_isHourOfDay l D cs H.size x2 _ eq2) (va_cwS 1 hts (gS wd1018 wd1019 wd105 wd1020) rfl rfl rfl (by decide +kernel) ⟨by rw [hR]; exact Nat.le_of_ble_eq_true rfl, by rw [hR]; exact Nat.le_of_ble_eq_true rfl⟩) rfl hl.1 rfl (Nat.le_of_ble_eq_true rfl) ⟨Nat.zero_le _, Nat.zero_le _⟩ dX10_sleep_6 (fun H locs hP hS => ?_)
  refine lv_if_eq (tgt := 19) hx hb dX10_sleep_9 (by decide) (fun hc => ?_) (fun hc => ?_)
  · have hf := ifp hc hf
    refine lv_aload_n hx hb dX10_sleep_19 rfl (lv_at hl 0 rfl) ?_
    refine lv_iconst (v := 1) hx hb dX10_sleep_20 (by decide) ?_
    obtain ⟨q3, eq3, hf⟩ := bnd hf
    refine mcVi (v := q3.1) (rest := []) (Bn := [w10 cs o_x a_x q3.2, w9 cs (a_x 2) a_t s_t, w3 cs (a_x 3) a_h s_h]) (isR := [1, 2]) (isC := [0]) (i0 := 0) ⟨hx, hb, hml, hown, hts⟩ hK hP hD hS hA hG (c10_refuse l D cs o_x a_x s_x H.size (1 : Int32) _ eq3) (cwV 1 hts (gV wd487 wd489 wd0 wd105 wd490) rfl rfl rfl (by decide +kernel) ⟨by rw [hR]; exact Nat.le_of_ble_eq_true rfl, by rw [hR]; exact Nat.le_of_ble_eq_true rfl⟩) 3 (by decide) rfl rfl rfl rfl rfl rfl rfl e10 rfl rfl rfl hl.1 rfl (Nat.le_of_ble_eq_true rfl) ⟨Nat.zero_le _, Nat.zero_le _⟩ dX10_sleep_21 (fun H locs hP hD hS => ?_)
    obtain rfl := Option.some.inj hf
    exact mretI hx hb hr hlocks hK hP hD hS rfl hQ dX10_sleep_24
  · have hf := ifn hc hf
    refine lv_iload_n hx hb dX10_sleep_12 rfl (lv_at hl 3 rfl) ?_
    obtain ⟨q4, eq4, hf⟩ := bnd hf
    refine mcSi0 (v := (zB q4)) (As := [.int x3]) (rest := []) ⟨hx, hb, hml, hown, hts⟩ hK hP hS hA hG (c10_isHourOfDay l D cs H.size x3 _ eq4) (va_cwS 1 hts (gS wd1018 wd1019 wd105 wd1020) rfl rfl rfl (by decide +kernel) ⟨by rw [hR]; exact Nat.le_of_ble_eq_true rfl, by rw [hR]; exact Nat.le_of_ble_eq_true rfl⟩) rfl hl.1 rfl (Nat.le_of_ble_eq_true rfl) ⟨Nat.zero_le _, Nat.zero_le _⟩ dX10_sleep_13 (fun H locs hP hS => ?_)
    refine lv_if_ne (tgt := 25) hx hb dX10_sleep_16 (by decide) (fun hc => ?_) (fun hc => ?_)
    · have hf := ifn hc hf
      refine lv_aload_n hx hb dX10_sleep_25 rfl (lv_at hl 0 rfl) ?_
      refine gfB (i0 := 0) (own := RX10) (T := TX10) (k := 3) (v := .ref (a_x 3)) hx hb htX10 hown hK hP rfl e10 rfl (by decide) (hW _ wd431) rfl dX10_sleep_26 ?_
      refine lv_aload_n hx hb dX10_sleep_29 rfl (lv_at hl 0 rfl) ?_
      refine gfB (i0 := 0) (own := RX10) (T := TX10) (k := 2) (v := .ref (a_x 2)) hx hb htX10 hown hK hP rfl e10 rfl (by decide) (hW _ wd430) rfl dX10_sleep_30 ?_
      obtain ⟨q5, eq5, hf⟩ := bnd hf
      refine mcVv (rest := []) (Bn := [w10 cs o_x a_x s_x, w9 cs (a_x 2) a_t s_t, w3 cs (a_x 3) a_h q5]) (isR := [0]) (isC := [2, 1]) (i0 := 2) ⟨hx, hb, hml, hown, hts⟩ hK hP hD hS hA hG (c3_keep l D cs (a_x 3) a_h (a_x 2) a_t s_h s_t H.size _ eq5) (cwV 1 hts (gV wd491 wd492 wd493 wd109 wd494) rfl rfl rfl (by decide +kernel) ⟨by rw [hR]; exact Nat.le_of_ble_eq_true rfl, by rw [hR]; exact Nat.le_of_ble_eq_true rfl⟩) 3 (by decide) rfl rfl rfl rfl rfl rfl rfl e3 rfl rfl rfl hl.1 rfl (Nat.le_of_ble_eq_true rfl) ⟨Nat.zero_le _, Nat.zero_le _⟩ dX10_sleep_33 (fun H locs hP hD hS => ?_)
      refine lv_aload_n hx hb dX10_sleep_36 rfl (lv_at hl 0 rfl) ?_
      refine gfB (i0 := 0) (own := RX10) (T := TX10) (k := 2) (v := .ref (a_x 2)) hx hb htX10 hown hK hP rfl e10 rfl (by decide) (hW _ wd430) rfl dX10_sleep_37 ?_
      refine gfB (i0 := 1) (own := RX10) (T := TX9) (k := 6) (v := .ref (a_t 6)) hx hb htX9 hown hK hP rfl e9 rfl (by decide) (hW _ wd169) rfl dX10_sleep_40 ?_
      refine lv_iload_n hx hb dX10_sleep_43 rfl (lv_at hl 1 rfl) ?_
      obtain ⟨q6, eq6, hf⟩ := bnd hf
      obtain ⟨gq6, eq6⟩ := ldO_e eq6
      refine aldB (i0 := 1) hx hb hK hP rfl a9_6 gq6 dX10_sleep_44 ?_
      refine lv_nm eq6 ?_
      refine lv_bipush (v := 24) hx hb dX10_sleep_45 (by decide) ?_
      refine lv_imul hx hb dX10_sleep_47 ?_
      refine lv_aload_n hx hb dX10_sleep_48 rfl (lv_at hl 0 rfl) ?_
      refine gfB (i0 := 0) (own := RX10) (T := TX10) (k := 2) (v := .ref (a_x 2)) hx hb htX10 hown hK hP rfl e10 rfl (by decide) (hW _ wd430) rfl dX10_sleep_49 ?_
      refine gfB (i0 := 1) (own := RX10) (T := TX9) (k := 7) (v := .ref (a_t 7)) hx hb htX9 hown hK hP rfl e9 rfl (by decide) (hW _ wd171) rfl dX10_sleep_52 ?_
      refine lv_iload_n hx hb dX10_sleep_55 rfl (lv_at hl 1 rfl) ?_
      obtain ⟨q7, eq7, hf⟩ := bnd hf
      obtain ⟨gq7, eq7⟩ := ldO_e eq7
      refine aldB (i0 := 1) hx hb hK hP rfl a9_7 gq7 dX10_sleep_56 ?_
      refine lv_nm eq7 ?_
      refine lv_iadd hx hb dX10_sleep_57 ?_
      refine lv_istore (lv' := [(4, .int ((q6 * 24) + q7)), (0, .ref o_x), (1, .int x1), (2, .int x2), (3, .int x3)]) hx hb dX10_sleep_58 hl (by decide) rfl (fun ls hl => ?_)
      refine lv_aload_n hx hb dX10_sleep_60 rfl (lv_at hl 1 rfl) ?_
      refine gfB (i0 := 0) (own := RX10) (T := TX10) (k := 2) (v := .ref (a_x 2)) hx hb htX10 hown hK hP rfl e10 rfl (by decide) (hW _ wd430) rfl dX10_sleep_61 ?_
      refine gfB (i0 := 1) (own := RX10) (T := TX9) (k := 6) (v := .ref (a_t 6)) hx hb htX9 hown hK hP rfl e9 rfl (by decide) (hW _ wd169) rfl dX10_sleep_64 ?_
      refine lv_iload_n hx hb dX10_sleep_67 rfl (lv_at hl 2 rfl) ?_
      refine lv_iload_n hx hb dX10_sleep_68 rfl (lv_at hl 3 rfl) ?_
      obtain ⟨s8, es8, hf⟩ := bnd hf
      obtain ⟨gs8, es8⟩ := stS_e es8
      refine astB (i0 := 1) (Bn := [w10 cs o_x a_x s_x, w9 cs (a_x 2) a_t s8, w3 cs (a_x 3) a_h q5]) hx hb hK hP hD hS rfl a9_6 gs8 rfl dX10_sleep_69 (by rw [← es8]; exact v9_6) rfl (fun H locs hP hD hS => ?_)
      refine lv_aload_n hx hb dX10_sleep_70 rfl (lv_at hl 1 rfl) ?_
      refine gfB (i0 := 0) (own := RX10) (T := TX10) (k := 2) (v := .ref (a_x 2)) hx hb htX10 hown hK hP rfl e10 rfl (by decide) (hW _ wd430) rfl dX10_sleep_71 ?_
      refine gfB (i0 := 1) (own := RX10) (T := TX9) (k := 7) (v := .ref (a_t 7)) hx hb htX9 hown hK hP rfl e9 rfl (by decide) (hW _ wd171) rfl dX10_sleep_74 ?_
      refine lv_iload_n hx hb dX10_sleep_77 rfl (lv_at hl 2 rfl) ?_
      refine lv_iload_n hx hb dX10_sleep_78 rfl (lv_at hl 4 rfl) ?_
      obtain ⟨s9, es9, hf⟩ := bnd hf
      obtain ⟨gs9, es9⟩ := stS_e es9
      refine astB (i0 := 1) (Bn := [w10 cs o_x a_x s_x, w9 cs (a_x 2) a_t s9, w3 cs (a_x 3) a_h q5]) hx hb hK hP hD hS rfl a9_7 gs9 rfl dX10_sleep_79 (by rw [← es9]; exact v9_7) rfl (fun H locs hP hD hS => ?_)
      refine lv_iload hx hb dX10_sleep_80 (lv_at hl 0 rfl) ?_
      obtain rfl := Option.some.inj hf
      exact mretI hx hb hr hlocks hK hP hD hS rfl hQ dX10_sleep_82
    · have hf := ifp hc hf
      refine lv_aload_n hx hb dX10_sleep_19 rfl (lv_at hl 0 rfl) ?_
      refine lv_iconst (v := 1) hx hb dX10_sleep_20 (by decide) ?_
      obtain ⟨q10, eq10, hf⟩ := bnd hf
      refine mcVi (v := q10.1) (rest := []) (Bn := [w10 cs o_x a_x q10.2, w9 cs (a_x 2) a_t s_t, w3 cs (a_x 3) a_h s_h]) (isR := [1, 2]) (isC := [0]) (i0 := 0) ⟨hx, hb, hml, hown, hts⟩ hK hP hD hS hA hG (c10_refuse l D cs o_x a_x s_x H.size (1 : Int32) _ eq10) (cwV 1 hts (gV wd487 wd489 wd0 wd105 wd490) rfl rfl rfl (by decide +kernel) ⟨by rw [hR]; exact Nat.le_of_ble_eq_true rfl, by rw [hR]; exact Nat.le_of_ble_eq_true rfl⟩) 3 (by decide) rfl rfl rfl rfl rfl rfl rfl e10 rfl rfl rfl hl.1 rfl (Nat.le_of_ble_eq_true rfl) ⟨Nat.zero_le _, Nat.zero_le _⟩ dX10_sleep_21 (fun H locs hP hD hS => ?_)
      obtain rfl := Option.some.inj hf
      exact mretI hx hb hr hlocks hK hP hD hS rfl hQ dX10_sleep_24
set_option maxHeartbeats 4000000 in
set_option maxRecDepth 100000 in
theorem c10x_sleep (l : Launch) (D : va_G) (cs : xE) (hl0 : l.stackTraces = false) (o_x : Nat) (a_x : Nat → Nat) (a_t : Nat → Nat) (a_h : Nat → Nat) (s_x : St) (s_t : St) (s_h : HSt) (sz : Nat) (x1 : Int32) (x2 : Int32) (x3 : Int32) (k : Nat) (hf : f10_sleep s_x s_t s_h x1 x2 x3 = some (.inr k)) : vx_Met l yX10_sleep (Cond.code yX10_sleep cX10_sleep 5 (some .int) :: WG) { frames := 7, cells := 1, slots := 6, locals := 111 } (va_Pc [.ref o_x, .int x1, .int x2, .int x3] (mP D cs (List.flatten [w10 cs o_x a_x s_x, w9 cs (a_x 2) a_t s_t, w3 cs (a_x 3) a_h s_h]) sz)) (fun _ _ _ _ => False) (qX D cs k (List.flatten [w10 cs o_x a_x s_x, w9 cs (a_x 2) a_t s_t, w3 cs (a_x 3) a_h s_h]) (va_A (List.flatten [w10 cs o_x a_x s_x, w9 cs (a_x 2) a_t s_t, w3 cs (a_x 3) a_h s_h]) sz)) 1 6 (va_A (List.flatten [w10 cs o_x a_x s_x, w9 cs (a_x 2) a_t s_t, w3 cs (a_x 3) a_h s_h]) sz) := by
  refine mgoX (cc := cX10_sleep) (maxL := 5) (ret := (some .int)) (by decide) rfl (Nat.le_of_ble_eq_true rfl) ?_
  intro p e s m below meth c ls A R Q args H hR hQ hno hx hb hml hr hlocks hown hts hP hK hD hA hS hG hl
  have hown : s.vm.findClass RX10 = some m.cls := hown
  have hl : lv_has ls 5 [(0, .ref o_x), (1, .int x1), (2, .int x2), (3, .int x3)] := hl
  have hW : ∀ w ∈ WG, w.before args s = true := fun w h => hts w (List.mem_cons_of_mem _ h)
  have htX10 : ∀ w ∈ u_ws RX10 TX10 14, w.before args s = true := fun w h => hW w (inW_X10 w h)
  have htX9 : ∀ w ∈ u_ws RX9 TX9 11, w.before args s = true := fun w h => hW w (inW_X9 w h)
  unfold f10_sleep at hf
  refine lv_aload_n hx hb dX10_sleep_0 rfl (lv_at hl 0 rfl) ?_
  refine lv_iload_n hx hb dX10_sleep_1 rfl (lv_at hl 1 rfl) ?_
  rcases xB_r hf with xq1 | ⟨q1, eq1, hf⟩
  · exact mxV (rest := []) (isR := [2]) (isC := [0, 1]) (i0 := 0) ⟨hx, hb, hml, hown, hts⟩ hK hP hD hS hA hG (c10x_needHouse l D cs hl0 o_x a_x a_t s_x s_t H.size x1 _ xq1) (cwV 1 hts (gV wd937 wd939 wd25 wd105 wd940) rfl rfl rfl (by decide +kernel) ⟨by rw [hR]; exact Nat.le_of_ble_eq_true rfl, by rw [hR]; exact Nat.le_of_ble_eq_true rfl⟩) 3 (by decide) rfl rfl rfl rfl e10 rfl rfl rfl hl.1 rfl (Nat.le_of_ble_eq_true rfl) ⟨by rw [hR]; exact Nat.le_of_ble_eq_true rfl, by rw [hR]; exact Nat.le_of_ble_eq_true rfl⟩ dX10_sleep_2 hno hlocks hQ
  refine mcVv (rest := []) (Bn := [w10 cs o_x a_x s_x, w9 cs (a_x 2) a_t s_t, w3 cs (a_x 3) a_h s_h]) (isR := [2]) (isC := [0, 1]) (i0 := 0) ⟨hx, hb, hml, hown, hts⟩ hK hP hD hS hA hG (c10_needHouse l D cs o_x a_x a_t s_x s_t H.size x1 _ eq1) (cwV 1 hts (gV wd937 wd939 wd25 wd105 wd940) rfl rfl rfl (by decide +kernel) ⟨by rw [hR]; exact Nat.le_of_ble_eq_true rfl, by rw [hR]; exact Nat.le_of_ble_eq_true rfl⟩) 3 (by decide) rfl rfl rfl rfl rfl rfl rfl e10 rfl rfl rfl hl.1 rfl (Nat.le_of_ble_eq_true rfl) ⟨Nat.zero_le _, Nat.zero_le _⟩ dX10_sleep_2 (fun H locs hP hD hS => ?_)
  exact (wI_r hf).elim
/-! TwinLamps.undo -/
noncomputable def f10_undo (s_x : St) (s_t : St) (s_h : HSt) : Option (Int32 × St × HSt) :=
  if (s_h.1 0) = 0 then some ((-1), s_t, s_h) else (f3_takeBack s_h s_t).bind fun q1 =>
  some ((q1.1.1 0), q1.2, q1.1)
set_option maxHeartbeats 4000000 in
set_option maxRecDepth 100000 in
theorem c10_undo (l : Launch) (D : va_G) (cs : xE) (o_x : Nat) (a_x : Nat → Nat) (a_t : Nat → Nat) (a_h : Nat → Nat) (s_x : St) (s_t : St) (s_h : HSt) (sz : Nat) (res : Int32 × St × HSt) (hf : f10_undo s_x s_t s_h = some res) : Met l yX10_undo (Cond.code yX10_undo cX10_undo 1 (some .int) :: WG) { frames := 3, cells := 0, slots := 0, locals := 68 } (va_Pc [.ref o_x] (mP D cs (List.flatten [w10 cs o_x a_x s_x, w9 cs (a_x 2) a_t s_t, w3 cs (a_x 3) a_h s_h]) sz)) (qI D cs res.1 (List.flatten [w10 cs o_x a_x s_x, w9 cs (a_x 2) a_t res.2.1, w3 cs (a_x 3) a_h res.2.2]) (va_A (List.flatten [w10 cs o_x a_x s_x, w9 cs (a_x 2) a_t s_t, w3 cs (a_x 3) a_h s_h]) sz)) 0 0 (va_A (List.flatten [w10 cs o_x a_x s_x, w9 cs (a_x 2) a_t s_t, w3 cs (a_x 3) a_h s_h]) sz) := by
  refine mgo (Qc := qI D cs res.1 (List.flatten [w10 cs o_x a_x s_x, w9 cs (a_x 2) a_t res.2.1, w3 cs (a_x 3) a_h res.2.2])) (cc := cX10_undo) (maxL := 1) (ret := (some .int)) (by decide) rfl (Nat.le_of_ble_eq_true rfl) ?_
  intro p e s m below meth c ls A R Q args H hR hQ hx hb hml hr hlocks hown hts hP hK hD hA hS hG hl
  have hown : s.vm.findClass RX10 = some m.cls := hown
  have hl : lv_has ls 1 [(0, .ref o_x)] := hl
  have hW : ∀ w ∈ WG, w.before args s = true := fun w h => hts w (List.mem_cons_of_mem _ h)
  have htX10 : ∀ w ∈ u_ws RX10 TX10 14, w.before args s = true := fun w h => hW w (inW_X10 w h)
  have htX3 : ∀ w ∈ u_ws RX3 TX3 2, w.before args s = true := fun w h => hW w (inW_X3 w h)
  unfold f10_undo at hf
  refine lv_aload_n hx hb dX10_undo_0 rfl (lv_at hl 0 rfl) ?_
  refine gfB (i0 := 0) (own := RX10) (T := TX10) (k := 3) (v := .ref (a_x 3)) hx hb htX10 hown hK hP rfl e10 rfl (by decide) (hW _ wd431) rfl dX10_undo_1 ?_
  refine gfB (i0 := 2) (own := RX10) (T := TX3) (k := 0) (v := .int (s_h.1 0)) hx hb htX3 hown hK hP rfl e3 rfl (by decide) (hW _ wd282) rfl dX10_undo_4 ?_
  refine lv_if_ne (tgt := 12) hx hb dX10_undo_7 (by decide) (fun hc => ?_) (fun hc => ?_)
  · have hf := ifn hc hf
    refine lv_aload_n hx hb dX10_undo_12 rfl (lv_at hl 0 rfl) ?_
    refine gfB (i0 := 0) (own := RX10) (T := TX10) (k := 3) (v := .ref (a_x 3)) hx hb htX10 hown hK hP rfl e10 rfl (by decide) (hW _ wd431) rfl dX10_undo_13 ?_
    refine lv_aload_n hx hb dX10_undo_16 rfl (lv_at hl 0 rfl) ?_
    refine gfB (i0 := 0) (own := RX10) (T := TX10) (k := 2) (v := .ref (a_x 2)) hx hb htX10 hown hK hP rfl e10 rfl (by decide) (hW _ wd430) rfl dX10_undo_17 ?_
    obtain ⟨q1, eq1, hf⟩ := bnd hf
    refine mcVv (rest := []) (Bn := [w10 cs o_x a_x s_x, w9 cs (a_x 2) a_t q1.2, w3 cs (a_x 3) a_h q1.1]) (isR := [0]) (isC := [2, 1]) (i0 := 2) ⟨hx, hb, hml, hown, hts⟩ hK hP hD hS hA hG (c3_takeBack l D cs (a_x 3) a_h (a_x 2) a_t s_h s_t H.size _ eq1) (cwV 1 hts (gV wd583 wd584 wd585 wd109 wd586) rfl rfl rfl (by decide +kernel) ⟨by rw [hR]; exact Nat.le_of_ble_eq_true rfl, by rw [hR]; exact Nat.le_of_ble_eq_true rfl⟩) 3 (by decide) rfl rfl rfl rfl rfl rfl rfl e3 rfl rfl rfl hl.1 rfl (Nat.le_of_ble_eq_true rfl) ⟨Nat.zero_le _, Nat.zero_le _⟩ dX10_undo_20 (fun H locs hP hD hS => ?_)
    refine lv_aload_n hx hb dX10_undo_23 rfl (lv_at hl 0 rfl) ?_
    refine gfB (i0 := 0) (own := RX10) (T := TX10) (k := 3) (v := .ref (a_x 3)) hx hb htX10 hown hK hP rfl e10 rfl (by decide) (hW _ wd431) rfl dX10_undo_24 ?_
    refine gfB (i0 := 2) (own := RX10) (T := TX3) (k := 0) (v := .int (q1.1.1 0)) hx hb htX3 hown hK hP rfl e3 rfl (by decide) (hW _ wd282) rfl dX10_undo_27 ?_
    obtain rfl := Option.some.inj hf
    exact mretI hx hb hr hlocks hK hP hD hS rfl hQ dX10_undo_30
  · have hf := ifp hc hf
    refine lv_iconst (v := (-1)) hx hb dX10_undo_10 (by decide) ?_
    obtain rfl := Option.some.inj hf
    exact mretI hx hb hr hlocks hK hP hD hS rfl hQ dX10_undo_11
/-! TwinLamps.then -/
noncomputable def f10_then_L2 (x1 : Int32) (v3 : Int32 × St × St × St) : Option ((Int32 × St × St × St) ⊕ (St × St × St)) :=
  if x1 ≤ v3.1 then some (.inr (v3.2.1, v3.2.2.1, v3.2.2.2)) else (f2_passHour v3.2.2.1 v3.2.2.2 v3.2.1).bind fun q4 =>
  some (.inl ((v3.1 + 1), q4.2.2, q4.1, q4.2.1))
noncomputable def f10_then (s_x : St) (s_t : St) (s_t2 : St) (s_e : St) (s_g : St) (x1 : Int32) : Option ((Int32 × St × St × St) ⊕ Nat) :=
  if x1 < 1 then (some (.inr 0))
  else if x1 ≤ 96 then (wI ((f9_copyFrom s_t2 s_t).bind fun q1 =>
  (lpw (f10_then_L2 x1) (0, q1, s_e, s_g)).bind fun q2 =>
  some ((q2.2.1.1 0), q2.1, q2.2.1, q2.2.2)))
  else some (.inr 0)
set_option maxHeartbeats 4000000 in
set_option maxRecDepth 100000 in
theorem c10_then (l : Launch) (D : va_G) (cs : xE) (o_x : Nat) (a_x : Nat → Nat) (a_t : Nat → Nat) (a_t2 : Nat → Nat) (a_g : Nat → Nat) (s_x : St) (s_t : St) (s_t2 : St) (s_e : St) (s_g : St) (sz : Nat) (x1 : Int32) (res : Int32 × St × St × St) (hf : f10_then s_x s_t s_t2 s_e s_g x1 = some (.inl res)) : Met l yX10_then (Cond.code yX10_then cX10_then 3 (some .int) :: WG) { frames := 6, cells := 0, slots := 0, locals := 92 } (va_Pc [.ref o_x, .int x1] (mP D cs (List.flatten [w10 cs o_x a_x s_x, w9 cs (a_x 2) a_t s_t, w9 cs (a_x 9) a_t2 s_t2, w2 cs (a_x 8) a0n s_e, w7 cs (a_x 1) a_g s_g]) sz)) (qI D cs res.1 (List.flatten [w10 cs o_x a_x s_x, w9 cs (a_x 2) a_t s_t, w9 cs (a_x 9) a_t2 res.2.1, w2 cs (a_x 8) a0n res.2.2.1, w7 cs (a_x 1) a_g res.2.2.2]) (va_A (List.flatten [w10 cs o_x a_x s_x, w9 cs (a_x 2) a_t s_t, w9 cs (a_x 9) a_t2 s_t2, w2 cs (a_x 8) a0n s_e, w7 cs (a_x 1) a_g s_g]) sz)) 0 0 (va_A (List.flatten [w10 cs o_x a_x s_x, w9 cs (a_x 2) a_t s_t, w9 cs (a_x 9) a_t2 s_t2, w2 cs (a_x 8) a0n s_e, w7 cs (a_x 1) a_g s_g]) sz) := by
  refine mgo (Qc := qI D cs res.1 (List.flatten [w10 cs o_x a_x s_x, w9 cs (a_x 2) a_t s_t, w9 cs (a_x 9) a_t2 res.2.1, w2 cs (a_x 8) a0n res.2.2.1, w7 cs (a_x 1) a_g res.2.2.2])) (cc := cX10_then) (maxL := 3) (ret := (some .int)) (by decide) rfl (Nat.le_of_ble_eq_true rfl) ?_
  intro p e s m below meth c ls A R Q args H hR hQ hx hb hml hr hlocks hown hts hP hK hD hA hS hG hl
  have hown : s.vm.findClass RX10 = some m.cls := hown
  have hl : lv_has ls 3 [(0, .ref o_x), (1, .int x1)] := hl
  have hW : ∀ w ∈ WG, w.before args s = true := fun w h => hts w (List.mem_cons_of_mem _ h)
  have htX10 : ∀ w ∈ u_ws RX10 TX10 14, w.before args s = true := fun w h => hW w (inW_X10 w h)
  have htX2 : ∀ w ∈ u_ws RX2 TX2 5, w.before args s = true := fun w h => hW w (inW_X2 w h)
  unfold f10_then at hf
  refine lv_iload_n hx hb dX10_then_0 rfl (lv_at hl 1 rfl) ?_
  refine lv_iconst (v := 1) hx hb dX10_then_1 (by decide) ?_
  refine lv_icmp_lt (tgt := 11) hx hb dX10_then_2 (by decide) (fun hc => ?_) (fun hc => ?_)
  · have hf := ifp hc hf
    cases hf
  · have hf := ifn hc hf
    refine lv_iload_n hx hb dX10_then_5 rfl (lv_at hl 1 rfl) ?_
    refine lv_bipush (v := 96) hx hb dX10_then_6 (by decide) ?_
    refine lv_icmp_le (tgt := 22) hx hb dX10_then_8 (by decide) (fun hc => ?_) (fun hc => ?_)
    · have hf := ifp hc hf
      have hf := wI_l hf
      refine lv_aload_n hx hb dX10_then_22 rfl (lv_at hl 0 rfl) ?_
      refine gfB (i0 := 0) (own := RX10) (T := TX10) (k := 9) (v := .ref (a_x 9)) hx hb htX10 hown hK hP rfl e10 rfl (by decide) (hW _ wd437) rfl dX10_then_23 ?_
      refine lv_aload_n hx hb dX10_then_26 rfl (lv_at hl 0 rfl) ?_
      refine gfB (i0 := 0) (own := RX10) (T := TX10) (k := 2) (v := .ref (a_x 2)) hx hb htX10 hown hK hP rfl e10 rfl (by decide) (hW _ wd430) rfl dX10_then_27 ?_
      obtain ⟨q1, eq1, hf⟩ := bnd hf
      refine mcVv (rest := []) (Bn := [w10 cs o_x a_x s_x, w9 cs (a_x 2) a_t s_t, w9 cs (a_x 9) a_t2 q1, w2 cs (a_x 8) a0n s_e, w7 cs (a_x 1) a_g s_g]) (isR := [0, 3, 4]) (isC := [2, 1]) (i0 := 2) ⟨hx, hb, hml, hown, hts⟩ hK hP hD hS hA hG (c9_copyFrom l D cs (a_x 9) a_t2 (a_x 2) a_t s_t2 s_t H.size _ eq1) (cwV 1 hts (gV wd599 wd500 wd501 wd107 wd502) rfl rfl rfl (by decide +kernel) ⟨by rw [hR]; exact Nat.le_of_ble_eq_true rfl, by rw [hR]; exact Nat.le_of_ble_eq_true rfl⟩) 5 (by decide) rfl rfl rfl rfl rfl rfl rfl e9 rfl rfl rfl hl.1 rfl (Nat.le_of_ble_eq_true rfl) ⟨Nat.zero_le _, Nat.zero_le _⟩ dX10_then_30 (fun H locs hP hD hS => ?_)
      refine lv_iconst (v := 0) hx hb dX10_then_33 (by decide) ?_
      refine lv_istore_n (lv' := [(2, .int 0), (0, .ref o_x), (1, .int x1)]) hx hb dX10_then_34 rfl hl (by decide) rfl (fun ls hl => ?_)
      obtain ⟨q2, hq2, hf⟩ := bnd hf
      obtain ⟨n2, hq2⟩ := lpw_ex hq2
      have Jq2_0 : ∀ rr2_0 : St × St × St, q2 = rr2_0 → ∀ (H : Heap) (locs : List Loc) (ls : Array Slot), va_P D vwCl (List.flatten [w10 cs o_x a_x s_x, w9 cs (a_x 2) a_t s_t, w9 cs (a_x 9) a_t2 rr2_0.1, w2 cs (a_x 8) a0n rr2_0.2.1, w7 cs (a_x 1) a_g rr2_0.2.2]) H → va_D A (List.flatten [w10 cs o_x a_x s_x, w9 cs (a_x 2) a_t s_t, w9 cs (a_x 9) a_t2 rr2_0.1, w2 cs (a_x 8) a0n rr2_0.2.1, w7 cs (a_x 1) a_g rr2_0.2.2]) → va_S A s.heap H locs → lv_has ls 3 [(0, .ref o_x)] → W p l e R s m args below meth c H locs 0 0 Q (F0 m 61 ls []) := by
        intro rr2_0 eq2 H locs ls hP hD hS hl
        subst eq2
        refine lv_aload_n hx hb dX10_then_61 rfl (lv_at hl 0 rfl) ?_
        refine gfB (i0 := 0) (own := RX10) (T := TX10) (k := 8) (v := .ref (a_x 8)) hx hb htX10 hown hK hP rfl e10 rfl (by decide) (hW _ wd436) rfl dX10_then_62 ?_
        refine gfB (i0 := 3) (own := RX10) (T := TX2) (k := 0) (v := .int (q2.2.1.1 0)) hx hb htX2 hown hK hP rfl e2 rfl (by decide) (hW _ wd348) rfl dX10_then_65 ?_
        obtain rfl := Option.some.inj hf
        exact mretI hx hb hr hlocks hK hP hD hS rfl hQ dX10_then_68
      clear hf
      have L2 : ∀ n2, ∀ v3 : Int32 × St × St × St, lp n2 (f10_then_L2 x1) v3 = some q2 → ∀ (H : Heap) (locs : List Loc) (ls : Array Slot), va_P D vwCl (List.flatten [w10 cs o_x a_x s_x, w9 cs (a_x 2) a_t s_t, w9 cs (a_x 9) a_t2 v3.2.1, w2 cs (a_x 8) a0n v3.2.2.1, w7 cs (a_x 1) a_g v3.2.2.2]) H → va_D A (List.flatten [w10 cs o_x a_x s_x, w9 cs (a_x 2) a_t s_t, w9 cs (a_x 9) a_t2 v3.2.1, w2 cs (a_x 8) a0n v3.2.2.1, w7 cs (a_x 1) a_g v3.2.2.2]) → va_S A s.heap H locs → lv_has ls 3 [(0, .ref o_x), (1, .int x1), (2, .int v3.1)] → W p l e R s m args below meth c H locs 0 0 Q (F0 m 35 ls []) := by
        intro n2
        induction n2 with
        | zero => intro v3 hn; cases hn
        | succ n2 ih2 =>
          intro v3 hn2 H locs ls hP hD hS hl
          obtain ⟨y2, hf, hn2⟩ := lp_succ hn2
          unfold f10_then_L2 at hf
          refine lv_iload_n hx hb dX10_then_35 rfl (lv_at hl 2 rfl) ?_
          refine lv_iload_n hx hb dX10_then_36 rfl (lv_at hl 1 rfl) ?_
          refine lv_icmp_ge (tgt := 61) hx hb dX10_then_37 (by decide) (fun hc => ?_) (fun hc => ?_)
          · have hf := ifp hc hf
            cases hf
            exact Jq2_0 _ (Option.some.inj hn2).symm _ _ _ hP hD hS (lv_sub hl [0] rfl)
          · have hf := ifn hc hf
            refine lv_aload_n hx hb dX10_then_40 rfl (lv_at hl 0 rfl) ?_
            refine gfB (i0 := 0) (own := RX10) (T := TX10) (k := 8) (v := .ref (a_x 8)) hx hb htX10 hown hK hP rfl e10 rfl (by decide) (hW _ wd436) rfl dX10_then_41 ?_
            refine lv_aload_n hx hb dX10_then_44 rfl (lv_at hl 0 rfl) ?_
            refine gfB (i0 := 0) (own := RX10) (T := TX10) (k := 1) (v := .ref (a_x 1)) hx hb htX10 hown hK hP rfl e10 rfl (by decide) (hW _ wd429) rfl dX10_then_45 ?_
            refine lv_aload_n hx hb dX10_then_48 rfl (lv_at hl 0 rfl) ?_
            refine gfB (i0 := 0) (own := RX10) (T := TX10) (k := 9) (v := .ref (a_x 9)) hx hb htX10 hown hK hP rfl e10 rfl (by decide) (hW _ wd437) rfl dX10_then_49 ?_
            obtain ⟨q4, eq4, hf⟩ := bnd hf
            refine mcVv (rest := []) (Bn := [w10 cs o_x a_x s_x, w9 cs (a_x 2) a_t s_t, w9 cs (a_x 9) a_t2 q4.2.2, w2 cs (a_x 8) a0n q4.1, w7 cs (a_x 1) a_g q4.2.1]) (isR := [0, 1]) (isC := [3, 4, 2]) (i0 := 3) ⟨hx, hb, hml, hown, hts⟩ hK hP hD hS hA hG (c2_passHour l D cs (a_x 8) (a_x 1) a_g (a_x 9) a_t2 v3.2.2.1 v3.2.2.2 v3.2.1 H.size _ eq4) (cwV 2 hts (gV wd506 wd507 wd508 wd112 wd509) rfl rfl rfl (by decide +kernel) ⟨by rw [hR]; exact Nat.le_of_ble_eq_true rfl, by rw [hR]; exact Nat.le_of_ble_eq_true rfl⟩) 5 (by decide) rfl rfl rfl rfl rfl rfl rfl e2 rfl rfl rfl hl.1 rfl (Nat.le_of_ble_eq_true rfl) ⟨Nat.zero_le _, Nat.zero_le _⟩ dX10_then_52 (fun H locs hP hD hS => ?_)
            refine lv_iinc (v := (v3.1 + 1)) (lv' := [(2, .int (v3.1 + 1)), (0, .ref o_x), (1, .int x1)]) hx hb dX10_then_55 hl (k := 2) rfl rfl (by decide) rfl (fun ls hl => ?_)
            refine lv_goto (tgt := 35) hx hb dX10_then_58 (by decide) ?_
            cases hf
            exact ih2 _ hn2 _ _ _ hP hD hS (lv_sub hl [1, 2, 0] rfl)
      exact L2 _ _ hq2 _ _ _ hP hD hS (lv_sub hl [1, 2, 0] rfl)
    · have hf := ifn hc hf
      cases hf
set_option maxHeartbeats 4000000 in
set_option maxRecDepth 100000 in
theorem c10x_then (l : Launch) (D : va_G) (cs : xE) (hl0 : l.stackTraces = false) (o_x : Nat) (a_x : Nat → Nat) (a_t : Nat → Nat) (a_t2 : Nat → Nat) (a_g : Nat → Nat) (s_x : St) (s_t : St) (s_t2 : St) (s_e : St) (s_g : St) (sz : Nat) (x1 : Int32) (k : Nat) (hf : f10_then s_x s_t s_t2 s_e s_g x1 = some (.inr k)) : vx_Met l yX10_then (Cond.code yX10_then cX10_then 3 (some .int) :: WG) { frames := 6, cells := 1, slots := 6, locals := 92 } (va_Pc [.ref o_x, .int x1] (mP D cs (List.flatten [w10 cs o_x a_x s_x, w9 cs (a_x 2) a_t s_t, w9 cs (a_x 9) a_t2 s_t2, w2 cs (a_x 8) a0n s_e, w7 cs (a_x 1) a_g s_g]) sz)) (fun _ _ _ _ => False) (qX D cs k (List.flatten [w10 cs o_x a_x s_x, w9 cs (a_x 2) a_t s_t, w9 cs (a_x 9) a_t2 s_t2, w2 cs (a_x 8) a0n s_e, w7 cs (a_x 1) a_g s_g]) (va_A (List.flatten [w10 cs o_x a_x s_x, w9 cs (a_x 2) a_t s_t, w9 cs (a_x 9) a_t2 s_t2, w2 cs (a_x 8) a0n s_e, w7 cs (a_x 1) a_g s_g]) sz)) 1 6 (va_A (List.flatten [w10 cs o_x a_x s_x, w9 cs (a_x 2) a_t s_t, w9 cs (a_x 9) a_t2 s_t2, w2 cs (a_x 8) a0n s_e, w7 cs (a_x 1) a_g s_g]) sz) := by
  refine mgoX (cc := cX10_then) (maxL := 3) (ret := (some .int)) (by decide) rfl (Nat.le_of_ble_eq_true rfl) ?_
  intro p e s m below meth c ls A R Q args H hR hQ hno hx hb hml hr hlocks hown hts hP hK hD hA hS hG hl
  have hown : s.vm.findClass RX10 = some m.cls := hown
  have hl : lv_has ls 3 [(0, .ref o_x), (1, .int x1)] := hl
  have hW : ∀ w ∈ WG, w.before args s = true := fun w h => hts w (List.mem_cons_of_mem _ h)
  have htX10 : ∀ w ∈ u_ws RX10 TX10 14, w.before args s = true := fun w h => hW w (inW_X10 w h)
  have htX2 : ∀ w ∈ u_ws RX2 TX2 5, w.before args s = true := fun w h => hW w (inW_X2 w h)
  unfold f10_then at hf
  refine lv_iload_n hx hb dX10_then_0 rfl (lv_at hl 1 rfl) ?_
  refine lv_iconst (v := 1) hx hb dX10_then_1 (by decide) ?_
  refine lv_icmp_lt (tgt := 11) hx hb dX10_then_2 (by decide) (fun hc => ?_) (fun hc => ?_)
  · have hf := ifp hc hf
    obtain rfl := Sum.inr.inj (Option.some.inj hf)
    exact thIW (text := "hours are 1 to 96") hx hb hl0 (hl.1.trans hml.symm) hlocks hno hown hW hG hK hP hD hS (hG.1 ("TwinLamps", 257, "hours are 1 to 96", 20) (by decide +kernel)) dX10_then_11 dX10_then_14 dX10_then_15 dX10_then_18 dX10_then_21 (by rw [hR]; exact Nat.le_of_ble_eq_true rfl) (by rw [hR]; exact Nat.le_of_ble_eq_true rfl) (by rw [hR]; exact Nat.le_of_ble_eq_true rfl) (by rw [hR]; exact Nat.le_of_ble_eq_true rfl) hQ
  · have hf := ifn hc hf
    refine lv_iload_n hx hb dX10_then_5 rfl (lv_at hl 1 rfl) ?_
    refine lv_bipush (v := 96) hx hb dX10_then_6 (by decide) ?_
    refine lv_icmp_le (tgt := 22) hx hb dX10_then_8 (by decide) (fun hc => ?_) (fun hc => ?_)
    · have hf := ifp hc hf
      exact (wI_r hf).elim
    · have hf := ifn hc hf
      obtain rfl := Sum.inr.inj (Option.some.inj hf)
      exact thIW (text := "hours are 1 to 96") hx hb hl0 (hl.1.trans hml.symm) hlocks hno hown hW hG hK hP hD hS (hG.1 ("TwinLamps", 257, "hours are 1 to 96", 20) (by decide +kernel)) dX10_then_11 dX10_then_14 dX10_then_15 dX10_then_18 dX10_then_21 (by rw [hR]; exact Nat.le_of_ble_eq_true rfl) (by rw [hR]; exact Nat.le_of_ble_eq_true rfl) (by rw [hR]; exact Nat.le_of_ble_eq_true rfl) (by rw [hR]; exact Nat.le_of_ble_eq_true rfl) hQ
/-! TwinLamps.needAhead -/
noncomputable def f10_needAhead (x0 : Int32) : Option ((Unit) ⊕ Nat) :=
  if x0 < 0 then (some (.inr 0))
  else if x0 ≤ 96 then (wI (some ()))
  else some (.inr 0)
set_option maxHeartbeats 4000000 in
set_option maxRecDepth 100000 in
theorem c10_needAhead (l : Launch) (D : va_G) (cs : xE) (sz : Nat) (x0 : Int32) (res : Unit) (hf : f10_needAhead x0 = some (.inl res)) : Met l yX10_needAhead (Cond.code yX10_needAhead cX10_needAhead 1 none :: WG) { frames := 6, cells := 0, slots := 0, locals := 90 } (va_Pc [.int x0] (mP D cs (List.flatten []) sz)) (qV D cs (List.flatten []) (va_A (List.flatten []) sz)) 0 0 (va_A (List.flatten []) sz) := by
  refine mgo (Qc := qV D cs (List.flatten [])) (cc := cX10_needAhead) (maxL := 1) (ret := none) (by decide) rfl (Nat.le_of_ble_eq_true rfl) ?_
  intro p e s m below meth c ls A R Q args H hR hQ hx hb hml hr hlocks hown hts hP hK hD hA hS hG hl
  have hown : s.vm.findClass RX10 = some m.cls := hown
  have hl : lv_has ls 1 [(0, .int x0)] := hl
  have hW : ∀ w ∈ WG, w.before args s = true := fun w h => hts w (List.mem_cons_of_mem _ h)
  unfold f10_needAhead at hf
  refine lv_iload_n hx hb dX10_needAhead_0 rfl (lv_at hl 0 rfl) ?_
  refine lv_if_lt (tgt := 10) hx hb dX10_needAhead_1 (by decide) (fun hc => ?_) (fun hc => ?_)
  · have hf := ifp hc hf
    cases hf
  · have hf := ifn hc hf
    refine lv_iload_n hx hb dX10_needAhead_4 rfl (lv_at hl 0 rfl) ?_
    refine lv_bipush (v := 96) hx hb dX10_needAhead_5 (by decide) ?_
    refine lv_icmp_le (tgt := 21) hx hb dX10_needAhead_7 (by decide) (fun hc => ?_) (fun hc => ?_)
    · have hf := ifp hc hf
      have hf := wI_l hf
      obtain rfl := Option.some.inj hf
      exact mretV hx hb hr hlocks hK hP hD hS hQ dX10_needAhead_21
    · have hf := ifn hc hf
      cases hf
set_option maxHeartbeats 4000000 in
set_option maxRecDepth 100000 in
theorem c10x_needAhead (l : Launch) (D : va_G) (cs : xE) (hl0 : l.stackTraces = false) (sz : Nat) (x0 : Int32) (k : Nat) (hf : f10_needAhead x0 = some (.inr k)) : vx_Met l yX10_needAhead (Cond.code yX10_needAhead cX10_needAhead 1 none :: WG) { frames := 6, cells := 1, slots := 6, locals := 90 } (va_Pc [.int x0] (mP D cs (List.flatten []) sz)) (fun _ _ _ _ => False) (qX D cs k (List.flatten []) (va_A (List.flatten []) sz)) 1 6 (va_A (List.flatten []) sz) := by
  refine mgoX (cc := cX10_needAhead) (maxL := 1) (ret := none) (by decide) rfl (Nat.le_of_ble_eq_true rfl) ?_
  intro p e s m below meth c ls A R Q args H hR hQ hno hx hb hml hr hlocks hown hts hP hK hD hA hS hG hl
  have hown : s.vm.findClass RX10 = some m.cls := hown
  have hl : lv_has ls 1 [(0, .int x0)] := hl
  have hW : ∀ w ∈ WG, w.before args s = true := fun w h => hts w (List.mem_cons_of_mem _ h)
  unfold f10_needAhead at hf
  refine lv_iload_n hx hb dX10_needAhead_0 rfl (lv_at hl 0 rfl) ?_
  refine lv_if_lt (tgt := 10) hx hb dX10_needAhead_1 (by decide) (fun hc => ?_) (fun hc => ?_)
  · have hf := ifp hc hf
    obtain rfl := Sum.inr.inj (Option.some.inj hf)
    exact thIW (text := "hours are 0 to 96") hx hb hl0 (hl.1.trans hml.symm) hlocks hno hown hW hG hK hP hD hS (hG.1 ("TwinLamps", 380, "hours are 0 to 96", 27) (by decide +kernel)) dX10_needAhead_10 dX10_needAhead_13 dX10_needAhead_14 dX10_needAhead_17 dX10_needAhead_20 (by rw [hR]; exact Nat.le_of_ble_eq_true rfl) (by rw [hR]; exact Nat.le_of_ble_eq_true rfl) (by rw [hR]; exact Nat.le_of_ble_eq_true rfl) (by rw [hR]; exact Nat.le_of_ble_eq_true rfl) hQ
  · have hf := ifn hc hf
    refine lv_iload_n hx hb dX10_needAhead_4 rfl (lv_at hl 0 rfl) ?_
    refine lv_bipush (v := 96) hx hb dX10_needAhead_5 (by decide) ?_
    refine lv_icmp_le (tgt := 21) hx hb dX10_needAhead_7 (by decide) (fun hc => ?_) (fun hc => ?_)
    · have hf := ifp hc hf
      exact (wI_r hf).elim
    · have hf := ifn hc hf
      obtain rfl := Sum.inr.inj (Option.some.inj hf)
      exact thIW (text := "hours are 0 to 96") hx hb hl0 (hl.1.trans hml.symm) hlocks hno hown hW hG hK hP hD hS (hG.1 ("TwinLamps", 380, "hours are 0 to 96", 27) (by decide +kernel)) dX10_needAhead_10 dX10_needAhead_13 dX10_needAhead_14 dX10_needAhead_17 dX10_needAhead_20 (by rw [hR]; exact Nat.le_of_ble_eq_true rfl) (by rw [hR]; exact Nat.le_of_ble_eq_true rfl) (by rw [hR]; exact Nat.le_of_ble_eq_true rfl) (by rw [hR]; exact Nat.le_of_ble_eq_true rfl) hQ
/-! TwinLamps.burnt -/
noncomputable def f10_burnt_L4 (x2 : Int32) (v5 : Int32 × St × St × St) : Option ((Int32 × St × St × St) ⊕ (St × St × St)) :=
  if x2 ≤ v5.1 then some (.inr (v5.2.1, v5.2.2.1, v5.2.2.2)) else (f2_passHour v5.2.2.1 v5.2.2.2 v5.2.1).bind fun q6 =>
  some (.inl ((v5.1 + 1), q6.2.2, q6.1, q6.2.1))
noncomputable def f10_burnt (s_x : St) (s_t : St) (s_t2 : St) (s_e : St) (s_g : St) (x1 : Int32) (x2 : Int32) : Option ((Int32 × St × St × St) ⊕ Nat) :=
  xB (f10_needLamp s_x s_t x1) fun q1 =>
  xB (f10_needAhead x2) fun q2 =>
  wI ((f9_copyFrom s_t2 s_t).bind fun q3 =>
  (lpw (f10_burnt_L4 x2) (0, q3, s_e, s_g)).bind fun q4 =>
  (ldO 12 (s_t.2 9) x1).bind fun q7 =>
  (ldO 12 (q4.1.2 9) x1).bind fun q8 =>
  some ((q7 - q8), q4.1, q4.2.1, q4.2.2))
set_option maxHeartbeats 4000000 in
set_option maxRecDepth 100000 in
theorem c10_burnt (l : Launch) (D : va_G) (cs : xE) (o_x : Nat) (a_x : Nat → Nat) (a_t : Nat → Nat) (a_t2 : Nat → Nat) (a_g : Nat → Nat) (s_x : St) (s_t : St) (s_t2 : St) (s_e : St) (s_g : St) (sz : Nat) (x1 : Int32) (x2 : Int32) (res : Int32 × St × St × St) (hf : f10_burnt s_x s_t s_t2 s_e s_g x1 x2 = some (.inl res)) : Met l yX10_burnt (Cond.code yX10_burnt cX10_burnt 4 (some .int) :: WG) { frames := 7, cells := 0, slots := 0, locals := 111 } (va_Pc [.ref o_x, .int x1, .int x2] (mP D cs (List.flatten [w10 cs o_x a_x s_x, w9 cs (a_x 2) a_t s_t, w9 cs (a_x 9) a_t2 s_t2, w2 cs (a_x 8) a0n s_e, w7 cs (a_x 1) a_g s_g]) sz)) (qI D cs res.1 (List.flatten [w10 cs o_x a_x s_x, w9 cs (a_x 2) a_t s_t, w9 cs (a_x 9) a_t2 res.2.1, w2 cs (a_x 8) a0n res.2.2.1, w7 cs (a_x 1) a_g res.2.2.2]) (va_A (List.flatten [w10 cs o_x a_x s_x, w9 cs (a_x 2) a_t s_t, w9 cs (a_x 9) a_t2 s_t2, w2 cs (a_x 8) a0n s_e, w7 cs (a_x 1) a_g s_g]) sz)) 0 0 (va_A (List.flatten [w10 cs o_x a_x s_x, w9 cs (a_x 2) a_t s_t, w9 cs (a_x 9) a_t2 s_t2, w2 cs (a_x 8) a0n s_e, w7 cs (a_x 1) a_g s_g]) sz) := by
  refine mgo (Qc := qI D cs res.1 (List.flatten [w10 cs o_x a_x s_x, w9 cs (a_x 2) a_t s_t, w9 cs (a_x 9) a_t2 res.2.1, w2 cs (a_x 8) a0n res.2.2.1, w7 cs (a_x 1) a_g res.2.2.2])) (cc := cX10_burnt) (maxL := 4) (ret := (some .int)) (by decide) rfl (Nat.le_of_ble_eq_true rfl) ?_
  intro p e s m below meth c ls A R Q args H hR hQ hx hb hml hr hlocks hown hts hP hK hD hA hS hG hl
  have hown : s.vm.findClass RX10 = some m.cls := hown
  have hl : lv_has ls 4 [(0, .ref o_x), (1, .int x1), (2, .int x2)] := hl
  have hW : ∀ w ∈ WG, w.before args s = true := fun w h => hts w (List.mem_cons_of_mem _ h)
  have htX10 : ∀ w ∈ u_ws RX10 TX10 14, w.before args s = true := fun w h => hW w (inW_X10 w h)
  have htX9 : ∀ w ∈ u_ws RX9 TX9 11, w.before args s = true := fun w h => hW w (inW_X9 w h)
  unfold f10_burnt at hf
  refine lv_aload_n hx hb dX10_burnt_0 rfl (lv_at hl 0 rfl) ?_
  refine lv_iload_n hx hb dX10_burnt_1 rfl (lv_at hl 1 rfl) ?_
  obtain ⟨q1, eq1, hf⟩ := xB_l hf
  refine mcVv (rest := []) (Bn := [w10 cs o_x a_x s_x, w9 cs (a_x 2) a_t s_t, w9 cs (a_x 9) a_t2 s_t2, w2 cs (a_x 8) a0n s_e, w7 cs (a_x 1) a_g s_g]) (isR := [2, 3, 4]) (isC := [0, 1]) (i0 := 0) ⟨hx, hb, hml, hown, hts⟩ hK hP hD hS hA hG (c10_needLamp l D cs o_x a_x a_t s_x s_t H.size x1 _ eq1) (cwV 1 hts (gV wd952 wd954 wd26 wd105 wd955) rfl rfl rfl (by decide +kernel) ⟨by rw [hR]; exact Nat.le_of_ble_eq_true rfl, by rw [hR]; exact Nat.le_of_ble_eq_true rfl⟩) 5 (by decide) rfl rfl rfl rfl rfl rfl rfl e10 rfl rfl rfl hl.1 rfl (Nat.le_of_ble_eq_true rfl) ⟨Nat.zero_le _, Nat.zero_le _⟩ dX10_burnt_2 (fun H locs hP hD hS => ?_)
  refine lv_iload_n hx hb dX10_burnt_5 rfl (lv_at hl 2 rfl) ?_
  obtain ⟨q2, eq2, hf⟩ := xB_l hf
  refine mcSv0 (As := [.int x2]) (rest := []) ⟨hx, hb, hml, hown, hts⟩ hK hP hS hA hG (c10_needAhead l D cs H.size x2 _ eq2) (va_cwS 1 hts (gS wd1036 wd1037 wd105 wd1038) rfl rfl rfl (by decide +kernel) ⟨by rw [hR]; exact Nat.le_of_ble_eq_true rfl, by rw [hR]; exact Nat.le_of_ble_eq_true rfl⟩) rfl hl.1 rfl (Nat.le_of_ble_eq_true rfl) ⟨Nat.zero_le _, Nat.zero_le _⟩ dX10_burnt_6 (fun H locs hP hS => ?_)
  have hf := wI_l hf
  refine lv_aload_n hx hb dX10_burnt_9 rfl (lv_at hl 0 rfl) ?_
  refine gfB (i0 := 0) (own := RX10) (T := TX10) (k := 9) (v := .ref (a_x 9)) hx hb htX10 hown hK hP rfl e10 rfl (by decide) (hW _ wd437) rfl dX10_burnt_10 ?_
  refine lv_aload_n hx hb dX10_burnt_13 rfl (lv_at hl 0 rfl) ?_
  refine gfB (i0 := 0) (own := RX10) (T := TX10) (k := 2) (v := .ref (a_x 2)) hx hb htX10 hown hK hP rfl e10 rfl (by decide) (hW _ wd430) rfl dX10_burnt_14 ?_
  obtain ⟨q3, eq3, hf⟩ := bnd hf
  refine mcVv (rest := []) (Bn := [w10 cs o_x a_x s_x, w9 cs (a_x 2) a_t s_t, w9 cs (a_x 9) a_t2 q3, w2 cs (a_x 8) a0n s_e, w7 cs (a_x 1) a_g s_g]) (isR := [0, 3, 4]) (isC := [2, 1]) (i0 := 2) ⟨hx, hb, hml, hown, hts⟩ hK hP hD hS hA hG (c9_copyFrom l D cs (a_x 9) a_t2 (a_x 2) a_t s_t2 s_t H.size _ eq3) (cwV 1 hts (gV wd599 wd500 wd501 wd107 wd502) rfl rfl rfl (by decide +kernel) ⟨by rw [hR]; exact Nat.le_of_ble_eq_true rfl, by rw [hR]; exact Nat.le_of_ble_eq_true rfl⟩) 5 (by decide) rfl rfl rfl rfl rfl rfl rfl e9 rfl rfl rfl hl.1 rfl (Nat.le_of_ble_eq_true rfl) ⟨Nat.zero_le _, Nat.zero_le _⟩ dX10_burnt_17 (fun H locs hP hD hS => ?_)
  refine lv_iconst (v := 0) hx hb dX10_burnt_20 (by decide) ?_
  refine lv_istore_n (lv' := [(3, .int 0), (0, .ref o_x), (1, .int x1), (2, .int x2)]) hx hb dX10_burnt_21 rfl hl (by decide) rfl (fun ls hl => ?_)
  obtain ⟨q4, hq4, hf⟩ := bnd hf
  obtain ⟨n4, hq4⟩ := lpw_ex hq4
  have Jq4_0 : ∀ rr4_0 : St × St × St, q4 = rr4_0 → ∀ (H : Heap) (locs : List Loc) (ls : Array Slot), va_P D vwCl (List.flatten [w10 cs o_x a_x s_x, w9 cs (a_x 2) a_t s_t, w9 cs (a_x 9) a_t2 rr4_0.1, w2 cs (a_x 8) a0n rr4_0.2.1, w7 cs (a_x 1) a_g rr4_0.2.2]) H → va_D A (List.flatten [w10 cs o_x a_x s_x, w9 cs (a_x 2) a_t s_t, w9 cs (a_x 9) a_t2 rr4_0.1, w2 cs (a_x 8) a0n rr4_0.2.1, w7 cs (a_x 1) a_g rr4_0.2.2]) → va_S A s.heap H locs → lv_has ls 4 [(0, .ref o_x), (1, .int x1)] → W p l e R s m args below meth c H locs 0 0 Q (F0 m 48 ls []) := by
    intro rr4_0 eq4 H locs ls hP hD hS hl
    subst eq4
    refine lv_aload_n hx hb dX10_burnt_48 rfl (lv_at hl 0 rfl) ?_
    refine gfB (i0 := 0) (own := RX10) (T := TX10) (k := 2) (v := .ref (a_x 2)) hx hb htX10 hown hK hP rfl e10 rfl (by decide) (hW _ wd430) rfl dX10_burnt_49 ?_
    refine gfB (i0 := 1) (own := RX10) (T := TX9) (k := 9) (v := .ref (a_t 9)) hx hb htX9 hown hK hP rfl e9 rfl (by decide) (hW _ wd179) rfl dX10_burnt_52 ?_
    refine lv_iload_n hx hb dX10_burnt_55 rfl (lv_at hl 1 rfl) ?_
    obtain ⟨q7, eq7, hf⟩ := bnd hf
    obtain ⟨gq7, eq7⟩ := ldO_e eq7
    refine aldB (i0 := 1) hx hb hK hP rfl a9_9 gq7 dX10_burnt_56 ?_
    refine lv_nm eq7 ?_
    refine lv_aload_n hx hb dX10_burnt_57 rfl (lv_at hl 0 rfl) ?_
    refine gfB (i0 := 0) (own := RX10) (T := TX10) (k := 9) (v := .ref (a_x 9)) hx hb htX10 hown hK hP rfl e10 rfl (by decide) (hW _ wd437) rfl dX10_burnt_58 ?_
    refine gfB (i0 := 2) (own := RX10) (T := TX9) (k := 9) (v := .ref (a_t2 9)) hx hb htX9 hown hK hP rfl e9 rfl (by decide) (hW _ wd179) rfl dX10_burnt_61 ?_
    refine lv_iload_n hx hb dX10_burnt_64 rfl (lv_at hl 1 rfl) ?_
    obtain ⟨q8, eq8, hf⟩ := bnd hf
    obtain ⟨gq8, eq8⟩ := ldO_e eq8
    refine aldB (i0 := 2) hx hb hK hP rfl a9_9 gq8 dX10_burnt_65 ?_
    refine lv_nm eq8 ?_
    refine lv_isub hx hb dX10_burnt_66 ?_
    obtain rfl := Option.some.inj hf
    exact mretI hx hb hr hlocks hK hP hD hS rfl hQ dX10_burnt_67
  clear hf
  have L4 : ∀ n4, ∀ v5 : Int32 × St × St × St, lp n4 (f10_burnt_L4 x2) v5 = some q4 → ∀ (H : Heap) (locs : List Loc) (ls : Array Slot), va_P D vwCl (List.flatten [w10 cs o_x a_x s_x, w9 cs (a_x 2) a_t s_t, w9 cs (a_x 9) a_t2 v5.2.1, w2 cs (a_x 8) a0n v5.2.2.1, w7 cs (a_x 1) a_g v5.2.2.2]) H → va_D A (List.flatten [w10 cs o_x a_x s_x, w9 cs (a_x 2) a_t s_t, w9 cs (a_x 9) a_t2 v5.2.1, w2 cs (a_x 8) a0n v5.2.2.1, w7 cs (a_x 1) a_g v5.2.2.2]) → va_S A s.heap H locs → lv_has ls 4 [(0, .ref o_x), (1, .int x1), (2, .int x2), (3, .int v5.1)] → W p l e R s m args below meth c H locs 0 0 Q (F0 m 22 ls []) := by
    intro n4
    induction n4 with
    | zero => intro v5 hn; cases hn
    | succ n4 ih4 =>
      intro v5 hn4 H locs ls hP hD hS hl
      obtain ⟨y4, hf, hn4⟩ := lp_succ hn4
      unfold f10_burnt_L4 at hf
      refine lv_iload_n hx hb dX10_burnt_22 rfl (lv_at hl 3 rfl) ?_
      refine lv_iload_n hx hb dX10_burnt_23 rfl (lv_at hl 2 rfl) ?_
      refine lv_icmp_ge (tgt := 48) hx hb dX10_burnt_24 (by decide) (fun hc => ?_) (fun hc => ?_)
      · have hf := ifp hc hf
        cases hf
        exact Jq4_0 _ (Option.some.inj hn4).symm _ _ _ hP hD hS (lv_sub hl [0, 1] rfl)
      · have hf := ifn hc hf
        refine lv_aload_n hx hb dX10_burnt_27 rfl (lv_at hl 0 rfl) ?_
        refine gfB (i0 := 0) (own := RX10) (T := TX10) (k := 8) (v := .ref (a_x 8)) hx hb htX10 hown hK hP rfl e10 rfl (by decide) (hW _ wd436) rfl dX10_burnt_28 ?_
        refine lv_aload_n hx hb dX10_burnt_31 rfl (lv_at hl 0 rfl) ?_
        refine gfB (i0 := 0) (own := RX10) (T := TX10) (k := 1) (v := .ref (a_x 1)) hx hb htX10 hown hK hP rfl e10 rfl (by decide) (hW _ wd429) rfl dX10_burnt_32 ?_
        refine lv_aload_n hx hb dX10_burnt_35 rfl (lv_at hl 0 rfl) ?_
        refine gfB (i0 := 0) (own := RX10) (T := TX10) (k := 9) (v := .ref (a_x 9)) hx hb htX10 hown hK hP rfl e10 rfl (by decide) (hW _ wd437) rfl dX10_burnt_36 ?_
        obtain ⟨q6, eq6, hf⟩ := bnd hf
        refine mcVv (rest := []) (Bn := [w10 cs o_x a_x s_x, w9 cs (a_x 2) a_t s_t, w9 cs (a_x 9) a_t2 q6.2.2, w2 cs (a_x 8) a0n q6.1, w7 cs (a_x 1) a_g q6.2.1]) (isR := [0, 1]) (isC := [3, 4, 2]) (i0 := 3) ⟨hx, hb, hml, hown, hts⟩ hK hP hD hS hA hG (c2_passHour l D cs (a_x 8) (a_x 1) a_g (a_x 9) a_t2 v5.2.2.1 v5.2.2.2 v5.2.1 H.size _ eq6) (cwV 2 hts (gV wd506 wd507 wd508 wd112 wd509) rfl rfl rfl (by decide +kernel) ⟨by rw [hR]; exact Nat.le_of_ble_eq_true rfl, by rw [hR]; exact Nat.le_of_ble_eq_true rfl⟩) 5 (by decide) rfl rfl rfl rfl rfl rfl rfl e2 rfl rfl rfl hl.1 rfl (Nat.le_of_ble_eq_true rfl) ⟨Nat.zero_le _, Nat.zero_le _⟩ dX10_burnt_39 (fun H locs hP hD hS => ?_)
        refine lv_iinc (v := (v5.1 + 1)) (lv' := [(3, .int (v5.1 + 1)), (0, .ref o_x), (1, .int x1), (2, .int x2)]) hx hb dX10_burnt_42 hl (k := 3) rfl rfl (by decide) rfl (fun ls hl => ?_)
        refine lv_goto (tgt := 22) hx hb dX10_burnt_45 (by decide) ?_
        cases hf
        exact ih4 _ hn4 _ _ _ hP hD hS (lv_sub hl [1, 2, 3, 0] rfl)
  exact L4 _ _ hq4 _ _ _ hP hD hS (lv_sub hl [1, 2, 3, 0] rfl)
set_option maxHeartbeats 4000000 in
set_option maxRecDepth 100000 in
theorem c10x_burnt (l : Launch) (D : va_G) (cs : xE) (hl0 : l.stackTraces = false) (o_x : Nat) (a_x : Nat → Nat) (a_t : Nat → Nat) (a_t2 : Nat → Nat) (a_g : Nat → Nat) (s_x : St) (s_t : St) (s_t2 : St) (s_e : St) (s_g : St) (sz : Nat) (x1 : Int32) (x2 : Int32) (k : Nat) (hf : f10_burnt s_x s_t s_t2 s_e s_g x1 x2 = some (.inr k)) : vx_Met l yX10_burnt (Cond.code yX10_burnt cX10_burnt 4 (some .int) :: WG) { frames := 7, cells := 1, slots := 6, locals := 111 } (va_Pc [.ref o_x, .int x1, .int x2] (mP D cs (List.flatten [w10 cs o_x a_x s_x, w9 cs (a_x 2) a_t s_t, w9 cs (a_x 9) a_t2 s_t2, w2 cs (a_x 8) a0n s_e, w7 cs (a_x 1) a_g s_g]) sz)) (fun _ _ _ _ => False) (qX D cs k (List.flatten [w10 cs o_x a_x s_x, w9 cs (a_x 2) a_t s_t, w9 cs (a_x 9) a_t2 s_t2, w2 cs (a_x 8) a0n s_e, w7 cs (a_x 1) a_g s_g]) (va_A (List.flatten [w10 cs o_x a_x s_x, w9 cs (a_x 2) a_t s_t, w9 cs (a_x 9) a_t2 s_t2, w2 cs (a_x 8) a0n s_e, w7 cs (a_x 1) a_g s_g]) sz)) 1 6 (va_A (List.flatten [w10 cs o_x a_x s_x, w9 cs (a_x 2) a_t s_t, w9 cs (a_x 9) a_t2 s_t2, w2 cs (a_x 8) a0n s_e, w7 cs (a_x 1) a_g s_g]) sz) := by
  refine mgoX (cc := cX10_burnt) (maxL := 4) (ret := (some .int)) (by decide) rfl (Nat.le_of_ble_eq_true rfl) ?_
  intro p e s m below meth c ls A R Q args H hR hQ hno hx hb hml hr hlocks hown hts hP hK hD hA hS hG hl
  have hown : s.vm.findClass RX10 = some m.cls := hown
  have hl : lv_has ls 4 [(0, .ref o_x), (1, .int x1), (2, .int x2)] := hl
  have hW : ∀ w ∈ WG, w.before args s = true := fun w h => hts w (List.mem_cons_of_mem _ h)
  have htX10 : ∀ w ∈ u_ws RX10 TX10 14, w.before args s = true := fun w h => hW w (inW_X10 w h)
  have htX9 : ∀ w ∈ u_ws RX9 TX9 11, w.before args s = true := fun w h => hW w (inW_X9 w h)
  unfold f10_burnt at hf
  refine lv_aload_n hx hb dX10_burnt_0 rfl (lv_at hl 0 rfl) ?_
  refine lv_iload_n hx hb dX10_burnt_1 rfl (lv_at hl 1 rfl) ?_
  rcases xB_r hf with xq1 | ⟨q1, eq1, hf⟩
  · exact mxV (rest := []) (isR := [2, 3, 4]) (isC := [0, 1]) (i0 := 0) ⟨hx, hb, hml, hown, hts⟩ hK hP hD hS hA hG (c10x_needLamp l D cs hl0 o_x a_x a_t s_x s_t H.size x1 _ xq1) (cwV 1 hts (gV wd952 wd954 wd26 wd105 wd955) rfl rfl rfl (by decide +kernel) ⟨by rw [hR]; exact Nat.le_of_ble_eq_true rfl, by rw [hR]; exact Nat.le_of_ble_eq_true rfl⟩) 5 (by decide) rfl rfl rfl rfl e10 rfl rfl rfl hl.1 rfl (Nat.le_of_ble_eq_true rfl) ⟨by rw [hR]; exact Nat.le_of_ble_eq_true rfl, by rw [hR]; exact Nat.le_of_ble_eq_true rfl⟩ dX10_burnt_2 hno hlocks hQ
  refine mcVv (rest := []) (Bn := [w10 cs o_x a_x s_x, w9 cs (a_x 2) a_t s_t, w9 cs (a_x 9) a_t2 s_t2, w2 cs (a_x 8) a0n s_e, w7 cs (a_x 1) a_g s_g]) (isR := [2, 3, 4]) (isC := [0, 1]) (i0 := 0) ⟨hx, hb, hml, hown, hts⟩ hK hP hD hS hA hG (c10_needLamp l D cs o_x a_x a_t s_x s_t H.size x1 _ eq1) (cwV 1 hts (gV wd952 wd954 wd26 wd105 wd955) rfl rfl rfl (by decide +kernel) ⟨by rw [hR]; exact Nat.le_of_ble_eq_true rfl, by rw [hR]; exact Nat.le_of_ble_eq_true rfl⟩) 5 (by decide) rfl rfl rfl rfl rfl rfl rfl e10 rfl rfl rfl hl.1 rfl (Nat.le_of_ble_eq_true rfl) ⟨Nat.zero_le _, Nat.zero_le _⟩ dX10_burnt_2 (fun H locs hP hD hS => ?_)
  refine lv_iload_n hx hb dX10_burnt_5 rfl (lv_at hl 2 rfl) ?_
  rcases xB_r hf with xq2 | ⟨q2, eq2, hf⟩
  · exact mxS0 (As := [.int x2]) (rest := []) ⟨hx, hb, hml, hown, hts⟩ hK hP hD hS hA hG (c10x_needAhead l D cs hl0 H.size x2 _ xq2) (va_cwS 1 hts (gS wd1036 wd1037 wd105 wd1038) rfl rfl rfl (by decide +kernel) ⟨by rw [hR]; exact Nat.le_of_ble_eq_true rfl, by rw [hR]; exact Nat.le_of_ble_eq_true rfl⟩) rfl hl.1 rfl (Nat.le_of_ble_eq_true rfl) ⟨by rw [hR]; exact Nat.le_of_ble_eq_true rfl, by rw [hR]; exact Nat.le_of_ble_eq_true rfl⟩ dX10_burnt_6 hno hlocks hQ
  refine mcSv0 (As := [.int x2]) (rest := []) ⟨hx, hb, hml, hown, hts⟩ hK hP hS hA hG (c10_needAhead l D cs H.size x2 _ eq2) (va_cwS 1 hts (gS wd1036 wd1037 wd105 wd1038) rfl rfl rfl (by decide +kernel) ⟨by rw [hR]; exact Nat.le_of_ble_eq_true rfl, by rw [hR]; exact Nat.le_of_ble_eq_true rfl⟩) rfl hl.1 rfl (Nat.le_of_ble_eq_true rfl) ⟨Nat.zero_le _, Nat.zero_le _⟩ dX10_burnt_6 (fun H locs hP hS => ?_)
  exact (wI_r hf).elim
/-! TwinLamps.shining -/
noncomputable def f10_shining_L4 (x1 : Int32) (x2 : Int32) (v5 : Int32 × Int32 × St × St × St) : Option ((Int32 × Int32 × St × St × St) ⊕ (Int32 × St × St × St)) :=
  if x2 ≤ v5.2.1 then some (.inr (v5.1, v5.2.2.1, v5.2.2.2.1, v5.2.2.2.2)) else (f2_passHour v5.2.2.2.1 v5.2.2.2.2 v5.2.2.1).bind fun q6 =>
  some (.inl ((v5.1 + (((q6.1.1 0) >>> (x1 &&& 31)) &&& 1)), (v5.2.1 + 1), q6.2.2, q6.1, q6.2.1))
noncomputable def f10_shining (s_x : St) (s_t : St) (s_t2 : St) (s_e : St) (s_g : St) (x1 : Int32) (x2 : Int32) : Option ((Int32 × St × St × St) ⊕ Nat) :=
  xB (f10_needLamp s_x s_t x1) fun q1 =>
  xB (f10_needAhead x2) fun q2 =>
  wI ((f9_copyFrom s_t2 s_t).bind fun q3 =>
  (lpw (f10_shining_L4 x1 x2) (0, 0, q3, s_e, s_g)).bind fun q4 =>
  some (q4.1, q4.2.1, q4.2.2.1, q4.2.2.2))
set_option maxHeartbeats 4000000 in
set_option maxRecDepth 100000 in
theorem c10_shining (l : Launch) (D : va_G) (cs : xE) (o_x : Nat) (a_x : Nat → Nat) (a_t : Nat → Nat) (a_t2 : Nat → Nat) (a_g : Nat → Nat) (s_x : St) (s_t : St) (s_t2 : St) (s_e : St) (s_g : St) (sz : Nat) (x1 : Int32) (x2 : Int32) (res : Int32 × St × St × St) (hf : f10_shining s_x s_t s_t2 s_e s_g x1 x2 = some (.inl res)) : Met l yX10_shining (Cond.code yX10_shining cX10_shining 5 (some .int) :: WG) { frames := 7, cells := 0, slots := 0, locals := 111 } (va_Pc [.ref o_x, .int x1, .int x2] (mP D cs (List.flatten [w10 cs o_x a_x s_x, w9 cs (a_x 2) a_t s_t, w9 cs (a_x 9) a_t2 s_t2, w2 cs (a_x 8) a0n s_e, w7 cs (a_x 1) a_g s_g]) sz)) (qI D cs res.1 (List.flatten [w10 cs o_x a_x s_x, w9 cs (a_x 2) a_t s_t, w9 cs (a_x 9) a_t2 res.2.1, w2 cs (a_x 8) a0n res.2.2.1, w7 cs (a_x 1) a_g res.2.2.2]) (va_A (List.flatten [w10 cs o_x a_x s_x, w9 cs (a_x 2) a_t s_t, w9 cs (a_x 9) a_t2 s_t2, w2 cs (a_x 8) a0n s_e, w7 cs (a_x 1) a_g s_g]) sz)) 0 0 (va_A (List.flatten [w10 cs o_x a_x s_x, w9 cs (a_x 2) a_t s_t, w9 cs (a_x 9) a_t2 s_t2, w2 cs (a_x 8) a0n s_e, w7 cs (a_x 1) a_g s_g]) sz) := by
  refine mgo (Qc := qI D cs res.1 (List.flatten [w10 cs o_x a_x s_x, w9 cs (a_x 2) a_t s_t, w9 cs (a_x 9) a_t2 res.2.1, w2 cs (a_x 8) a0n res.2.2.1, w7 cs (a_x 1) a_g res.2.2.2])) (cc := cX10_shining) (maxL := 5) (ret := (some .int)) (by decide) rfl (Nat.le_of_ble_eq_true rfl) ?_
  intro p e s m below meth c ls A R Q args H hR hQ hx hb hml hr hlocks hown hts hP hK hD hA hS hG hl
  have hown : s.vm.findClass RX10 = some m.cls := hown
  have hl : lv_has ls 5 [(0, .ref o_x), (1, .int x1), (2, .int x2)] := hl
  have hW : ∀ w ∈ WG, w.before args s = true := fun w h => hts w (List.mem_cons_of_mem _ h)
  have htX10 : ∀ w ∈ u_ws RX10 TX10 14, w.before args s = true := fun w h => hW w (inW_X10 w h)
  have htX2 : ∀ w ∈ u_ws RX2 TX2 5, w.before args s = true := fun w h => hW w (inW_X2 w h)
  unfold f10_shining at hf
  refine lv_aload_n hx hb dX10_shining_0 rfl (lv_at hl 0 rfl) ?_
  refine lv_iload_n hx hb dX10_shining_1 rfl (lv_at hl 1 rfl) ?_
  obtain ⟨q1, eq1, hf⟩ := xB_l hf
  refine mcVv (rest := []) (Bn := [w10 cs o_x a_x s_x, w9 cs (a_x 2) a_t s_t, w9 cs (a_x 9) a_t2 s_t2, w2 cs (a_x 8) a0n s_e, w7 cs (a_x 1) a_g s_g]) (isR := [2, 3, 4]) (isC := [0, 1]) (i0 := 0) ⟨hx, hb, hml, hown, hts⟩ hK hP hD hS hA hG (c10_needLamp l D cs o_x a_x a_t s_x s_t H.size x1 _ eq1) (cwV 1 hts (gV wd952 wd954 wd26 wd105 wd955) rfl rfl rfl (by decide +kernel) ⟨by rw [hR]; exact Nat.le_of_ble_eq_true rfl, by rw [hR]; exact Nat.le_of_ble_eq_true rfl⟩) 5 (by decide) rfl rfl rfl rfl rfl rfl rfl e10 rfl rfl rfl hl.1 rfl (Nat.le_of_ble_eq_true rfl) ⟨Nat.zero_le _, Nat.zero_le _⟩ dX10_shining_2 (fun H locs hP hD hS => ?_)
  refine lv_iload_n hx hb dX10_shining_5 rfl (lv_at hl 2 rfl) ?_
  obtain ⟨q2, eq2, hf⟩ := xB_l hf
  refine mcSv0 (As := [.int x2]) (rest := []) ⟨hx, hb, hml, hown, hts⟩ hK hP hS hA hG (c10_needAhead l D cs H.size x2 _ eq2) (va_cwS 1 hts (gS wd1036 wd1037 wd105 wd1038) rfl rfl rfl (by decide +kernel) ⟨by rw [hR]; exact Nat.le_of_ble_eq_true rfl, by rw [hR]; exact Nat.le_of_ble_eq_true rfl⟩) rfl hl.1 rfl (Nat.le_of_ble_eq_true rfl) ⟨Nat.zero_le _, Nat.zero_le _⟩ dX10_shining_6 (fun H locs hP hS => ?_)
  have hf := wI_l hf
  refine lv_aload_n hx hb dX10_shining_9 rfl (lv_at hl 0 rfl) ?_
  refine gfB (i0 := 0) (own := RX10) (T := TX10) (k := 9) (v := .ref (a_x 9)) hx hb htX10 hown hK hP rfl e10 rfl (by decide) (hW _ wd437) rfl dX10_shining_10 ?_
  refine lv_aload_n hx hb dX10_shining_13 rfl (lv_at hl 0 rfl) ?_
  refine gfB (i0 := 0) (own := RX10) (T := TX10) (k := 2) (v := .ref (a_x 2)) hx hb htX10 hown hK hP rfl e10 rfl (by decide) (hW _ wd430) rfl dX10_shining_14 ?_
  obtain ⟨q3, eq3, hf⟩ := bnd hf
  refine mcVv (rest := []) (Bn := [w10 cs o_x a_x s_x, w9 cs (a_x 2) a_t s_t, w9 cs (a_x 9) a_t2 q3, w2 cs (a_x 8) a0n s_e, w7 cs (a_x 1) a_g s_g]) (isR := [0, 3, 4]) (isC := [2, 1]) (i0 := 2) ⟨hx, hb, hml, hown, hts⟩ hK hP hD hS hA hG (c9_copyFrom l D cs (a_x 9) a_t2 (a_x 2) a_t s_t2 s_t H.size _ eq3) (cwV 1 hts (gV wd599 wd500 wd501 wd107 wd502) rfl rfl rfl (by decide +kernel) ⟨by rw [hR]; exact Nat.le_of_ble_eq_true rfl, by rw [hR]; exact Nat.le_of_ble_eq_true rfl⟩) 5 (by decide) rfl rfl rfl rfl rfl rfl rfl e9 rfl rfl rfl hl.1 rfl (Nat.le_of_ble_eq_true rfl) ⟨Nat.zero_le _, Nat.zero_le _⟩ dX10_shining_17 (fun H locs hP hD hS => ?_)
  refine lv_iconst (v := 0) hx hb dX10_shining_20 (by decide) ?_
  refine lv_istore_n (lv' := [(3, .int 0), (0, .ref o_x), (1, .int x1), (2, .int x2)]) hx hb dX10_shining_21 rfl hl (by decide) rfl (fun ls hl => ?_)
  refine lv_iconst (v := 0) hx hb dX10_shining_22 (by decide) ?_
  refine lv_istore (lv' := [(4, .int 0), (3, .int 0), (0, .ref o_x), (1, .int x1), (2, .int x2)]) hx hb dX10_shining_23 hl (by decide) rfl (fun ls hl => ?_)
  obtain ⟨q4, hq4, hf⟩ := bnd hf
  obtain ⟨n4, hq4⟩ := lpw_ex hq4
  have Jq4_0 : ∀ rr4_0 : Int32 × St × St × St, q4 = rr4_0 → ∀ (H : Heap) (locs : List Loc) (ls : Array Slot), va_P D vwCl (List.flatten [w10 cs o_x a_x s_x, w9 cs (a_x 2) a_t s_t, w9 cs (a_x 9) a_t2 rr4_0.2.1, w2 cs (a_x 8) a0n rr4_0.2.2.1, w7 cs (a_x 1) a_g rr4_0.2.2.2]) H → va_D A (List.flatten [w10 cs o_x a_x s_x, w9 cs (a_x 2) a_t s_t, w9 cs (a_x 9) a_t2 rr4_0.2.1, w2 cs (a_x 8) a0n rr4_0.2.2.1, w7 cs (a_x 1) a_g rr4_0.2.2.2]) → va_S A s.heap H locs → lv_has ls 5 [(3, .int rr4_0.1)] → W p l e R s m args below meth c H locs 0 0 Q (F0 m 66 ls []) := by
    intro rr4_0 eq4 H locs ls hP hD hS hl
    subst eq4
    refine lv_iload_n hx hb dX10_shining_66 rfl (lv_at hl 0 rfl) ?_
    obtain rfl := Option.some.inj hf
    exact mretI hx hb hr hlocks hK hP hD hS rfl hQ dX10_shining_67
  clear hf
  have L4 : ∀ n4, ∀ v5 : Int32 × Int32 × St × St × St, lp n4 (f10_shining_L4 x1 x2) v5 = some q4 → ∀ (H : Heap) (locs : List Loc) (ls : Array Slot), va_P D vwCl (List.flatten [w10 cs o_x a_x s_x, w9 cs (a_x 2) a_t s_t, w9 cs (a_x 9) a_t2 v5.2.2.1, w2 cs (a_x 8) a0n v5.2.2.2.1, w7 cs (a_x 1) a_g v5.2.2.2.2]) H → va_D A (List.flatten [w10 cs o_x a_x s_x, w9 cs (a_x 2) a_t s_t, w9 cs (a_x 9) a_t2 v5.2.2.1, w2 cs (a_x 8) a0n v5.2.2.2.1, w7 cs (a_x 1) a_g v5.2.2.2.2]) → va_S A s.heap H locs → lv_has ls 5 [(0, .ref o_x), (1, .int x1), (2, .int x2), (3, .int v5.1), (4, .int v5.2.1)] → W p l e R s m args below meth c H locs 0 0 Q (F0 m 25 ls []) := by
    intro n4
    induction n4 with
    | zero => intro v5 hn; cases hn
    | succ n4 ih4 =>
      intro v5 hn4 H locs ls hP hD hS hl
      obtain ⟨y4, hf, hn4⟩ := lp_succ hn4
      unfold f10_shining_L4 at hf
      refine lv_iload hx hb dX10_shining_25 (lv_at hl 4 rfl) ?_
      refine lv_iload_n hx hb dX10_shining_27 rfl (lv_at hl 2 rfl) ?_
      refine lv_icmp_ge (tgt := 66) hx hb dX10_shining_28 (by decide) (fun hc => ?_) (fun hc => ?_)
      · have hf := ifp hc hf
        cases hf
        exact Jq4_0 _ (Option.some.inj hn4).symm _ _ _ hP hD hS (lv_sub hl [3] rfl)
      · have hf := ifn hc hf
        refine lv_aload_n hx hb dX10_shining_31 rfl (lv_at hl 0 rfl) ?_
        refine gfB (i0 := 0) (own := RX10) (T := TX10) (k := 8) (v := .ref (a_x 8)) hx hb htX10 hown hK hP rfl e10 rfl (by decide) (hW _ wd436) rfl dX10_shining_32 ?_
        refine lv_aload_n hx hb dX10_shining_35 rfl (lv_at hl 0 rfl) ?_
        refine gfB (i0 := 0) (own := RX10) (T := TX10) (k := 1) (v := .ref (a_x 1)) hx hb htX10 hown hK hP rfl e10 rfl (by decide) (hW _ wd429) rfl dX10_shining_36 ?_
        refine lv_aload_n hx hb dX10_shining_39 rfl (lv_at hl 0 rfl) ?_
        refine gfB (i0 := 0) (own := RX10) (T := TX10) (k := 9) (v := .ref (a_x 9)) hx hb htX10 hown hK hP rfl e10 rfl (by decide) (hW _ wd437) rfl dX10_shining_40 ?_
        obtain ⟨q6, eq6, hf⟩ := bnd hf
        refine mcVv (rest := []) (Bn := [w10 cs o_x a_x s_x, w9 cs (a_x 2) a_t s_t, w9 cs (a_x 9) a_t2 q6.2.2, w2 cs (a_x 8) a0n q6.1, w7 cs (a_x 1) a_g q6.2.1]) (isR := [0, 1]) (isC := [3, 4, 2]) (i0 := 3) ⟨hx, hb, hml, hown, hts⟩ hK hP hD hS hA hG (c2_passHour l D cs (a_x 8) (a_x 1) a_g (a_x 9) a_t2 v5.2.2.2.1 v5.2.2.2.2 v5.2.2.1 H.size _ eq6) (cwV 2 hts (gV wd506 wd507 wd508 wd112 wd509) rfl rfl rfl (by decide +kernel) ⟨by rw [hR]; exact Nat.le_of_ble_eq_true rfl, by rw [hR]; exact Nat.le_of_ble_eq_true rfl⟩) 5 (by decide) rfl rfl rfl rfl rfl rfl rfl e2 rfl rfl rfl hl.1 rfl (Nat.le_of_ble_eq_true rfl) ⟨Nat.zero_le _, Nat.zero_le _⟩ dX10_shining_43 (fun H locs hP hD hS => ?_)
        refine lv_iload_n hx hb dX10_shining_46 rfl (lv_at hl 3 rfl) ?_
        refine lv_aload_n hx hb dX10_shining_47 rfl (lv_at hl 0 rfl) ?_
        refine gfB (i0 := 0) (own := RX10) (T := TX10) (k := 8) (v := .ref (a_x 8)) hx hb htX10 hown hK hP rfl e10 rfl (by decide) (hW _ wd436) rfl dX10_shining_48 ?_
        refine gfB (i0 := 3) (own := RX10) (T := TX2) (k := 0) (v := .int (q6.1.1 0)) hx hb htX2 hown hK hP rfl e2 rfl (by decide) (hW _ wd348) rfl dX10_shining_51 ?_
        refine lv_iload_n hx hb dX10_shining_54 rfl (lv_at hl 1 rfl) ?_
        refine lv_ishr hx hb dX10_shining_55 ?_
        refine lv_iconst (v := 1) hx hb dX10_shining_56 (by decide) ?_
        refine lv_iand hx hb dX10_shining_57 ?_
        refine lv_iadd hx hb dX10_shining_58 ?_
        refine lv_istore_n (lv' := [(3, .int (v5.1 + (((q6.1.1 0) >>> (x1 &&& 31)) &&& 1))), (0, .ref o_x), (1, .int x1), (2, .int x2), (4, .int v5.2.1)]) hx hb dX10_shining_59 rfl hl (by decide) rfl (fun ls hl => ?_)
        refine lv_iinc (v := (v5.2.1 + 1)) (lv' := [(4, .int (v5.2.1 + 1)), (3, .int (v5.1 + (((q6.1.1 0) >>> (x1 &&& 31)) &&& 1))), (0, .ref o_x), (1, .int x1), (2, .int x2)]) hx hb dX10_shining_60 hl (k := 4) rfl rfl (by decide) rfl (fun ls hl => ?_)
        refine lv_goto (tgt := 25) hx hb dX10_shining_63 (by decide) ?_
        cases hf
        exact ih4 _ hn4 _ _ _ hP hD hS (lv_sub hl [2, 3, 4, 1, 0] rfl)
  exact L4 _ _ hq4 _ _ _ hP hD hS (lv_sub hl [2, 3, 4, 1, 0] rfl)
set_option maxHeartbeats 4000000 in
set_option maxRecDepth 100000 in
theorem c10x_shining (l : Launch) (D : va_G) (cs : xE) (hl0 : l.stackTraces = false) (o_x : Nat) (a_x : Nat → Nat) (a_t : Nat → Nat) (a_t2 : Nat → Nat) (a_g : Nat → Nat) (s_x : St) (s_t : St) (s_t2 : St) (s_e : St) (s_g : St) (sz : Nat) (x1 : Int32) (x2 : Int32) (k : Nat) (hf : f10_shining s_x s_t s_t2 s_e s_g x1 x2 = some (.inr k)) : vx_Met l yX10_shining (Cond.code yX10_shining cX10_shining 5 (some .int) :: WG) { frames := 7, cells := 1, slots := 6, locals := 111 } (va_Pc [.ref o_x, .int x1, .int x2] (mP D cs (List.flatten [w10 cs o_x a_x s_x, w9 cs (a_x 2) a_t s_t, w9 cs (a_x 9) a_t2 s_t2, w2 cs (a_x 8) a0n s_e, w7 cs (a_x 1) a_g s_g]) sz)) (fun _ _ _ _ => False) (qX D cs k (List.flatten [w10 cs o_x a_x s_x, w9 cs (a_x 2) a_t s_t, w9 cs (a_x 9) a_t2 s_t2, w2 cs (a_x 8) a0n s_e, w7 cs (a_x 1) a_g s_g]) (va_A (List.flatten [w10 cs o_x a_x s_x, w9 cs (a_x 2) a_t s_t, w9 cs (a_x 9) a_t2 s_t2, w2 cs (a_x 8) a0n s_e, w7 cs (a_x 1) a_g s_g]) sz)) 1 6 (va_A (List.flatten [w10 cs o_x a_x s_x, w9 cs (a_x 2) a_t s_t, w9 cs (a_x 9) a_t2 s_t2, w2 cs (a_x 8) a0n s_e, w7 cs (a_x 1) a_g s_g]) sz) := by
  refine mgoX (cc := cX10_shining) (maxL := 5) (ret := (some .int)) (by decide) rfl (Nat.le_of_ble_eq_true rfl) ?_
  intro p e s m below meth c ls A R Q args H hR hQ hno hx hb hml hr hlocks hown hts hP hK hD hA hS hG hl
  have hown : s.vm.findClass RX10 = some m.cls := hown
  have hl : lv_has ls 5 [(0, .ref o_x), (1, .int x1), (2, .int x2)] := hl
  have hW : ∀ w ∈ WG, w.before args s = true := fun w h => hts w (List.mem_cons_of_mem _ h)
  have htX10 : ∀ w ∈ u_ws RX10 TX10 14, w.before args s = true := fun w h => hW w (inW_X10 w h)
  have htX2 : ∀ w ∈ u_ws RX2 TX2 5, w.before args s = true := fun w h => hW w (inW_X2 w h)
  unfold f10_shining at hf
  refine lv_aload_n hx hb dX10_shining_0 rfl (lv_at hl 0 rfl) ?_
  refine lv_iload_n hx hb dX10_shining_1 rfl (lv_at hl 1 rfl) ?_
  rcases xB_r hf with xq1 | ⟨q1, eq1, hf⟩
  · exact mxV (rest := []) (isR := [2, 3, 4]) (isC := [0, 1]) (i0 := 0) ⟨hx, hb, hml, hown, hts⟩ hK hP hD hS hA hG (c10x_needLamp l D cs hl0 o_x a_x a_t s_x s_t H.size x1 _ xq1) (cwV 1 hts (gV wd952 wd954 wd26 wd105 wd955) rfl rfl rfl (by decide +kernel) ⟨by rw [hR]; exact Nat.le_of_ble_eq_true rfl, by rw [hR]; exact Nat.le_of_ble_eq_true rfl⟩) 5 (by decide) rfl rfl rfl rfl e10 rfl rfl rfl hl.1 rfl (Nat.le_of_ble_eq_true rfl) ⟨by rw [hR]; exact Nat.le_of_ble_eq_true rfl, by rw [hR]; exact Nat.le_of_ble_eq_true rfl⟩ dX10_shining_2 hno hlocks hQ
  refine mcVv (rest := []) (Bn := [w10 cs o_x a_x s_x, w9 cs (a_x 2) a_t s_t, w9 cs (a_x 9) a_t2 s_t2, w2 cs (a_x 8) a0n s_e, w7 cs (a_x 1) a_g s_g]) (isR := [2, 3, 4]) (isC := [0, 1]) (i0 := 0) ⟨hx, hb, hml, hown, hts⟩ hK hP hD hS hA hG (c10_needLamp l D cs o_x a_x a_t s_x s_t H.size x1 _ eq1) (cwV 1 hts (gV wd952 wd954 wd26 wd105 wd955) rfl rfl rfl (by decide +kernel) ⟨by rw [hR]; exact Nat.le_of_ble_eq_true rfl, by rw [hR]; exact Nat.le_of_ble_eq_true rfl⟩) 5 (by decide) rfl rfl rfl rfl rfl rfl rfl e10 rfl rfl rfl hl.1 rfl (Nat.le_of_ble_eq_true rfl) ⟨Nat.zero_le _, Nat.zero_le _⟩ dX10_shining_2 (fun H locs hP hD hS => ?_)
  refine lv_iload_n hx hb dX10_shining_5 rfl (lv_at hl 2 rfl) ?_
  rcases xB_r hf with xq2 | ⟨q2, eq2, hf⟩
  · exact mxS0 (As := [.int x2]) (rest := []) ⟨hx, hb, hml, hown, hts⟩ hK hP hD hS hA hG (c10x_needAhead l D cs hl0 H.size x2 _ xq2) (va_cwS 1 hts (gS wd1036 wd1037 wd105 wd1038) rfl rfl rfl (by decide +kernel) ⟨by rw [hR]; exact Nat.le_of_ble_eq_true rfl, by rw [hR]; exact Nat.le_of_ble_eq_true rfl⟩) rfl hl.1 rfl (Nat.le_of_ble_eq_true rfl) ⟨by rw [hR]; exact Nat.le_of_ble_eq_true rfl, by rw [hR]; exact Nat.le_of_ble_eq_true rfl⟩ dX10_shining_6 hno hlocks hQ
  refine mcSv0 (As := [.int x2]) (rest := []) ⟨hx, hb, hml, hown, hts⟩ hK hP hS hA hG (c10_needAhead l D cs H.size x2 _ eq2) (va_cwS 1 hts (gS wd1036 wd1037 wd105 wd1038) rfl rfl rfl (by decide +kernel) ⟨by rw [hR]; exact Nat.le_of_ble_eq_true rfl, by rw [hR]; exact Nat.le_of_ble_eq_true rfl⟩) rfl hl.1 rfl (Nat.le_of_ble_eq_true rfl) ⟨Nat.zero_le _, Nat.zero_le _⟩ dX10_shining_6 (fun H locs hP hS => ?_)
  exact (wI_r hf).elim
/-! TwinLamps.soonest -/
noncomputable def f10_soonest_L3 (x1 : Int32) (v4 : Int32 × St × St × St) : Option ((Int32 × St × St × St) ⊕ ((Int32 × St × St × St) ⊕ (St × St × St))) :=
  if (96 : Int32) < v4.1 then some (.inr (.inr (v4.2.1, v4.2.2.1, v4.2.2.2))) else (f2_passHour v4.2.2.1 v4.2.2.2 v4.2.1).bind fun q5 =>
  if (((q5.1.1 0) >>> (x1 &&& 31)) &&& 1) = 1 then some (.inr (.inl (v4.1, q5.2.2, q5.1, q5.2.1))) else some (.inl ((v4.1 + 1), q5.2.2, q5.1, q5.2.1))
noncomputable def f10_soonest (s_x : St) (s_t : St) (s_t2 : St) (s_e : St) (s_g : St) (x1 : Int32) : Option ((Int32 × St × St × St) ⊕ Nat) :=
  xB (f10_needLamp s_x s_t x1) fun q1 =>
  wI ((f9_copyFrom s_t2 s_t).bind fun q2 =>
  (lpw (f10_soonest_L3 x1) (1, q2, s_e, s_g)).bind fun q3 =>
  match q3 with
  | .inl r3_0 => (some (r3_0.1, r3_0.2.1, r3_0.2.2.1, r3_0.2.2.2))
  | .inr r3_1 => (some ((-1), r3_1.1, r3_1.2.1, r3_1.2.2)))
set_option maxHeartbeats 4000000 in
set_option maxRecDepth 100000 in
theorem c10_soonest (l : Launch) (D : va_G) (cs : xE) (o_x : Nat) (a_x : Nat → Nat) (a_t : Nat → Nat) (a_t2 : Nat → Nat) (a_g : Nat → Nat) (s_x : St) (s_t : St) (s_t2 : St) (s_e : St) (s_g : St) (sz : Nat) (x1 : Int32) (res : Int32 × St × St × St) (hf : f10_soonest s_x s_t s_t2 s_e s_g x1 = some (.inl res)) : Met l yX10_soonest (Cond.code yX10_soonest cX10_soonest 3 (some .int) :: WG) { frames := 7, cells := 0, slots := 0, locals := 111 } (va_Pc [.ref o_x, .int x1] (mP D cs (List.flatten [w10 cs o_x a_x s_x, w9 cs (a_x 2) a_t s_t, w9 cs (a_x 9) a_t2 s_t2, w2 cs (a_x 8) a0n s_e, w7 cs (a_x 1) a_g s_g]) sz)) (qI D cs res.1 (List.flatten [w10 cs o_x a_x s_x, w9 cs (a_x 2) a_t s_t, w9 cs (a_x 9) a_t2 res.2.1, w2 cs (a_x 8) a0n res.2.2.1, w7 cs (a_x 1) a_g res.2.2.2]) (va_A (List.flatten [w10 cs o_x a_x s_x, w9 cs (a_x 2) a_t s_t, w9 cs (a_x 9) a_t2 s_t2, w2 cs (a_x 8) a0n s_e, w7 cs (a_x 1) a_g s_g]) sz)) 0 0 (va_A (List.flatten [w10 cs o_x a_x s_x, w9 cs (a_x 2) a_t s_t, w9 cs (a_x 9) a_t2 s_t2, w2 cs (a_x 8) a0n s_e, w7 cs (a_x 1) a_g s_g]) sz) := by
  refine mgo (Qc := qI D cs res.1 (List.flatten [w10 cs o_x a_x s_x, w9 cs (a_x 2) a_t s_t, w9 cs (a_x 9) a_t2 res.2.1, w2 cs (a_x 8) a0n res.2.2.1, w7 cs (a_x 1) a_g res.2.2.2])) (cc := cX10_soonest) (maxL := 3) (ret := (some .int)) (by decide) rfl (Nat.le_of_ble_eq_true rfl) ?_
  intro p e s m below meth c ls A R Q args H hR hQ hx hb hml hr hlocks hown hts hP hK hD hA hS hG hl
  have hown : s.vm.findClass RX10 = some m.cls := hown
  have hl : lv_has ls 3 [(0, .ref o_x), (1, .int x1)] := hl
  have hW : ∀ w ∈ WG, w.before args s = true := fun w h => hts w (List.mem_cons_of_mem _ h)
  have htX10 : ∀ w ∈ u_ws RX10 TX10 14, w.before args s = true := fun w h => hW w (inW_X10 w h)
  have htX2 : ∀ w ∈ u_ws RX2 TX2 5, w.before args s = true := fun w h => hW w (inW_X2 w h)
  unfold f10_soonest at hf
  refine lv_aload_n hx hb dX10_soonest_0 rfl (lv_at hl 0 rfl) ?_
  refine lv_iload_n hx hb dX10_soonest_1 rfl (lv_at hl 1 rfl) ?_
  obtain ⟨q1, eq1, hf⟩ := xB_l hf
  refine mcVv (rest := []) (Bn := [w10 cs o_x a_x s_x, w9 cs (a_x 2) a_t s_t, w9 cs (a_x 9) a_t2 s_t2, w2 cs (a_x 8) a0n s_e, w7 cs (a_x 1) a_g s_g]) (isR := [2, 3, 4]) (isC := [0, 1]) (i0 := 0) ⟨hx, hb, hml, hown, hts⟩ hK hP hD hS hA hG (c10_needLamp l D cs o_x a_x a_t s_x s_t H.size x1 _ eq1) (cwV 1 hts (gV wd952 wd954 wd26 wd105 wd955) rfl rfl rfl (by decide +kernel) ⟨by rw [hR]; exact Nat.le_of_ble_eq_true rfl, by rw [hR]; exact Nat.le_of_ble_eq_true rfl⟩) 5 (by decide) rfl rfl rfl rfl rfl rfl rfl e10 rfl rfl rfl hl.1 rfl (Nat.le_of_ble_eq_true rfl) ⟨Nat.zero_le _, Nat.zero_le _⟩ dX10_soonest_2 (fun H locs hP hD hS => ?_)
  have hf := wI_l hf
  refine lv_aload_n hx hb dX10_soonest_5 rfl (lv_at hl 0 rfl) ?_
  refine gfB (i0 := 0) (own := RX10) (T := TX10) (k := 9) (v := .ref (a_x 9)) hx hb htX10 hown hK hP rfl e10 rfl (by decide) (hW _ wd437) rfl dX10_soonest_6 ?_
  refine lv_aload_n hx hb dX10_soonest_9 rfl (lv_at hl 0 rfl) ?_
  refine gfB (i0 := 0) (own := RX10) (T := TX10) (k := 2) (v := .ref (a_x 2)) hx hb htX10 hown hK hP rfl e10 rfl (by decide) (hW _ wd430) rfl dX10_soonest_10 ?_
  obtain ⟨q2, eq2, hf⟩ := bnd hf
  refine mcVv (rest := []) (Bn := [w10 cs o_x a_x s_x, w9 cs (a_x 2) a_t s_t, w9 cs (a_x 9) a_t2 q2, w2 cs (a_x 8) a0n s_e, w7 cs (a_x 1) a_g s_g]) (isR := [0, 3, 4]) (isC := [2, 1]) (i0 := 2) ⟨hx, hb, hml, hown, hts⟩ hK hP hD hS hA hG (c9_copyFrom l D cs (a_x 9) a_t2 (a_x 2) a_t s_t2 s_t H.size _ eq2) (cwV 1 hts (gV wd599 wd500 wd501 wd107 wd502) rfl rfl rfl (by decide +kernel) ⟨by rw [hR]; exact Nat.le_of_ble_eq_true rfl, by rw [hR]; exact Nat.le_of_ble_eq_true rfl⟩) 5 (by decide) rfl rfl rfl rfl rfl rfl rfl e9 rfl rfl rfl hl.1 rfl (Nat.le_of_ble_eq_true rfl) ⟨Nat.zero_le _, Nat.zero_le _⟩ dX10_soonest_13 (fun H locs hP hD hS => ?_)
  refine lv_iconst (v := 1) hx hb dX10_soonest_16 (by decide) ?_
  refine lv_istore_n (lv' := [(2, .int 1), (0, .ref o_x), (1, .int x1)]) hx hb dX10_soonest_17 rfl hl (by decide) rfl (fun ls hl => ?_)
  obtain ⟨q3, hq3, hf⟩ := bnd hf
  obtain ⟨n3, hq3⟩ := lpw_ex hq3
  have Jq3_0 : ∀ rr3_0 : Int32 × St × St × St, q3 = (.inl rr3_0) → ∀ (H : Heap) (locs : List Loc) (ls : Array Slot), va_P D vwCl (List.flatten [w10 cs o_x a_x s_x, w9 cs (a_x 2) a_t s_t, w9 cs (a_x 9) a_t2 rr3_0.2.1, w2 cs (a_x 8) a0n rr3_0.2.2.1, w7 cs (a_x 1) a_g rr3_0.2.2.2]) H → va_D A (List.flatten [w10 cs o_x a_x s_x, w9 cs (a_x 2) a_t s_t, w9 cs (a_x 9) a_t2 rr3_0.2.1, w2 cs (a_x 8) a0n rr3_0.2.2.1, w7 cs (a_x 1) a_g rr3_0.2.2.2]) → va_S A s.heap H locs → lv_has ls 3 [(2, .int rr3_0.1)] → W p l e R s m args below meth c H locs 0 0 Q (F0 m 54 ls []) := by
    intro r3_0 eq3 H locs ls hP hD hS hl
    subst eq3
    try dsimp only at hf
    refine lv_iload_n hx hb dX10_soonest_54 rfl (lv_at hl 0 rfl) ?_
    obtain rfl := Option.some.inj hf
    exact mretI hx hb hr hlocks hK hP hD hS rfl hQ dX10_soonest_55
  have Jq3_1 : ∀ rr3_1 : St × St × St, q3 = (.inr rr3_1) → ∀ (H : Heap) (locs : List Loc) (ls : Array Slot), va_P D vwCl (List.flatten [w10 cs o_x a_x s_x, w9 cs (a_x 2) a_t s_t, w9 cs (a_x 9) a_t2 rr3_1.1, w2 cs (a_x 8) a0n rr3_1.2.1, w7 cs (a_x 1) a_g rr3_1.2.2]) H → va_D A (List.flatten [w10 cs o_x a_x s_x, w9 cs (a_x 2) a_t s_t, w9 cs (a_x 9) a_t2 rr3_1.1, w2 cs (a_x 8) a0n rr3_1.2.1, w7 cs (a_x 1) a_g rr3_1.2.2]) → va_S A s.heap H locs → lv_has ls 3 [] → W p l e R s m args below meth c H locs 0 0 Q (F0 m 62 ls []) := by
    intro r3_1 eq3 H locs ls hP hD hS hl
    subst eq3
    try dsimp only at hf
    refine lv_iconst (v := (-1)) hx hb dX10_soonest_62 (by decide) ?_
    obtain rfl := Option.some.inj hf
    exact mretI hx hb hr hlocks hK hP hD hS rfl hQ dX10_soonest_63
  clear hf
  have L3 : ∀ n3, ∀ v4 : Int32 × St × St × St, lp n3 (f10_soonest_L3 x1) v4 = some q3 → ∀ (H : Heap) (locs : List Loc) (ls : Array Slot), va_P D vwCl (List.flatten [w10 cs o_x a_x s_x, w9 cs (a_x 2) a_t s_t, w9 cs (a_x 9) a_t2 v4.2.1, w2 cs (a_x 8) a0n v4.2.2.1, w7 cs (a_x 1) a_g v4.2.2.2]) H → va_D A (List.flatten [w10 cs o_x a_x s_x, w9 cs (a_x 2) a_t s_t, w9 cs (a_x 9) a_t2 v4.2.1, w2 cs (a_x 8) a0n v4.2.2.1, w7 cs (a_x 1) a_g v4.2.2.2]) → va_S A s.heap H locs → lv_has ls 3 [(0, .ref o_x), (1, .int x1), (2, .int v4.1)] → W p l e R s m args below meth c H locs 0 0 Q (F0 m 18 ls []) := by
    intro n3
    induction n3 with
    | zero => intro v4 hn; cases hn
    | succ n3 ih3 =>
      intro v4 hn3 H locs ls hP hD hS hl
      obtain ⟨y3, hf, hn3⟩ := lp_succ hn3
      unfold f10_soonest_L3 at hf
      refine lv_iload_n hx hb dX10_soonest_18 rfl (lv_at hl 2 rfl) ?_
      refine lv_bipush (v := 96) hx hb dX10_soonest_19 (by decide) ?_
      refine lv_icmp_gt (tgt := 62) hx hb dX10_soonest_21 (by decide) (fun hc => ?_) (fun hc => ?_)
      · have hf := ifp hc hf
        cases hf
        exact Jq3_1 _ (Option.some.inj hn3).symm _ _ _ hP hD hS (lv_sub hl [] rfl)
      · have hf := ifn hc hf
        refine lv_aload_n hx hb dX10_soonest_24 rfl (lv_at hl 0 rfl) ?_
        refine gfB (i0 := 0) (own := RX10) (T := TX10) (k := 8) (v := .ref (a_x 8)) hx hb htX10 hown hK hP rfl e10 rfl (by decide) (hW _ wd436) rfl dX10_soonest_25 ?_
        refine lv_aload_n hx hb dX10_soonest_28 rfl (lv_at hl 0 rfl) ?_
        refine gfB (i0 := 0) (own := RX10) (T := TX10) (k := 1) (v := .ref (a_x 1)) hx hb htX10 hown hK hP rfl e10 rfl (by decide) (hW _ wd429) rfl dX10_soonest_29 ?_
        refine lv_aload_n hx hb dX10_soonest_32 rfl (lv_at hl 0 rfl) ?_
        refine gfB (i0 := 0) (own := RX10) (T := TX10) (k := 9) (v := .ref (a_x 9)) hx hb htX10 hown hK hP rfl e10 rfl (by decide) (hW _ wd437) rfl dX10_soonest_33 ?_
        obtain ⟨q5, eq5, hf⟩ := bnd hf
        refine mcVv (rest := []) (Bn := [w10 cs o_x a_x s_x, w9 cs (a_x 2) a_t s_t, w9 cs (a_x 9) a_t2 q5.2.2, w2 cs (a_x 8) a0n q5.1, w7 cs (a_x 1) a_g q5.2.1]) (isR := [0, 1]) (isC := [3, 4, 2]) (i0 := 3) ⟨hx, hb, hml, hown, hts⟩ hK hP hD hS hA hG (c2_passHour l D cs (a_x 8) (a_x 1) a_g (a_x 9) a_t2 v4.2.2.1 v4.2.2.2 v4.2.1 H.size _ eq5) (cwV 2 hts (gV wd506 wd507 wd508 wd112 wd509) rfl rfl rfl (by decide +kernel) ⟨by rw [hR]; exact Nat.le_of_ble_eq_true rfl, by rw [hR]; exact Nat.le_of_ble_eq_true rfl⟩) 5 (by decide) rfl rfl rfl rfl rfl rfl rfl e2 rfl rfl rfl hl.1 rfl (Nat.le_of_ble_eq_true rfl) ⟨Nat.zero_le _, Nat.zero_le _⟩ dX10_soonest_36 (fun H locs hP hD hS => ?_)
        refine lv_aload_n hx hb dX10_soonest_39 rfl (lv_at hl 0 rfl) ?_
        refine gfB (i0 := 0) (own := RX10) (T := TX10) (k := 8) (v := .ref (a_x 8)) hx hb htX10 hown hK hP rfl e10 rfl (by decide) (hW _ wd436) rfl dX10_soonest_40 ?_
        refine gfB (i0 := 3) (own := RX10) (T := TX2) (k := 0) (v := .int (q5.1.1 0)) hx hb htX2 hown hK hP rfl e2 rfl (by decide) (hW _ wd348) rfl dX10_soonest_43 ?_
        refine lv_iload_n hx hb dX10_soonest_46 rfl (lv_at hl 1 rfl) ?_
        refine lv_ishr hx hb dX10_soonest_47 ?_
        refine lv_iconst (v := 1) hx hb dX10_soonest_48 (by decide) ?_
        refine lv_iand hx hb dX10_soonest_49 ?_
        refine lv_iconst (v := 1) hx hb dX10_soonest_50 (by decide) ?_
        refine lv_icmp_ne (tgt := 56) hx hb dX10_soonest_51 (by decide) (fun hc => ?_) (fun hc => ?_)
        · have hf := ifn hc hf
          refine lv_iinc (v := (v4.1 + 1)) (lv' := [(2, .int (v4.1 + 1)), (0, .ref o_x), (1, .int x1)]) hx hb dX10_soonest_56 hl (k := 2) rfl rfl (by decide) rfl (fun ls hl => ?_)
          refine lv_goto (tgt := 18) hx hb dX10_soonest_59 (by decide) ?_
          cases hf
          exact ih3 _ hn3 _ _ _ hP hD hS (lv_sub hl [1, 2, 0] rfl)
        · have hf := ifp hc hf
          cases hf
          exact Jq3_0 _ (Option.some.inj hn3).symm _ _ _ hP hD hS (lv_sub hl [2] rfl)
  exact L3 _ _ hq3 _ _ _ hP hD hS (lv_sub hl [1, 2, 0] rfl)
set_option maxHeartbeats 4000000 in
set_option maxRecDepth 100000 in
theorem c10x_soonest (l : Launch) (D : va_G) (cs : xE) (hl0 : l.stackTraces = false) (o_x : Nat) (a_x : Nat → Nat) (a_t : Nat → Nat) (a_t2 : Nat → Nat) (a_g : Nat → Nat) (s_x : St) (s_t : St) (s_t2 : St) (s_e : St) (s_g : St) (sz : Nat) (x1 : Int32) (k : Nat) (hf : f10_soonest s_x s_t s_t2 s_e s_g x1 = some (.inr k)) : vx_Met l yX10_soonest (Cond.code yX10_soonest cX10_soonest 3 (some .int) :: WG) { frames := 7, cells := 1, slots := 6, locals := 111 } (va_Pc [.ref o_x, .int x1] (mP D cs (List.flatten [w10 cs o_x a_x s_x, w9 cs (a_x 2) a_t s_t, w9 cs (a_x 9) a_t2 s_t2, w2 cs (a_x 8) a0n s_e, w7 cs (a_x 1) a_g s_g]) sz)) (fun _ _ _ _ => False) (qX D cs k (List.flatten [w10 cs o_x a_x s_x, w9 cs (a_x 2) a_t s_t, w9 cs (a_x 9) a_t2 s_t2, w2 cs (a_x 8) a0n s_e, w7 cs (a_x 1) a_g s_g]) (va_A (List.flatten [w10 cs o_x a_x s_x, w9 cs (a_x 2) a_t s_t, w9 cs (a_x 9) a_t2 s_t2, w2 cs (a_x 8) a0n s_e, w7 cs (a_x 1) a_g s_g]) sz)) 1 6 (va_A (List.flatten [w10 cs o_x a_x s_x, w9 cs (a_x 2) a_t s_t, w9 cs (a_x 9) a_t2 s_t2, w2 cs (a_x 8) a0n s_e, w7 cs (a_x 1) a_g s_g]) sz) := by
  refine mgoX (cc := cX10_soonest) (maxL := 3) (ret := (some .int)) (by decide) rfl (Nat.le_of_ble_eq_true rfl) ?_
  intro p e s m below meth c ls A R Q args H hR hQ hno hx hb hml hr hlocks hown hts hP hK hD hA hS hG hl
  have hown : s.vm.findClass RX10 = some m.cls := hown
  have hl : lv_has ls 3 [(0, .ref o_x), (1, .int x1)] := hl
  have hW : ∀ w ∈ WG, w.before args s = true := fun w h => hts w (List.mem_cons_of_mem _ h)
  have htX10 : ∀ w ∈ u_ws RX10 TX10 14, w.before args s = true := fun w h => hW w (inW_X10 w h)
  have htX2 : ∀ w ∈ u_ws RX2 TX2 5, w.before args s = true := fun w h => hW w (inW_X2 w h)
  unfold f10_soonest at hf
  refine lv_aload_n hx hb dX10_soonest_0 rfl (lv_at hl 0 rfl) ?_
  refine lv_iload_n hx hb dX10_soonest_1 rfl (lv_at hl 1 rfl) ?_
  rcases xB_r hf with xq1 | ⟨q1, eq1, hf⟩
  · exact mxV (rest := []) (isR := [2, 3, 4]) (isC := [0, 1]) (i0 := 0) ⟨hx, hb, hml, hown, hts⟩ hK hP hD hS hA hG (c10x_needLamp l D cs hl0 o_x a_x a_t s_x s_t H.size x1 _ xq1) (cwV 1 hts (gV wd952 wd954 wd26 wd105 wd955) rfl rfl rfl (by decide +kernel) ⟨by rw [hR]; exact Nat.le_of_ble_eq_true rfl, by rw [hR]; exact Nat.le_of_ble_eq_true rfl⟩) 5 (by decide) rfl rfl rfl rfl e10 rfl rfl rfl hl.1 rfl (Nat.le_of_ble_eq_true rfl) ⟨by rw [hR]; exact Nat.le_of_ble_eq_true rfl, by rw [hR]; exact Nat.le_of_ble_eq_true rfl⟩ dX10_soonest_2 hno hlocks hQ
  refine mcVv (rest := []) (Bn := [w10 cs o_x a_x s_x, w9 cs (a_x 2) a_t s_t, w9 cs (a_x 9) a_t2 s_t2, w2 cs (a_x 8) a0n s_e, w7 cs (a_x 1) a_g s_g]) (isR := [2, 3, 4]) (isC := [0, 1]) (i0 := 0) ⟨hx, hb, hml, hown, hts⟩ hK hP hD hS hA hG (c10_needLamp l D cs o_x a_x a_t s_x s_t H.size x1 _ eq1) (cwV 1 hts (gV wd952 wd954 wd26 wd105 wd955) rfl rfl rfl (by decide +kernel) ⟨by rw [hR]; exact Nat.le_of_ble_eq_true rfl, by rw [hR]; exact Nat.le_of_ble_eq_true rfl⟩) 5 (by decide) rfl rfl rfl rfl rfl rfl rfl e10 rfl rfl rfl hl.1 rfl (Nat.le_of_ble_eq_true rfl) ⟨Nat.zero_le _, Nat.zero_le _⟩ dX10_soonest_2 (fun H locs hP hD hS => ?_)
  exact (wI_r hf).elim
/-! TwinLamps.needHourOrMany -/
noncomputable def f10_needHourOrMany (x0 : Int32) : Option ((Unit) ⊕ Nat) :=
  if x0 = 0 then (wI (some ()))
  else if x0 = 1 then (wI (some ()))
  else some (.inr 1)
set_option maxHeartbeats 4000000 in
set_option maxRecDepth 100000 in
theorem c10_needHourOrMany (l : Launch) (D : va_G) (cs : xE) (sz : Nat) (x0 : Int32) (res : Unit) (hf : f10_needHourOrMany x0 = some (.inl res)) : Met l yX10_needHourOrMany (Cond.code yX10_needHourOrMany cX10_needHourOrMany 1 none :: WG) { frames := 6, cells := 0, slots := 0, locals := 90 } (va_Pc [.int x0] (mP D cs (List.flatten []) sz)) (qV D cs (List.flatten []) (va_A (List.flatten []) sz)) 0 0 (va_A (List.flatten []) sz) := by
  refine mgo (Qc := qV D cs (List.flatten [])) (cc := cX10_needHourOrMany) (maxL := 1) (ret := none) (by decide) rfl (Nat.le_of_ble_eq_true rfl) ?_
  intro p e s m below meth c ls A R Q args H hR hQ hx hb hml hr hlocks hown hts hP hK hD hA hS hG hl
  have hown : s.vm.findClass RX10 = some m.cls := hown
  have hl : lv_has ls 1 [(0, .int x0)] := hl
  have hW : ∀ w ∈ WG, w.before args s = true := fun w h => hts w (List.mem_cons_of_mem _ h)
  unfold f10_needHourOrMany at hf
  refine lv_iload_n hx hb dX10_needHourOrMany_0 rfl (lv_at hl 0 rfl) ?_
  refine lv_if_eq (tgt := 20) hx hb dX10_needHourOrMany_1 (by decide) (fun hc => ?_) (fun hc => ?_)
  · have hf := ifp hc hf
    have hf := wI_l hf
    obtain rfl := Option.some.inj hf
    exact mretV hx hb hr hlocks hK hP hD hS hQ dX10_needHourOrMany_20
  · have hf := ifn hc hf
    refine lv_iload_n hx hb dX10_needHourOrMany_4 rfl (lv_at hl 0 rfl) ?_
    refine lv_iconst (v := 1) hx hb dX10_needHourOrMany_5 (by decide) ?_
    refine lv_icmp_eq (tgt := 20) hx hb dX10_needHourOrMany_6 (by decide) (fun hc => ?_) (fun hc => ?_)
    · have hf := ifp hc hf
      have hf := wI_l hf
      obtain rfl := Option.some.inj hf
      exact mretV hx hb hr hlocks hK hP hD hS hQ dX10_needHourOrMany_20
    · have hf := ifn hc hf
      cases hf
set_option maxHeartbeats 4000000 in
set_option maxRecDepth 100000 in
theorem c10x_needHourOrMany (l : Launch) (D : va_G) (cs : xE) (hl0 : l.stackTraces = false) (sz : Nat) (x0 : Int32) (k : Nat) (hf : f10_needHourOrMany x0 = some (.inr k)) : vx_Met l yX10_needHourOrMany (Cond.code yX10_needHourOrMany cX10_needHourOrMany 1 none :: WG) { frames := 6, cells := 1, slots := 6, locals := 90 } (va_Pc [.int x0] (mP D cs (List.flatten []) sz)) (fun _ _ _ _ => False) (qX D cs k (List.flatten []) (va_A (List.flatten []) sz)) 1 6 (va_A (List.flatten []) sz) := by
  refine mgoX (cc := cX10_needHourOrMany) (maxL := 1) (ret := none) (by decide) rfl (Nat.le_of_ble_eq_true rfl) ?_
  intro p e s m below meth c ls A R Q args H hR hQ hno hx hb hml hr hlocks hown hts hP hK hD hA hS hG hl
  have hown : s.vm.findClass RX10 = some m.cls := hown
  have hl : lv_has ls 1 [(0, .int x0)] := hl
  have hW : ∀ w ∈ WG, w.before args s = true := fun w h => hts w (List.mem_cons_of_mem _ h)
  unfold f10_needHourOrMany at hf
  refine lv_iload_n hx hb dX10_needHourOrMany_0 rfl (lv_at hl 0 rfl) ?_
  refine lv_if_eq (tgt := 20) hx hb dX10_needHourOrMany_1 (by decide) (fun hc => ?_) (fun hc => ?_)
  · have hf := ifp hc hf
    exact (wI_r hf).elim
  · have hf := ifn hc hf
    refine lv_iload_n hx hb dX10_needHourOrMany_4 rfl (lv_at hl 0 rfl) ?_
    refine lv_iconst (v := 1) hx hb dX10_needHourOrMany_5 (by decide) ?_
    refine lv_icmp_eq (tgt := 20) hx hb dX10_needHourOrMany_6 (by decide) (fun hc => ?_) (fun hc => ?_)
    · have hf := ifp hc hf
      exact (wI_r hf).elim
    · have hf := ifn hc hf
      obtain rfl := Sum.inr.inj (Option.some.inj hf)
      exact thNW (text := "what is 0 or 1") hx hb hl0 (hl.1.trans hml.symm) hlocks hno hown hW hG hK hP hD hS (hG.1 ("TwinLamps", 378, "what is 0 or 1", 26) (by decide +kernel)) dX10_needHourOrMany_9 dX10_needHourOrMany_12 dX10_needHourOrMany_13 dX10_needHourOrMany_16 dX10_needHourOrMany_19 (by rw [hR]; exact Nat.le_of_ble_eq_true rfl) (by rw [hR]; exact Nat.le_of_ble_eq_true rfl) (by rw [hR]; exact Nat.le_of_ble_eq_true rfl) (by rw [hR]; exact Nat.le_of_ble_eq_true rfl) hQ
/-! TwinLamps.wantedByAwake -/
noncomputable def f10_wantedByAwake_L1 (s_t : St) (x1 : Int32) (v2 : Int32 × Int32 × St) : Option ((Int32 × Int32 × St) ⊕ (Int32 × St)) :=
  if (s_t.1 1) ≤ v2.2.1 then some (.inr (v2.1, v2.2.2)) else (ldO 12 (s_t.2 8) v2.2.1).bind fun q3 =>
  (f9_isAwake s_t q3 x1).bind fun q4 =>
  ((if (zB q4) = 0 then some (v2.1, v2.2.2) else (f7_wantsLit v2.2.2 s_t v2.2.1 x1).bind fun q6 =>
  if (zB q6.1) = 0 then some (v2.1, q6.2) else some ((v2.1 + 1), q6.2) : Option (Int32 × St))).bind fun q5 =>
  some (.inl (q5.1, (v2.2.1 + 1), q5.2))
noncomputable def f10_wantedByAwake (s_x : St) (s_t : St) (s_g : St) (x1 : Int32) : Option (Int32 × St) :=
  (lpw (f10_wantedByAwake_L1 s_t x1) (0, 0, s_g)).bind fun q1 =>
  some (q1.1, q1.2)
set_option maxHeartbeats 4000000 in
set_option maxRecDepth 100000 in
theorem c10_wantedByAwake (l : Launch) (D : va_G) (cs : xE) (o_x : Nat) (a_x : Nat → Nat) (a_t : Nat → Nat) (a_g : Nat → Nat) (s_x : St) (s_t : St) (s_g : St) (sz : Nat) (x1 : Int32) (res : Int32 × St) (hf : f10_wantedByAwake s_x s_t s_g x1 = some res) : Met l yX10_wantedByAwake (Cond.code yX10_wantedByAwake cX10_wantedByAwake 4 (some .int) :: WG) { frames := 3, cells := 0, slots := 0, locals := 69 } (va_Pc [.ref o_x, .int x1] (mP D cs (List.flatten [w10 cs o_x a_x s_x, w9 cs (a_x 2) a_t s_t, w7 cs (a_x 1) a_g s_g]) sz)) (qI D cs res.1 (List.flatten [w10 cs o_x a_x s_x, w9 cs (a_x 2) a_t s_t, w7 cs (a_x 1) a_g res.2]) (va_A (List.flatten [w10 cs o_x a_x s_x, w9 cs (a_x 2) a_t s_t, w7 cs (a_x 1) a_g s_g]) sz)) 0 0 (va_A (List.flatten [w10 cs o_x a_x s_x, w9 cs (a_x 2) a_t s_t, w7 cs (a_x 1) a_g s_g]) sz) := by
  refine mgo (Qc := qI D cs res.1 (List.flatten [w10 cs o_x a_x s_x, w9 cs (a_x 2) a_t s_t, w7 cs (a_x 1) a_g res.2])) (cc := cX10_wantedByAwake) (maxL := 4) (ret := (some .int)) (by decide) rfl (Nat.le_of_ble_eq_true rfl) ?_
  intro p e s m below meth c ls A R Q args H hR hQ hx hb hml hr hlocks hown hts hP hK hD hA hS hG hl
  have hown : s.vm.findClass RX10 = some m.cls := hown
  have hl : lv_has ls 4 [(0, .ref o_x), (1, .int x1)] := hl
  have hW : ∀ w ∈ WG, w.before args s = true := fun w h => hts w (List.mem_cons_of_mem _ h)
  have htX10 : ∀ w ∈ u_ws RX10 TX10 14, w.before args s = true := fun w h => hW w (inW_X10 w h)
  have htX9 : ∀ w ∈ u_ws RX9 TX9 11, w.before args s = true := fun w h => hW w (inW_X9 w h)
  unfold f10_wantedByAwake at hf
  refine lv_iconst (v := 0) hx hb dX10_wantedByAwake_0 (by decide) ?_
  refine lv_istore_n (lv' := [(2, .int 0), (0, .ref o_x), (1, .int x1)]) hx hb dX10_wantedByAwake_1 rfl hl (by decide) rfl (fun ls hl => ?_)
  refine lv_iconst (v := 0) hx hb dX10_wantedByAwake_2 (by decide) ?_
  refine lv_istore_n (lv' := [(3, .int 0), (2, .int 0), (0, .ref o_x), (1, .int x1)]) hx hb dX10_wantedByAwake_3 rfl hl (by decide) rfl (fun ls hl => ?_)
  obtain ⟨q1, hq1, hf⟩ := bnd hf
  obtain ⟨n1, hq1⟩ := lpw_ex hq1
  have Jq1_0 : ∀ rr1_0 : Int32 × St, q1 = rr1_0 → ∀ (H : Heap) (locs : List Loc) (ls : Array Slot), va_P D vwCl (List.flatten [w10 cs o_x a_x s_x, w9 cs (a_x 2) a_t s_t, w7 cs (a_x 1) a_g rr1_0.2]) H → va_D A (List.flatten [w10 cs o_x a_x s_x, w9 cs (a_x 2) a_t s_t, w7 cs (a_x 1) a_g rr1_0.2]) → va_S A s.heap H locs → lv_has ls 4 [(2, .int rr1_0.1)] → W p l e R s m args below meth c H locs 0 0 Q (F0 m 60 ls []) := by
    intro rr1_0 eq1 H locs ls hP hD hS hl
    subst eq1
    refine lv_iload_n hx hb dX10_wantedByAwake_60 rfl (lv_at hl 0 rfl) ?_
    obtain rfl := Option.some.inj hf
    exact mretI hx hb hr hlocks hK hP hD hS rfl hQ dX10_wantedByAwake_61
  clear hf
  have L1 : ∀ n1, ∀ v2 : Int32 × Int32 × St, lp n1 (f10_wantedByAwake_L1 s_t x1) v2 = some q1 → ∀ (H : Heap) (locs : List Loc) (ls : Array Slot), va_P D vwCl (List.flatten [w10 cs o_x a_x s_x, w9 cs (a_x 2) a_t s_t, w7 cs (a_x 1) a_g v2.2.2]) H → va_D A (List.flatten [w10 cs o_x a_x s_x, w9 cs (a_x 2) a_t s_t, w7 cs (a_x 1) a_g v2.2.2]) → va_S A s.heap H locs → lv_has ls 4 [(0, .ref o_x), (1, .int x1), (2, .int v2.1), (3, .int v2.2.1)] → W p l e R s m args below meth c H locs 0 0 Q (F0 m 4 ls []) := by
    intro n1
    induction n1 with
    | zero => intro v2 hn; cases hn
    | succ n1 ih1 =>
      intro v2 hn1 H locs ls hP hD hS hl
      obtain ⟨y1, hf, hn1⟩ := lp_succ hn1
      unfold f10_wantedByAwake_L1 at hf
      refine lv_iload_n hx hb dX10_wantedByAwake_4 rfl (lv_at hl 3 rfl) ?_
      refine lv_aload_n hx hb dX10_wantedByAwake_5 rfl (lv_at hl 0 rfl) ?_
      refine gfB (i0 := 0) (own := RX10) (T := TX10) (k := 2) (v := .ref (a_x 2)) hx hb htX10 hown hK hP rfl e10 rfl (by decide) (hW _ wd430) rfl dX10_wantedByAwake_6 ?_
      refine gfB (i0 := 1) (own := RX10) (T := TX9) (k := 1) (v := .int (s_t.1 1)) hx hb htX9 hown hK hP rfl e9 rfl (by decide) (hW _ wd155) rfl dX10_wantedByAwake_9 ?_
      refine lv_icmp_ge (tgt := 60) hx hb dX10_wantedByAwake_12 (by decide) (fun hc => ?_) (fun hc => ?_)
      · have hf := ifp hc hf
        cases hf
        exact Jq1_0 _ (Option.some.inj hn1).symm _ _ _ hP hD hS (lv_sub hl [2] rfl)
      · have hf := ifn hc hf
        refine lv_aload_n hx hb dX10_wantedByAwake_15 rfl (lv_at hl 0 rfl) ?_
        refine gfB (i0 := 0) (own := RX10) (T := TX10) (k := 2) (v := .ref (a_x 2)) hx hb htX10 hown hK hP rfl e10 rfl (by decide) (hW _ wd430) rfl dX10_wantedByAwake_16 ?_
        refine lv_aload_n hx hb dX10_wantedByAwake_19 rfl (lv_at hl 0 rfl) ?_
        refine gfB (i0 := 0) (own := RX10) (T := TX10) (k := 2) (v := .ref (a_x 2)) hx hb htX10 hown hK hP rfl e10 rfl (by decide) (hW _ wd430) rfl dX10_wantedByAwake_20 ?_
        refine gfB (i0 := 1) (own := RX10) (T := TX9) (k := 8) (v := .ref (a_t 8)) hx hb htX9 hown hK hP rfl e9 rfl (by decide) (hW _ wd174) rfl dX10_wantedByAwake_23 ?_
        refine lv_iload_n hx hb dX10_wantedByAwake_26 rfl (lv_at hl 3 rfl) ?_
        obtain ⟨q3, eq3, hf⟩ := bnd hf
        obtain ⟨gq3, eq3⟩ := ldO_e eq3
        refine aldB (i0 := 1) hx hb hK hP rfl a9_8 gq3 dX10_wantedByAwake_27 ?_
        refine lv_nm eq3 ?_
        refine lv_iload_n hx hb dX10_wantedByAwake_28 rfl (lv_at hl 1 rfl) ?_
        obtain ⟨q4, eq4, hf⟩ := bnd hf
        refine mcVi (v := (zB q4)) (rest := []) (Bn := [w10 cs o_x a_x s_x, w9 cs (a_x 2) a_t s_t, w7 cs (a_x 1) a_g v2.2.2]) (isR := [0, 2]) (isC := [1]) (i0 := 1) ⟨hx, hb, hml, hown, hts⟩ hK hP hD hS hA hG (c9_isAwake l D cs (a_x 2) a_t s_t H.size q3 x1 _ eq4) (cwV 2 hts (gV wd1069 wd515 wd516 wd107 wd517) rfl rfl rfl (by decide +kernel) ⟨by rw [hR]; exact Nat.le_of_ble_eq_true rfl, by rw [hR]; exact Nat.le_of_ble_eq_true rfl⟩) 3 (by decide) rfl rfl rfl rfl rfl rfl rfl e9 rfl rfl rfl hl.1 rfl (Nat.le_of_ble_eq_true rfl) ⟨Nat.zero_le _, Nat.zero_le _⟩ dX10_wantedByAwake_29 (fun H locs hP hD hS => ?_)
        obtain ⟨q5, hq5, hf⟩ := bnd hf
        have Jq5 : ∀ r5 : Int32 × St, q5 = r5 → ∀ (H : Heap) (locs : List Loc) (ls : Array Slot), va_P D vwCl (List.flatten [w10 cs o_x a_x s_x, w9 cs (a_x 2) a_t s_t, w7 cs (a_x 1) a_g r5.2]) H → va_D A (List.flatten [w10 cs o_x a_x s_x, w9 cs (a_x 2) a_t s_t, w7 cs (a_x 1) a_g r5.2]) → va_S A s.heap H locs → lv_has ls 4 [(0, .ref o_x), (1, .int x1), (2, .int r5.1), (3, .int v2.2.1)] → W p l e R s m args below meth c H locs 0 0 Q (F0 m 54 ls []) := by
          intro r5 eq5 H locs ls hP hD hS hl
          subst eq5
          refine lv_iinc (v := (v2.2.1 + 1)) (lv' := [(3, .int (v2.2.1 + 1)), (0, .ref o_x), (1, .int x1), (2, .int q5.1)]) hx hb dX10_wantedByAwake_54 hl (k := 3) rfl rfl (by decide) rfl (fun ls hl => ?_)
          refine lv_goto (tgt := 4) hx hb dX10_wantedByAwake_57 (by decide) ?_
          cases hf
          exact ih1 _ hn1 _ _ _ hP hD hS (lv_sub hl [1, 2, 3, 0] rfl)
        clear hf
        have hf := hq5
        refine lv_if_eq (tgt := 54) hx hb dX10_wantedByAwake_32 (by decide) (fun hc => ?_) (fun hc => ?_)
        · have hf := ifp hc hf
          exact Jq5 _ (Option.some.inj hf).symm _ _ _ hP hD hS (lv_sub hl [0, 1, 2, 3] rfl)
        · have hf := ifn hc hf
          refine lv_aload_n hx hb dX10_wantedByAwake_35 rfl (lv_at hl 0 rfl) ?_
          refine gfB (i0 := 0) (own := RX10) (T := TX10) (k := 1) (v := .ref (a_x 1)) hx hb htX10 hown hK hP rfl e10 rfl (by decide) (hW _ wd429) rfl dX10_wantedByAwake_36 ?_
          refine lv_aload_n hx hb dX10_wantedByAwake_39 rfl (lv_at hl 0 rfl) ?_
          refine gfB (i0 := 0) (own := RX10) (T := TX10) (k := 2) (v := .ref (a_x 2)) hx hb htX10 hown hK hP rfl e10 rfl (by decide) (hW _ wd430) rfl dX10_wantedByAwake_40 ?_
          refine lv_iload_n hx hb dX10_wantedByAwake_43 rfl (lv_at hl 3 rfl) ?_
          refine lv_iload_n hx hb dX10_wantedByAwake_44 rfl (lv_at hl 1 rfl) ?_
          obtain ⟨q6, eq6, hf⟩ := bnd hf
          refine mcVi (v := (zB q6.1)) (rest := []) (Bn := [w10 cs o_x a_x s_x, w9 cs (a_x 2) a_t s_t, w7 cs (a_x 1) a_g q6.2]) (isR := [0]) (isC := [2, 1]) (i0 := 2) ⟨hx, hb, hml, hown, hts⟩ hK hP hD hS hA hG (c7_wantsLit l D cs (a_x 1) a_g (a_x 2) a_t v2.2.2 s_t H.size v2.2.1 x1 _ eq6) (cwV 3 hts (gV wd962 wd519 wd520 wd108 wd521) rfl rfl rfl (by decide +kernel) ⟨by rw [hR]; exact Nat.le_of_ble_eq_true rfl, by rw [hR]; exact Nat.le_of_ble_eq_true rfl⟩) 3 (by decide) rfl rfl rfl rfl rfl rfl rfl e7 rfl rfl rfl hl.1 rfl (Nat.le_of_ble_eq_true rfl) ⟨Nat.zero_le _, Nat.zero_le _⟩ dX10_wantedByAwake_45 (fun H locs hP hD hS => ?_)
          refine lv_if_eq (tgt := 54) hx hb dX10_wantedByAwake_48 (by decide) (fun hc => ?_) (fun hc => ?_)
          · have hf := ifp hc hf
            exact Jq5 _ (Option.some.inj hf).symm _ _ _ hP hD hS (lv_sub hl [0, 1, 2, 3] rfl)
          · have hf := ifn hc hf
            refine lv_iinc (v := (v2.1 + 1)) (lv' := [(2, .int (v2.1 + 1)), (0, .ref o_x), (1, .int x1), (3, .int v2.2.1)]) hx hb dX10_wantedByAwake_51 hl (k := 2) rfl rfl (by decide) rfl (fun ls hl => ?_)
            exact Jq5 _ (Option.some.inj hf).symm _ _ _ hP hD hS (lv_sub hl [1, 2, 0, 3] rfl)
  exact L1 _ _ hq1 _ _ _ hP hD hS (lv_sub hl [2, 3, 1, 0] rfl)
/-! TwinLamps.busiest -/
noncomputable def f10_busiest_L2 (s_x : St) (s_t : St) (v3 : Int32 × Int32 × Int32 × St) : Option ((Int32 × Int32 × Int32 × St) ⊕ (Int32 × Int32 × St)) :=
  if (24 : Int32) ≤ v3.2.2.1 then some (.inr (v3.1, v3.2.1, v3.2.2.2)) else (f10_wantedByAwake s_x s_t v3.2.2.2 v3.2.2.1).bind fun q4 =>
  ((if q4.1 ≤ v3.2.1 then some (v3.1, v3.2.1) else some (v3.2.2.1, q4.1) : Option (Int32 × Int32))).bind fun q5 =>
  some (.inl (q5.1, q5.2, (v3.2.2.1 + 1), q4.2))
noncomputable def f10_busiest (s_x : St) (s_t : St) (s_g : St) (x1 : Int32) : Option ((Int32 × St) ⊕ Nat) :=
  xB (f10_needHourOrMany x1) fun q1 =>
  wI ((lpw (f10_busiest_L2 s_x s_t) ((-1), 0, 0, s_g)).bind fun q2 =>
  if x1 = 0 then some (q2.1, q2.2.2) else some (q2.2.1, q2.2.2))
set_option maxHeartbeats 4000000 in
set_option maxRecDepth 100000 in
theorem c10_busiest (l : Launch) (D : va_G) (cs : xE) (o_x : Nat) (a_x : Nat → Nat) (a_t : Nat → Nat) (a_g : Nat → Nat) (s_x : St) (s_t : St) (s_g : St) (sz : Nat) (x1 : Int32) (res : Int32 × St) (hf : f10_busiest s_x s_t s_g x1 = some (.inl res)) : Met l yX10_busiest (Cond.code yX10_busiest cX10_busiest 6 (some .int) :: WG) { frames := 7, cells := 0, slots := 0, locals := 110 } (va_Pc [.ref o_x, .int x1] (mP D cs (List.flatten [w10 cs o_x a_x s_x, w9 cs (a_x 2) a_t s_t, w7 cs (a_x 1) a_g s_g]) sz)) (qI D cs res.1 (List.flatten [w10 cs o_x a_x s_x, w9 cs (a_x 2) a_t s_t, w7 cs (a_x 1) a_g res.2]) (va_A (List.flatten [w10 cs o_x a_x s_x, w9 cs (a_x 2) a_t s_t, w7 cs (a_x 1) a_g s_g]) sz)) 0 0 (va_A (List.flatten [w10 cs o_x a_x s_x, w9 cs (a_x 2) a_t s_t, w7 cs (a_x 1) a_g s_g]) sz) := by
  refine mgo (Qc := qI D cs res.1 (List.flatten [w10 cs o_x a_x s_x, w9 cs (a_x 2) a_t s_t, w7 cs (a_x 1) a_g res.2])) (cc := cX10_busiest) (maxL := 6) (ret := (some .int)) (by decide) rfl (Nat.le_of_ble_eq_true rfl) ?_
  intro p e s m below meth c ls A R Q args H hR hQ hx hb hml hr hlocks hown hts hP hK hD hA hS hG hl
  have hown : s.vm.findClass RX10 = some m.cls := hown
  have hl : lv_has ls 6 [(0, .ref o_x), (1, .int x1)] := hl
  have hW : ∀ w ∈ WG, w.before args s = true := fun w h => hts w (List.mem_cons_of_mem _ h)
  unfold f10_busiest at hf
  refine lv_iload_n hx hb dX10_busiest_0 rfl (lv_at hl 1 rfl) ?_
  obtain ⟨q1, eq1, hf⟩ := xB_l hf
  refine mcSv0 (As := [.int x1]) (rest := []) ⟨hx, hb, hml, hown, hts⟩ hK hP hS hA hG (c10_needHourOrMany l D cs H.size x1 _ eq1) (va_cwS 1 hts (gS wd1061 wd1062 wd105 wd1063) rfl rfl rfl (by decide +kernel) ⟨by rw [hR]; exact Nat.le_of_ble_eq_true rfl, by rw [hR]; exact Nat.le_of_ble_eq_true rfl⟩) rfl hl.1 rfl (Nat.le_of_ble_eq_true rfl) ⟨Nat.zero_le _, Nat.zero_le _⟩ dX10_busiest_1 (fun H locs hP hS => ?_)
  have hf := wI_l hf
  refine lv_iconst (v := (-1)) hx hb dX10_busiest_4 (by decide) ?_
  refine lv_istore_n (lv' := [(2, .int (-1)), (0, .ref o_x), (1, .int x1)]) hx hb dX10_busiest_5 rfl hl (by decide) rfl (fun ls hl => ?_)
  refine lv_iconst (v := 0) hx hb dX10_busiest_6 (by decide) ?_
  refine lv_istore_n (lv' := [(3, .int 0), (2, .int (-1)), (0, .ref o_x), (1, .int x1)]) hx hb dX10_busiest_7 rfl hl (by decide) rfl (fun ls hl => ?_)
  refine lv_iconst (v := 0) hx hb dX10_busiest_8 (by decide) ?_
  refine lv_istore (lv' := [(4, .int 0), (3, .int 0), (2, .int (-1)), (0, .ref o_x), (1, .int x1)]) hx hb dX10_busiest_9 hl (by decide) rfl (fun ls hl => ?_)
  obtain ⟨q2, hq2, hf⟩ := bnd hf
  obtain ⟨n2, hq2⟩ := lpw_ex hq2
  have Jq2_0 : ∀ rr2_0 : Int32 × Int32 × St, q2 = rr2_0 → ∀ (H : Heap) (locs : List Loc) (ls : Array Slot), va_P D vwCl (List.flatten [w10 cs o_x a_x s_x, w9 cs (a_x 2) a_t s_t, w7 cs (a_x 1) a_g rr2_0.2.2]) H → va_D A (List.flatten [w10 cs o_x a_x s_x, w9 cs (a_x 2) a_t s_t, w7 cs (a_x 1) a_g rr2_0.2.2]) → va_S A s.heap H locs → lv_has ls 6 [(1, .int x1), (2, .int rr2_0.1), (3, .int rr2_0.2.1)] → W p l e R s m args below meth c H locs 0 0 Q (F0 m 44 ls []) := by
    intro rr2_0 eq2 H locs ls hP hD hS hl
    subst eq2
    refine lv_iload_n hx hb dX10_busiest_44 rfl (lv_at hl 0 rfl) ?_
    refine lv_if_ne (tgt := 52) hx hb dX10_busiest_45 (by decide) (fun hc => ?_) (fun hc => ?_)
    · have hf := ifn hc hf
      refine lv_iload_n hx hb dX10_busiest_52 rfl (lv_at hl 2 rfl) ?_
      obtain rfl := Option.some.inj hf
      exact mretI hx hb hr hlocks hK hP hD hS rfl hQ dX10_busiest_53
    · have hf := ifp hc hf
      refine lv_iload_n hx hb dX10_busiest_48 rfl (lv_at hl 1 rfl) ?_
      refine lv_goto (tgt := 53) hx hb dX10_busiest_49 (by decide) ?_
      obtain rfl := Option.some.inj hf
      exact mretI hx hb hr hlocks hK hP hD hS rfl hQ dX10_busiest_53
  clear hf
  have L2 : ∀ n2, ∀ v3 : Int32 × Int32 × Int32 × St, lp n2 (f10_busiest_L2 s_x s_t) v3 = some q2 → ∀ (H : Heap) (locs : List Loc) (ls : Array Slot), va_P D vwCl (List.flatten [w10 cs o_x a_x s_x, w9 cs (a_x 2) a_t s_t, w7 cs (a_x 1) a_g v3.2.2.2]) H → va_D A (List.flatten [w10 cs o_x a_x s_x, w9 cs (a_x 2) a_t s_t, w7 cs (a_x 1) a_g v3.2.2.2]) → va_S A s.heap H locs → lv_has ls 6 [(0, .ref o_x), (1, .int x1), (2, .int v3.1), (3, .int v3.2.1), (4, .int v3.2.2.1)] → W p l e R s m args below meth c H locs 0 0 Q (F0 m 11 ls []) := by
    intro n2
    induction n2 with
    | zero => intro v3 hn; cases hn
    | succ n2 ih2 =>
      intro v3 hn2 H locs ls hP hD hS hl
      obtain ⟨y2, hf, hn2⟩ := lp_succ hn2
      unfold f10_busiest_L2 at hf
      refine lv_iload hx hb dX10_busiest_11 (lv_at hl 4 rfl) ?_
      refine lv_bipush (v := 24) hx hb dX10_busiest_13 (by decide) ?_
      refine lv_icmp_ge (tgt := 44) hx hb dX10_busiest_15 (by decide) (fun hc => ?_) (fun hc => ?_)
      · have hf := ifp hc hf
        cases hf
        exact Jq2_0 _ (Option.some.inj hn2).symm _ _ _ hP hD hS (lv_sub hl [1, 2, 3] rfl)
      · have hf := ifn hc hf
        refine lv_aload_n hx hb dX10_busiest_18 rfl (lv_at hl 0 rfl) ?_
        refine lv_iload hx hb dX10_busiest_19 (lv_at hl 4 rfl) ?_
        obtain ⟨q4, eq4, hf⟩ := bnd hf
        refine mcVi (v := q4.1) (rest := []) (Bn := [w10 cs o_x a_x s_x, w9 cs (a_x 2) a_t s_t, w7 cs (a_x 1) a_g q4.2]) (isR := []) (isC := [0, 1, 2]) (i0 := 0) ⟨hx, hb, hml, hown, hts⟩ hK hP hD hS hA hG (c10_wantedByAwake l D cs o_x a_x a_t a_g s_x s_t v3.2.2.2 H.size v3.2.2.1 _ eq4) (cwV 1 hts (gV wd1065 wd1067 wd27 wd105 wd1068) rfl rfl rfl (by decide +kernel) ⟨by rw [hR]; exact Nat.le_of_ble_eq_true rfl, by rw [hR]; exact Nat.le_of_ble_eq_true rfl⟩) 3 (by decide) rfl rfl rfl rfl rfl rfl rfl e10 rfl rfl rfl hl.1 rfl (Nat.le_of_ble_eq_true rfl) ⟨Nat.zero_le _, Nat.zero_le _⟩ dX10_busiest_21 (fun H locs hP hD hS => ?_)
        refine lv_istore (lv' := [(5, .int q4.1), (0, .ref o_x), (1, .int x1), (2, .int v3.1), (3, .int v3.2.1), (4, .int v3.2.2.1)]) hx hb dX10_busiest_24 hl (by decide) rfl (fun ls hl => ?_)
        refine lv_iload hx hb dX10_busiest_26 (lv_at hl 0 rfl) ?_
        refine lv_iload_n hx hb dX10_busiest_28 rfl (lv_at hl 4 rfl) ?_
        obtain ⟨q5, hq5, hf⟩ := bnd hf
        have Jq5 : ∀ r5 : Int32 × Int32, q5 = r5 → ∀ (H : Heap) (locs : List Loc) (ls : Array Slot), va_P D vwCl (List.flatten [w10 cs o_x a_x s_x, w9 cs (a_x 2) a_t s_t, w7 cs (a_x 1) a_g q4.2]) H → va_D A (List.flatten [w10 cs o_x a_x s_x, w9 cs (a_x 2) a_t s_t, w7 cs (a_x 1) a_g q4.2]) → va_S A s.heap H locs → lv_has ls 6 [(0, .ref o_x), (1, .int x1), (2, .int r5.1), (3, .int r5.2), (4, .int v3.2.2.1)] → W p l e R s m args below meth c H locs 0 0 Q (F0 m 38 ls []) := by
          intro r5 eq5 H locs ls hP hD hS hl
          subst eq5
          refine lv_iinc (v := (v3.2.2.1 + 1)) (lv' := [(4, .int (v3.2.2.1 + 1)), (0, .ref o_x), (1, .int x1), (2, .int q5.1), (3, .int q5.2)]) hx hb dX10_busiest_38 hl (k := 4) rfl rfl (by decide) rfl (fun ls hl => ?_)
          refine lv_goto (tgt := 11) hx hb dX10_busiest_41 (by decide) ?_
          cases hf
          exact ih2 _ hn2 _ _ _ hP hD hS (lv_sub hl [1, 2, 3, 4, 0] rfl)
        clear hf
        have hf := hq5
        refine lv_icmp_le (tgt := 38) hx hb dX10_busiest_29 (by decide) (fun hc => ?_) (fun hc => ?_)
        · have hf := ifp hc hf
          exact Jq5 _ (Option.some.inj hf).symm _ _ _ hP hD hS (lv_sub hl [1, 2, 3, 4, 5] rfl)
        · have hf := ifn hc hf
          refine lv_iload hx hb dX10_busiest_32 (lv_at hl 0 rfl) ?_
          refine lv_istore_n (lv' := [(3, .int q4.1), (5, .int q4.1), (0, .ref o_x), (1, .int x1), (2, .int v3.1), (4, .int v3.2.2.1)]) hx hb dX10_busiest_34 rfl hl (by decide) rfl (fun ls hl => ?_)
          refine lv_iload hx hb dX10_busiest_35 (lv_at hl 5 rfl) ?_
          refine lv_istore_n (lv' := [(2, .int v3.2.2.1), (3, .int q4.1), (5, .int q4.1), (0, .ref o_x), (1, .int x1), (4, .int v3.2.2.1)]) hx hb dX10_busiest_37 rfl hl (by decide) rfl (fun ls hl => ?_)
          exact Jq5 _ (Option.some.inj hf).symm _ _ _ hP hD hS (lv_sub hl [3, 4, 0, 1, 5] rfl)
  exact L2 _ _ hq2 _ _ _ hP hD hS (lv_sub hl [3, 4, 2, 1, 0] rfl)
set_option maxHeartbeats 4000000 in
set_option maxRecDepth 100000 in
theorem c10x_busiest (l : Launch) (D : va_G) (cs : xE) (hl0 : l.stackTraces = false) (o_x : Nat) (a_x : Nat → Nat) (a_t : Nat → Nat) (a_g : Nat → Nat) (s_x : St) (s_t : St) (s_g : St) (sz : Nat) (x1 : Int32) (k : Nat) (hf : f10_busiest s_x s_t s_g x1 = some (.inr k)) : vx_Met l yX10_busiest (Cond.code yX10_busiest cX10_busiest 6 (some .int) :: WG) { frames := 7, cells := 1, slots := 6, locals := 110 } (va_Pc [.ref o_x, .int x1] (mP D cs (List.flatten [w10 cs o_x a_x s_x, w9 cs (a_x 2) a_t s_t, w7 cs (a_x 1) a_g s_g]) sz)) (fun _ _ _ _ => False) (qX D cs k (List.flatten [w10 cs o_x a_x s_x, w9 cs (a_x 2) a_t s_t, w7 cs (a_x 1) a_g s_g]) (va_A (List.flatten [w10 cs o_x a_x s_x, w9 cs (a_x 2) a_t s_t, w7 cs (a_x 1) a_g s_g]) sz)) 1 6 (va_A (List.flatten [w10 cs o_x a_x s_x, w9 cs (a_x 2) a_t s_t, w7 cs (a_x 1) a_g s_g]) sz) := by
  refine mgoX (cc := cX10_busiest) (maxL := 6) (ret := (some .int)) (by decide) rfl (Nat.le_of_ble_eq_true rfl) ?_
  intro p e s m below meth c ls A R Q args H hR hQ hno hx hb hml hr hlocks hown hts hP hK hD hA hS hG hl
  have hown : s.vm.findClass RX10 = some m.cls := hown
  have hl : lv_has ls 6 [(0, .ref o_x), (1, .int x1)] := hl
  have hW : ∀ w ∈ WG, w.before args s = true := fun w h => hts w (List.mem_cons_of_mem _ h)
  unfold f10_busiest at hf
  refine lv_iload_n hx hb dX10_busiest_0 rfl (lv_at hl 1 rfl) ?_
  rcases xB_r hf with xq1 | ⟨q1, eq1, hf⟩
  · exact mxS0 (As := [.int x1]) (rest := []) ⟨hx, hb, hml, hown, hts⟩ hK hP hD hS hA hG (c10x_needHourOrMany l D cs hl0 H.size x1 _ xq1) (va_cwS 1 hts (gS wd1061 wd1062 wd105 wd1063) rfl rfl rfl (by decide +kernel) ⟨by rw [hR]; exact Nat.le_of_ble_eq_true rfl, by rw [hR]; exact Nat.le_of_ble_eq_true rfl⟩) rfl hl.1 rfl (Nat.le_of_ble_eq_true rfl) ⟨by rw [hR]; exact Nat.le_of_ble_eq_true rfl, by rw [hR]; exact Nat.le_of_ble_eq_true rfl⟩ dX10_busiest_1 hno hlocks hQ
  refine mcSv0 (As := [.int x1]) (rest := []) ⟨hx, hb, hml, hown, hts⟩ hK hP hS hA hG (c10_needHourOrMany l D cs H.size x1 _ eq1) (va_cwS 1 hts (gS wd1061 wd1062 wd105 wd1063) rfl rfl rfl (by decide +kernel) ⟨by rw [hR]; exact Nat.le_of_ble_eq_true rfl, by rw [hR]; exact Nat.le_of_ble_eq_true rfl⟩) rfl hl.1 rfl (Nat.le_of_ble_eq_true rfl) ⟨Nat.zero_le _, Nat.zero_le _⟩ dX10_busiest_1 (fun H locs hP hS => ?_)
  exact (wI_r hf).elim
/-! TwinLamps.lasts -/
noncomputable def f10_lasts_L3 (x1 : Int32) (v4 : Int32 × St × St × St) : Option ((Int32 × St × St × St) ⊕ ((Int32 × St × St × St) ⊕ (St × St × St))) :=
  if (96 : Int32) < v4.1 then some (.inr (.inr (v4.2.1, v4.2.2.1, v4.2.2.2))) else (ldO 12 (v4.2.1.2 9) x1).bind fun q5 =>
  if q5 = 0 then some (.inr (.inl (v4.1, v4.2.1, v4.2.2.1, v4.2.2.2))) else (f2_passHour v4.2.2.1 v4.2.2.2 v4.2.1).bind fun q6 =>
  some (.inl ((v4.1 + 1), q6.2.2, q6.1, q6.2.1))
noncomputable def f10_lasts (s_x : St) (s_t : St) (s_t2 : St) (s_e : St) (s_g : St) (x1 : Int32) : Option ((Int32 × St × St × St) ⊕ Nat) :=
  xB (f10_needLamp s_x s_t x1) fun q1 =>
  wI ((f9_copyFrom s_t2 s_t).bind fun q2 =>
  (lpw (f10_lasts_L3 x1) (0, q2, s_e, s_g)).bind fun q3 =>
  match q3 with
  | .inl r3_0 => (some (r3_0.1, r3_0.2.1, r3_0.2.2.1, r3_0.2.2.2))
  | .inr r3_1 => (some ((-1), r3_1.1, r3_1.2.1, r3_1.2.2)))
set_option maxHeartbeats 4000000 in
set_option maxRecDepth 100000 in
theorem c10_lasts (l : Launch) (D : va_G) (cs : xE) (o_x : Nat) (a_x : Nat → Nat) (a_t : Nat → Nat) (a_t2 : Nat → Nat) (a_g : Nat → Nat) (s_x : St) (s_t : St) (s_t2 : St) (s_e : St) (s_g : St) (sz : Nat) (x1 : Int32) (res : Int32 × St × St × St) (hf : f10_lasts s_x s_t s_t2 s_e s_g x1 = some (.inl res)) : Met l yX10_lasts (Cond.code yX10_lasts cX10_lasts 3 (some .int) :: WG) { frames := 7, cells := 0, slots := 0, locals := 111 } (va_Pc [.ref o_x, .int x1] (mP D cs (List.flatten [w10 cs o_x a_x s_x, w9 cs (a_x 2) a_t s_t, w9 cs (a_x 9) a_t2 s_t2, w2 cs (a_x 8) a0n s_e, w7 cs (a_x 1) a_g s_g]) sz)) (qI D cs res.1 (List.flatten [w10 cs o_x a_x s_x, w9 cs (a_x 2) a_t s_t, w9 cs (a_x 9) a_t2 res.2.1, w2 cs (a_x 8) a0n res.2.2.1, w7 cs (a_x 1) a_g res.2.2.2]) (va_A (List.flatten [w10 cs o_x a_x s_x, w9 cs (a_x 2) a_t s_t, w9 cs (a_x 9) a_t2 s_t2, w2 cs (a_x 8) a0n s_e, w7 cs (a_x 1) a_g s_g]) sz)) 0 0 (va_A (List.flatten [w10 cs o_x a_x s_x, w9 cs (a_x 2) a_t s_t, w9 cs (a_x 9) a_t2 s_t2, w2 cs (a_x 8) a0n s_e, w7 cs (a_x 1) a_g s_g]) sz) := by
  refine mgo (Qc := qI D cs res.1 (List.flatten [w10 cs o_x a_x s_x, w9 cs (a_x 2) a_t s_t, w9 cs (a_x 9) a_t2 res.2.1, w2 cs (a_x 8) a0n res.2.2.1, w7 cs (a_x 1) a_g res.2.2.2])) (cc := cX10_lasts) (maxL := 3) (ret := (some .int)) (by decide) rfl (Nat.le_of_ble_eq_true rfl) ?_
  intro p e s m below meth c ls A R Q args H hR hQ hx hb hml hr hlocks hown hts hP hK hD hA hS hG hl
  have hown : s.vm.findClass RX10 = some m.cls := hown
  have hl : lv_has ls 3 [(0, .ref o_x), (1, .int x1)] := hl
  have hW : ∀ w ∈ WG, w.before args s = true := fun w h => hts w (List.mem_cons_of_mem _ h)
  have htX10 : ∀ w ∈ u_ws RX10 TX10 14, w.before args s = true := fun w h => hW w (inW_X10 w h)
  have htX9 : ∀ w ∈ u_ws RX9 TX9 11, w.before args s = true := fun w h => hW w (inW_X9 w h)
  unfold f10_lasts at hf
  refine lv_aload_n hx hb dX10_lasts_0 rfl (lv_at hl 0 rfl) ?_
  refine lv_iload_n hx hb dX10_lasts_1 rfl (lv_at hl 1 rfl) ?_
  obtain ⟨q1, eq1, hf⟩ := xB_l hf
  refine mcVv (rest := []) (Bn := [w10 cs o_x a_x s_x, w9 cs (a_x 2) a_t s_t, w9 cs (a_x 9) a_t2 s_t2, w2 cs (a_x 8) a0n s_e, w7 cs (a_x 1) a_g s_g]) (isR := [2, 3, 4]) (isC := [0, 1]) (i0 := 0) ⟨hx, hb, hml, hown, hts⟩ hK hP hD hS hA hG (c10_needLamp l D cs o_x a_x a_t s_x s_t H.size x1 _ eq1) (cwV 1 hts (gV wd952 wd954 wd26 wd105 wd955) rfl rfl rfl (by decide +kernel) ⟨by rw [hR]; exact Nat.le_of_ble_eq_true rfl, by rw [hR]; exact Nat.le_of_ble_eq_true rfl⟩) 5 (by decide) rfl rfl rfl rfl rfl rfl rfl e10 rfl rfl rfl hl.1 rfl (Nat.le_of_ble_eq_true rfl) ⟨Nat.zero_le _, Nat.zero_le _⟩ dX10_lasts_2 (fun H locs hP hD hS => ?_)
  have hf := wI_l hf
  refine lv_aload_n hx hb dX10_lasts_5 rfl (lv_at hl 0 rfl) ?_
  refine gfB (i0 := 0) (own := RX10) (T := TX10) (k := 9) (v := .ref (a_x 9)) hx hb htX10 hown hK hP rfl e10 rfl (by decide) (hW _ wd437) rfl dX10_lasts_6 ?_
  refine lv_aload_n hx hb dX10_lasts_9 rfl (lv_at hl 0 rfl) ?_
  refine gfB (i0 := 0) (own := RX10) (T := TX10) (k := 2) (v := .ref (a_x 2)) hx hb htX10 hown hK hP rfl e10 rfl (by decide) (hW _ wd430) rfl dX10_lasts_10 ?_
  obtain ⟨q2, eq2, hf⟩ := bnd hf
  refine mcVv (rest := []) (Bn := [w10 cs o_x a_x s_x, w9 cs (a_x 2) a_t s_t, w9 cs (a_x 9) a_t2 q2, w2 cs (a_x 8) a0n s_e, w7 cs (a_x 1) a_g s_g]) (isR := [0, 3, 4]) (isC := [2, 1]) (i0 := 2) ⟨hx, hb, hml, hown, hts⟩ hK hP hD hS hA hG (c9_copyFrom l D cs (a_x 9) a_t2 (a_x 2) a_t s_t2 s_t H.size _ eq2) (cwV 1 hts (gV wd599 wd500 wd501 wd107 wd502) rfl rfl rfl (by decide +kernel) ⟨by rw [hR]; exact Nat.le_of_ble_eq_true rfl, by rw [hR]; exact Nat.le_of_ble_eq_true rfl⟩) 5 (by decide) rfl rfl rfl rfl rfl rfl rfl e9 rfl rfl rfl hl.1 rfl (Nat.le_of_ble_eq_true rfl) ⟨Nat.zero_le _, Nat.zero_le _⟩ dX10_lasts_13 (fun H locs hP hD hS => ?_)
  refine lv_iconst (v := 0) hx hb dX10_lasts_16 (by decide) ?_
  refine lv_istore_n (lv' := [(2, .int 0), (0, .ref o_x), (1, .int x1)]) hx hb dX10_lasts_17 rfl hl (by decide) rfl (fun ls hl => ?_)
  obtain ⟨q3, hq3, hf⟩ := bnd hf
  obtain ⟨n3, hq3⟩ := lpw_ex hq3
  have Jq3_0 : ∀ rr3_0 : Int32 × St × St × St, q3 = (.inl rr3_0) → ∀ (H : Heap) (locs : List Loc) (ls : Array Slot), va_P D vwCl (List.flatten [w10 cs o_x a_x s_x, w9 cs (a_x 2) a_t s_t, w9 cs (a_x 9) a_t2 rr3_0.2.1, w2 cs (a_x 8) a0n rr3_0.2.2.1, w7 cs (a_x 1) a_g rr3_0.2.2.2]) H → va_D A (List.flatten [w10 cs o_x a_x s_x, w9 cs (a_x 2) a_t s_t, w9 cs (a_x 9) a_t2 rr3_0.2.1, w2 cs (a_x 8) a0n rr3_0.2.2.1, w7 cs (a_x 1) a_g rr3_0.2.2.2]) → va_S A s.heap H locs → lv_has ls 3 [(2, .int rr3_0.1)] → W p l e R s m args below meth c H locs 0 0 Q (F0 m 36 ls []) := by
    intro r3_0 eq3 H locs ls hP hD hS hl
    subst eq3
    try dsimp only at hf
    refine lv_iload_n hx hb dX10_lasts_36 rfl (lv_at hl 0 rfl) ?_
    obtain rfl := Option.some.inj hf
    exact mretI hx hb hr hlocks hK hP hD hS rfl hQ dX10_lasts_37
  have Jq3_1 : ∀ rr3_1 : St × St × St, q3 = (.inr rr3_1) → ∀ (H : Heap) (locs : List Loc) (ls : Array Slot), va_P D vwCl (List.flatten [w10 cs o_x a_x s_x, w9 cs (a_x 2) a_t s_t, w9 cs (a_x 9) a_t2 rr3_1.1, w2 cs (a_x 8) a0n rr3_1.2.1, w7 cs (a_x 1) a_g rr3_1.2.2]) H → va_D A (List.flatten [w10 cs o_x a_x s_x, w9 cs (a_x 2) a_t s_t, w9 cs (a_x 9) a_t2 rr3_1.1, w2 cs (a_x 8) a0n rr3_1.2.1, w7 cs (a_x 1) a_g rr3_1.2.2]) → va_S A s.heap H locs → lv_has ls 3 [] → W p l e R s m args below meth c H locs 0 0 Q (F0 m 59 ls []) := by
    intro r3_1 eq3 H locs ls hP hD hS hl
    subst eq3
    try dsimp only at hf
    refine lv_iconst (v := (-1)) hx hb dX10_lasts_59 (by decide) ?_
    obtain rfl := Option.some.inj hf
    exact mretI hx hb hr hlocks hK hP hD hS rfl hQ dX10_lasts_60
  clear hf
  have L3 : ∀ n3, ∀ v4 : Int32 × St × St × St, lp n3 (f10_lasts_L3 x1) v4 = some q3 → ∀ (H : Heap) (locs : List Loc) (ls : Array Slot), va_P D vwCl (List.flatten [w10 cs o_x a_x s_x, w9 cs (a_x 2) a_t s_t, w9 cs (a_x 9) a_t2 v4.2.1, w2 cs (a_x 8) a0n v4.2.2.1, w7 cs (a_x 1) a_g v4.2.2.2]) H → va_D A (List.flatten [w10 cs o_x a_x s_x, w9 cs (a_x 2) a_t s_t, w9 cs (a_x 9) a_t2 v4.2.1, w2 cs (a_x 8) a0n v4.2.2.1, w7 cs (a_x 1) a_g v4.2.2.2]) → va_S A s.heap H locs → lv_has ls 3 [(0, .ref o_x), (1, .int x1), (2, .int v4.1)] → W p l e R s m args below meth c H locs 0 0 Q (F0 m 18 ls []) := by
    intro n3
    induction n3 with
    | zero => intro v4 hn; cases hn
    | succ n3 ih3 =>
      intro v4 hn3 H locs ls hP hD hS hl
      obtain ⟨y3, hf, hn3⟩ := lp_succ hn3
      unfold f10_lasts_L3 at hf
      refine lv_iload_n hx hb dX10_lasts_18 rfl (lv_at hl 2 rfl) ?_
      refine lv_bipush (v := 96) hx hb dX10_lasts_19 (by decide) ?_
      refine lv_icmp_gt (tgt := 59) hx hb dX10_lasts_21 (by decide) (fun hc => ?_) (fun hc => ?_)
      · have hf := ifp hc hf
        cases hf
        exact Jq3_1 _ (Option.some.inj hn3).symm _ _ _ hP hD hS (lv_sub hl [] rfl)
      · have hf := ifn hc hf
        refine lv_aload_n hx hb dX10_lasts_24 rfl (lv_at hl 0 rfl) ?_
        refine gfB (i0 := 0) (own := RX10) (T := TX10) (k := 9) (v := .ref (a_x 9)) hx hb htX10 hown hK hP rfl e10 rfl (by decide) (hW _ wd437) rfl dX10_lasts_25 ?_
        refine gfB (i0 := 2) (own := RX10) (T := TX9) (k := 9) (v := .ref (a_t2 9)) hx hb htX9 hown hK hP rfl e9 rfl (by decide) (hW _ wd179) rfl dX10_lasts_28 ?_
        refine lv_iload_n hx hb dX10_lasts_31 rfl (lv_at hl 1 rfl) ?_
        obtain ⟨q5, eq5, hf⟩ := bnd hf
        obtain ⟨gq5, eq5⟩ := ldO_e eq5
        refine aldB (i0 := 2) hx hb hK hP rfl a9_9 gq5 dX10_lasts_32 ?_
        refine lv_nm eq5 ?_
        refine lv_if_ne (tgt := 38) hx hb dX10_lasts_33 (by decide) (fun hc => ?_) (fun hc => ?_)
        · have hf := ifn hc hf
          refine lv_aload_n hx hb dX10_lasts_38 rfl (lv_at hl 0 rfl) ?_
          refine gfB (i0 := 0) (own := RX10) (T := TX10) (k := 8) (v := .ref (a_x 8)) hx hb htX10 hown hK hP rfl e10 rfl (by decide) (hW _ wd436) rfl dX10_lasts_39 ?_
          refine lv_aload_n hx hb dX10_lasts_42 rfl (lv_at hl 0 rfl) ?_
          refine gfB (i0 := 0) (own := RX10) (T := TX10) (k := 1) (v := .ref (a_x 1)) hx hb htX10 hown hK hP rfl e10 rfl (by decide) (hW _ wd429) rfl dX10_lasts_43 ?_
          refine lv_aload_n hx hb dX10_lasts_46 rfl (lv_at hl 0 rfl) ?_
          refine gfB (i0 := 0) (own := RX10) (T := TX10) (k := 9) (v := .ref (a_x 9)) hx hb htX10 hown hK hP rfl e10 rfl (by decide) (hW _ wd437) rfl dX10_lasts_47 ?_
          obtain ⟨q6, eq6, hf⟩ := bnd hf
          refine mcVv (rest := []) (Bn := [w10 cs o_x a_x s_x, w9 cs (a_x 2) a_t s_t, w9 cs (a_x 9) a_t2 q6.2.2, w2 cs (a_x 8) a0n q6.1, w7 cs (a_x 1) a_g q6.2.1]) (isR := [0, 1]) (isC := [3, 4, 2]) (i0 := 3) ⟨hx, hb, hml, hown, hts⟩ hK hP hD hS hA hG (c2_passHour l D cs (a_x 8) (a_x 1) a_g (a_x 9) a_t2 v4.2.2.1 v4.2.2.2 v4.2.1 H.size _ eq6) (cwV 2 hts (gV wd506 wd507 wd508 wd112 wd509) rfl rfl rfl (by decide +kernel) ⟨by rw [hR]; exact Nat.le_of_ble_eq_true rfl, by rw [hR]; exact Nat.le_of_ble_eq_true rfl⟩) 5 (by decide) rfl rfl rfl rfl rfl rfl rfl e2 rfl rfl rfl hl.1 rfl (Nat.le_of_ble_eq_true rfl) ⟨Nat.zero_le _, Nat.zero_le _⟩ dX10_lasts_50 (fun H locs hP hD hS => ?_)
          refine lv_iinc (v := (v4.1 + 1)) (lv' := [(2, .int (v4.1 + 1)), (0, .ref o_x), (1, .int x1)]) hx hb dX10_lasts_53 hl (k := 2) rfl rfl (by decide) rfl (fun ls hl => ?_)
          refine lv_goto (tgt := 18) hx hb dX10_lasts_56 (by decide) ?_
          cases hf
          exact ih3 _ hn3 _ _ _ hP hD hS (lv_sub hl [1, 2, 0] rfl)
        · have hf := ifp hc hf
          cases hf
          exact Jq3_0 _ (Option.some.inj hn3).symm _ _ _ hP hD hS (lv_sub hl [2] rfl)
  exact L3 _ _ hq3 _ _ _ hP hD hS (lv_sub hl [1, 2, 0] rfl)
set_option maxHeartbeats 4000000 in
set_option maxRecDepth 100000 in
theorem c10x_lasts (l : Launch) (D : va_G) (cs : xE) (hl0 : l.stackTraces = false) (o_x : Nat) (a_x : Nat → Nat) (a_t : Nat → Nat) (a_t2 : Nat → Nat) (a_g : Nat → Nat) (s_x : St) (s_t : St) (s_t2 : St) (s_e : St) (s_g : St) (sz : Nat) (x1 : Int32) (k : Nat) (hf : f10_lasts s_x s_t s_t2 s_e s_g x1 = some (.inr k)) : vx_Met l yX10_lasts (Cond.code yX10_lasts cX10_lasts 3 (some .int) :: WG) { frames := 7, cells := 1, slots := 6, locals := 111 } (va_Pc [.ref o_x, .int x1] (mP D cs (List.flatten [w10 cs o_x a_x s_x, w9 cs (a_x 2) a_t s_t, w9 cs (a_x 9) a_t2 s_t2, w2 cs (a_x 8) a0n s_e, w7 cs (a_x 1) a_g s_g]) sz)) (fun _ _ _ _ => False) (qX D cs k (List.flatten [w10 cs o_x a_x s_x, w9 cs (a_x 2) a_t s_t, w9 cs (a_x 9) a_t2 s_t2, w2 cs (a_x 8) a0n s_e, w7 cs (a_x 1) a_g s_g]) (va_A (List.flatten [w10 cs o_x a_x s_x, w9 cs (a_x 2) a_t s_t, w9 cs (a_x 9) a_t2 s_t2, w2 cs (a_x 8) a0n s_e, w7 cs (a_x 1) a_g s_g]) sz)) 1 6 (va_A (List.flatten [w10 cs o_x a_x s_x, w9 cs (a_x 2) a_t s_t, w9 cs (a_x 9) a_t2 s_t2, w2 cs (a_x 8) a0n s_e, w7 cs (a_x 1) a_g s_g]) sz) := by
  refine mgoX (cc := cX10_lasts) (maxL := 3) (ret := (some .int)) (by decide) rfl (Nat.le_of_ble_eq_true rfl) ?_
  intro p e s m below meth c ls A R Q args H hR hQ hno hx hb hml hr hlocks hown hts hP hK hD hA hS hG hl
  have hown : s.vm.findClass RX10 = some m.cls := hown
  have hl : lv_has ls 3 [(0, .ref o_x), (1, .int x1)] := hl
  have hW : ∀ w ∈ WG, w.before args s = true := fun w h => hts w (List.mem_cons_of_mem _ h)
  have htX10 : ∀ w ∈ u_ws RX10 TX10 14, w.before args s = true := fun w h => hW w (inW_X10 w h)
  have htX9 : ∀ w ∈ u_ws RX9 TX9 11, w.before args s = true := fun w h => hW w (inW_X9 w h)
  unfold f10_lasts at hf
  refine lv_aload_n hx hb dX10_lasts_0 rfl (lv_at hl 0 rfl) ?_
  refine lv_iload_n hx hb dX10_lasts_1 rfl (lv_at hl 1 rfl) ?_
  rcases xB_r hf with xq1 | ⟨q1, eq1, hf⟩
  · exact mxV (rest := []) (isR := [2, 3, 4]) (isC := [0, 1]) (i0 := 0) ⟨hx, hb, hml, hown, hts⟩ hK hP hD hS hA hG (c10x_needLamp l D cs hl0 o_x a_x a_t s_x s_t H.size x1 _ xq1) (cwV 1 hts (gV wd952 wd954 wd26 wd105 wd955) rfl rfl rfl (by decide +kernel) ⟨by rw [hR]; exact Nat.le_of_ble_eq_true rfl, by rw [hR]; exact Nat.le_of_ble_eq_true rfl⟩) 5 (by decide) rfl rfl rfl rfl e10 rfl rfl rfl hl.1 rfl (Nat.le_of_ble_eq_true rfl) ⟨by rw [hR]; exact Nat.le_of_ble_eq_true rfl, by rw [hR]; exact Nat.le_of_ble_eq_true rfl⟩ dX10_lasts_2 hno hlocks hQ
  refine mcVv (rest := []) (Bn := [w10 cs o_x a_x s_x, w9 cs (a_x 2) a_t s_t, w9 cs (a_x 9) a_t2 s_t2, w2 cs (a_x 8) a0n s_e, w7 cs (a_x 1) a_g s_g]) (isR := [2, 3, 4]) (isC := [0, 1]) (i0 := 0) ⟨hx, hb, hml, hown, hts⟩ hK hP hD hS hA hG (c10_needLamp l D cs o_x a_x a_t s_x s_t H.size x1 _ eq1) (cwV 1 hts (gV wd952 wd954 wd26 wd105 wd955) rfl rfl rfl (by decide +kernel) ⟨by rw [hR]; exact Nat.le_of_ble_eq_true rfl, by rw [hR]; exact Nat.le_of_ble_eq_true rfl⟩) 5 (by decide) rfl rfl rfl rfl rfl rfl rfl e10 rfl rfl rfl hl.1 rfl (Nat.le_of_ble_eq_true rfl) ⟨Nat.zero_le _, Nat.zero_le _⟩ dX10_lasts_2 (fun H locs hP hD hS => ?_)
  exact (wI_r hf).elim
/-! TwinLamps.grief -/
noncomputable def f10_grief_L5 (x2 : Int32) (q4 : Int32) (v6 : Int32 × Int32 × St × St × St) : Option ((Int32 × Int32 × St × St × St) ⊕ (Int32 × St × St × St)) :=
  if x2 ≤ v6.2.1 then some (.inr (v6.1, v6.2.2.1, v6.2.2.2.1, v6.2.2.2.2)) else (f2_passHour v6.2.2.2.1 v6.2.2.2.2 v6.2.2.1).bind fun q7 =>
  (fJ6_bitCount ((q7.1.1 1) &&& q4)).bind fun q8 =>
  some (.inl ((v6.1 + q8), (v6.2.1 + 1), q7.2.2, q7.1, q7.2.1))
noncomputable def f10_grief (s_x : St) (s_t : St) (s_t2 : St) (s_e : St) (s_g : St) (x1 : Int32) (x2 : Int32) : Option ((Int32 × St × St × St) ⊕ Nat) :=
  xB (f10_needHouse s_x s_t x1) fun q1 =>
  xB (f10_needAhead x2) fun q2 =>
  wI ((f9_copyFrom s_t2 s_t).bind fun q3 =>
  (f9_lampsOf s_t x1).bind fun q4 =>
  (lpw (f10_grief_L5 x2 q4) (0, 0, q3, s_e, s_g)).bind fun q5 =>
  some (q5.1, q5.2.1, q5.2.2.1, q5.2.2.2))
set_option maxHeartbeats 4000000 in
set_option maxRecDepth 100000 in
theorem c10_grief (l : Launch) (D : va_G) (cs : xE) (o_x : Nat) (a_x : Nat → Nat) (a_t : Nat → Nat) (a_t2 : Nat → Nat) (a_g : Nat → Nat) (s_x : St) (s_t : St) (s_t2 : St) (s_e : St) (s_g : St) (sz : Nat) (x1 : Int32) (x2 : Int32) (res : Int32 × St × St × St) (hf : f10_grief s_x s_t s_t2 s_e s_g x1 x2 = some (.inl res)) : Met l yX10_grief (Cond.code yX10_grief cX10_grief 6 (some .int) :: WG) { frames := 7, cells := 0, slots := 0, locals := 111 } (va_Pc [.ref o_x, .int x1, .int x2] (mP D cs (List.flatten [w10 cs o_x a_x s_x, w9 cs (a_x 2) a_t s_t, w9 cs (a_x 9) a_t2 s_t2, w2 cs (a_x 8) a0n s_e, w7 cs (a_x 1) a_g s_g]) sz)) (qI D cs res.1 (List.flatten [w10 cs o_x a_x s_x, w9 cs (a_x 2) a_t s_t, w9 cs (a_x 9) a_t2 res.2.1, w2 cs (a_x 8) a0n res.2.2.1, w7 cs (a_x 1) a_g res.2.2.2]) (va_A (List.flatten [w10 cs o_x a_x s_x, w9 cs (a_x 2) a_t s_t, w9 cs (a_x 9) a_t2 s_t2, w2 cs (a_x 8) a0n s_e, w7 cs (a_x 1) a_g s_g]) sz)) 0 0 (va_A (List.flatten [w10 cs o_x a_x s_x, w9 cs (a_x 2) a_t s_t, w9 cs (a_x 9) a_t2 s_t2, w2 cs (a_x 8) a0n s_e, w7 cs (a_x 1) a_g s_g]) sz) := by
  refine mgo (Qc := qI D cs res.1 (List.flatten [w10 cs o_x a_x s_x, w9 cs (a_x 2) a_t s_t, w9 cs (a_x 9) a_t2 res.2.1, w2 cs (a_x 8) a0n res.2.2.1, w7 cs (a_x 1) a_g res.2.2.2])) (cc := cX10_grief) (maxL := 6) (ret := (some .int)) (by decide) rfl (Nat.le_of_ble_eq_true rfl) ?_
  intro p e s m below meth c ls A R Q args H hR hQ hx hb hml hr hlocks hown hts hP hK hD hA hS hG hl
  have hown : s.vm.findClass RX10 = some m.cls := hown
  have hl : lv_has ls 6 [(0, .ref o_x), (1, .int x1), (2, .int x2)] := hl
  have hW : ∀ w ∈ WG, w.before args s = true := fun w h => hts w (List.mem_cons_of_mem _ h)
  have htX10 : ∀ w ∈ u_ws RX10 TX10 14, w.before args s = true := fun w h => hW w (inW_X10 w h)
  have htX2 : ∀ w ∈ u_ws RX2 TX2 5, w.before args s = true := fun w h => hW w (inW_X2 w h)
  unfold f10_grief at hf
  refine lv_aload_n hx hb dX10_grief_0 rfl (lv_at hl 0 rfl) ?_
  refine lv_iload_n hx hb dX10_grief_1 rfl (lv_at hl 1 rfl) ?_
  obtain ⟨q1, eq1, hf⟩ := xB_l hf
  refine mcVv (rest := []) (Bn := [w10 cs o_x a_x s_x, w9 cs (a_x 2) a_t s_t, w9 cs (a_x 9) a_t2 s_t2, w2 cs (a_x 8) a0n s_e, w7 cs (a_x 1) a_g s_g]) (isR := [2, 3, 4]) (isC := [0, 1]) (i0 := 0) ⟨hx, hb, hml, hown, hts⟩ hK hP hD hS hA hG (c10_needHouse l D cs o_x a_x a_t s_x s_t H.size x1 _ eq1) (cwV 1 hts (gV wd937 wd939 wd25 wd105 wd940) rfl rfl rfl (by decide +kernel) ⟨by rw [hR]; exact Nat.le_of_ble_eq_true rfl, by rw [hR]; exact Nat.le_of_ble_eq_true rfl⟩) 5 (by decide) rfl rfl rfl rfl rfl rfl rfl e10 rfl rfl rfl hl.1 rfl (Nat.le_of_ble_eq_true rfl) ⟨Nat.zero_le _, Nat.zero_le _⟩ dX10_grief_2 (fun H locs hP hD hS => ?_)
  refine lv_iload_n hx hb dX10_grief_5 rfl (lv_at hl 2 rfl) ?_
  obtain ⟨q2, eq2, hf⟩ := xB_l hf
  refine mcSv0 (As := [.int x2]) (rest := []) ⟨hx, hb, hml, hown, hts⟩ hK hP hS hA hG (c10_needAhead l D cs H.size x2 _ eq2) (va_cwS 1 hts (gS wd1036 wd1037 wd105 wd1038) rfl rfl rfl (by decide +kernel) ⟨by rw [hR]; exact Nat.le_of_ble_eq_true rfl, by rw [hR]; exact Nat.le_of_ble_eq_true rfl⟩) rfl hl.1 rfl (Nat.le_of_ble_eq_true rfl) ⟨Nat.zero_le _, Nat.zero_le _⟩ dX10_grief_6 (fun H locs hP hS => ?_)
  have hf := wI_l hf
  refine lv_aload_n hx hb dX10_grief_9 rfl (lv_at hl 0 rfl) ?_
  refine gfB (i0 := 0) (own := RX10) (T := TX10) (k := 9) (v := .ref (a_x 9)) hx hb htX10 hown hK hP rfl e10 rfl (by decide) (hW _ wd437) rfl dX10_grief_10 ?_
  refine lv_aload_n hx hb dX10_grief_13 rfl (lv_at hl 0 rfl) ?_
  refine gfB (i0 := 0) (own := RX10) (T := TX10) (k := 2) (v := .ref (a_x 2)) hx hb htX10 hown hK hP rfl e10 rfl (by decide) (hW _ wd430) rfl dX10_grief_14 ?_
  obtain ⟨q3, eq3, hf⟩ := bnd hf
  refine mcVv (rest := []) (Bn := [w10 cs o_x a_x s_x, w9 cs (a_x 2) a_t s_t, w9 cs (a_x 9) a_t2 q3, w2 cs (a_x 8) a0n s_e, w7 cs (a_x 1) a_g s_g]) (isR := [0, 3, 4]) (isC := [2, 1]) (i0 := 2) ⟨hx, hb, hml, hown, hts⟩ hK hP hD hS hA hG (c9_copyFrom l D cs (a_x 9) a_t2 (a_x 2) a_t s_t2 s_t H.size _ eq3) (cwV 1 hts (gV wd599 wd500 wd501 wd107 wd502) rfl rfl rfl (by decide +kernel) ⟨by rw [hR]; exact Nat.le_of_ble_eq_true rfl, by rw [hR]; exact Nat.le_of_ble_eq_true rfl⟩) 5 (by decide) rfl rfl rfl rfl rfl rfl rfl e9 rfl rfl rfl hl.1 rfl (Nat.le_of_ble_eq_true rfl) ⟨Nat.zero_le _, Nat.zero_le _⟩ dX10_grief_17 (fun H locs hP hD hS => ?_)
  refine lv_aload_n hx hb dX10_grief_20 rfl (lv_at hl 0 rfl) ?_
  refine gfB (i0 := 0) (own := RX10) (T := TX10) (k := 2) (v := .ref (a_x 2)) hx hb htX10 hown hK hP rfl e10 rfl (by decide) (hW _ wd430) rfl dX10_grief_21 ?_
  refine lv_iload_n hx hb dX10_grief_24 rfl (lv_at hl 1 rfl) ?_
  obtain ⟨q4, eq4, hf⟩ := bnd hf
  refine mcVi (v := q4) (rest := []) (Bn := [w10 cs o_x a_x s_x, w9 cs (a_x 2) a_t s_t, w9 cs (a_x 9) a_t2 q3, w2 cs (a_x 8) a0n s_e, w7 cs (a_x 1) a_g s_g]) (isR := [0, 2, 3, 4]) (isC := [1]) (i0 := 1) ⟨hx, hb, hml, hown, hts⟩ hK hP hD hS hA hG (c9_lampsOf l D cs (a_x 2) a_t s_t H.size x1 _ eq4) (cwV 1 hts (gV wd942 wd531 wd532 wd107 wd533) rfl rfl rfl (by decide +kernel) ⟨by rw [hR]; exact Nat.le_of_ble_eq_true rfl, by rw [hR]; exact Nat.le_of_ble_eq_true rfl⟩) 5 (by decide) rfl rfl rfl rfl rfl rfl rfl e9 rfl rfl rfl hl.1 rfl (Nat.le_of_ble_eq_true rfl) ⟨Nat.zero_le _, Nat.zero_le _⟩ dX10_grief_25 (fun H locs hP hD hS => ?_)
  refine lv_istore_n (lv' := [(3, .int q4), (0, .ref o_x), (1, .int x1), (2, .int x2)]) hx hb dX10_grief_28 rfl hl (by decide) rfl (fun ls hl => ?_)
  refine lv_iconst (v := 0) hx hb dX10_grief_29 (by decide) ?_
  refine lv_istore (lv' := [(4, .int 0), (3, .int q4), (0, .ref o_x), (1, .int x1), (2, .int x2)]) hx hb dX10_grief_30 hl (by decide) rfl (fun ls hl => ?_)
  refine lv_iconst (v := 0) hx hb dX10_grief_32 (by decide) ?_
  refine lv_istore (lv' := [(5, .int 0), (4, .int 0), (3, .int q4), (0, .ref o_x), (1, .int x1), (2, .int x2)]) hx hb dX10_grief_33 hl (by decide) rfl (fun ls hl => ?_)
  obtain ⟨q5, hq5, hf⟩ := bnd hf
  obtain ⟨n5, hq5⟩ := lpw_ex hq5
  have Jq5_0 : ∀ rr5_0 : Int32 × St × St × St, q5 = rr5_0 → ∀ (H : Heap) (locs : List Loc) (ls : Array Slot), va_P D vwCl (List.flatten [w10 cs o_x a_x s_x, w9 cs (a_x 2) a_t s_t, w9 cs (a_x 9) a_t2 rr5_0.2.1, w2 cs (a_x 8) a0n rr5_0.2.2.1, w7 cs (a_x 1) a_g rr5_0.2.2.2]) H → va_D A (List.flatten [w10 cs o_x a_x s_x, w9 cs (a_x 2) a_t s_t, w9 cs (a_x 9) a_t2 rr5_0.2.1, w2 cs (a_x 8) a0n rr5_0.2.2.1, w7 cs (a_x 1) a_g rr5_0.2.2.2]) → va_S A s.heap H locs → lv_has ls 6 [(4, .int rr5_0.1)] → W p l e R s m args below meth c H locs 0 0 Q (F0 m 79 ls []) := by
    intro rr5_0 eq5 H locs ls hP hD hS hl
    subst eq5
    refine lv_iload hx hb dX10_grief_79 (lv_at hl 0 rfl) ?_
    obtain rfl := Option.some.inj hf
    exact mretI hx hb hr hlocks hK hP hD hS rfl hQ dX10_grief_81
  clear hf
  have L5 : ∀ n5, ∀ v6 : Int32 × Int32 × St × St × St, lp n5 (f10_grief_L5 x2 q4) v6 = some q5 → ∀ (H : Heap) (locs : List Loc) (ls : Array Slot), va_P D vwCl (List.flatten [w10 cs o_x a_x s_x, w9 cs (a_x 2) a_t s_t, w9 cs (a_x 9) a_t2 v6.2.2.1, w2 cs (a_x 8) a0n v6.2.2.2.1, w7 cs (a_x 1) a_g v6.2.2.2.2]) H → va_D A (List.flatten [w10 cs o_x a_x s_x, w9 cs (a_x 2) a_t s_t, w9 cs (a_x 9) a_t2 v6.2.2.1, w2 cs (a_x 8) a0n v6.2.2.2.1, w7 cs (a_x 1) a_g v6.2.2.2.2]) → va_S A s.heap H locs → lv_has ls 6 [(0, .ref o_x), (2, .int x2), (3, .int q4), (4, .int v6.1), (5, .int v6.2.1)] → W p l e R s m args below meth c H locs 0 0 Q (F0 m 35 ls []) := by
    intro n5
    induction n5 with
    | zero => intro v6 hn; cases hn
    | succ n5 ih5 =>
      intro v6 hn5 H locs ls hP hD hS hl
      obtain ⟨y5, hf, hn5⟩ := lp_succ hn5
      unfold f10_grief_L5 at hf
      refine lv_iload hx hb dX10_grief_35 (lv_at hl 4 rfl) ?_
      refine lv_iload_n hx hb dX10_grief_37 rfl (lv_at hl 1 rfl) ?_
      refine lv_icmp_ge (tgt := 79) hx hb dX10_grief_38 (by decide) (fun hc => ?_) (fun hc => ?_)
      · have hf := ifp hc hf
        cases hf
        exact Jq5_0 _ (Option.some.inj hn5).symm _ _ _ hP hD hS (lv_sub hl [3] rfl)
      · have hf := ifn hc hf
        refine lv_aload_n hx hb dX10_grief_41 rfl (lv_at hl 0 rfl) ?_
        refine gfB (i0 := 0) (own := RX10) (T := TX10) (k := 8) (v := .ref (a_x 8)) hx hb htX10 hown hK hP rfl e10 rfl (by decide) (hW _ wd436) rfl dX10_grief_42 ?_
        refine lv_aload_n hx hb dX10_grief_45 rfl (lv_at hl 0 rfl) ?_
        refine gfB (i0 := 0) (own := RX10) (T := TX10) (k := 1) (v := .ref (a_x 1)) hx hb htX10 hown hK hP rfl e10 rfl (by decide) (hW _ wd429) rfl dX10_grief_46 ?_
        refine lv_aload_n hx hb dX10_grief_49 rfl (lv_at hl 0 rfl) ?_
        refine gfB (i0 := 0) (own := RX10) (T := TX10) (k := 9) (v := .ref (a_x 9)) hx hb htX10 hown hK hP rfl e10 rfl (by decide) (hW _ wd437) rfl dX10_grief_50 ?_
        obtain ⟨q7, eq7, hf⟩ := bnd hf
        refine mcVv (rest := []) (Bn := [w10 cs o_x a_x s_x, w9 cs (a_x 2) a_t s_t, w9 cs (a_x 9) a_t2 q7.2.2, w2 cs (a_x 8) a0n q7.1, w7 cs (a_x 1) a_g q7.2.1]) (isR := [0, 1]) (isC := [3, 4, 2]) (i0 := 3) ⟨hx, hb, hml, hown, hts⟩ hK hP hD hS hA hG (c2_passHour l D cs (a_x 8) (a_x 1) a_g (a_x 9) a_t2 v6.2.2.2.1 v6.2.2.2.2 v6.2.2.1 H.size _ eq7) (cwV 2 hts (gV wd506 wd507 wd508 wd112 wd509) rfl rfl rfl (by decide +kernel) ⟨by rw [hR]; exact Nat.le_of_ble_eq_true rfl, by rw [hR]; exact Nat.le_of_ble_eq_true rfl⟩) 5 (by decide) rfl rfl rfl rfl rfl rfl rfl e2 rfl rfl rfl hl.1 rfl (Nat.le_of_ble_eq_true rfl) ⟨Nat.zero_le _, Nat.zero_le _⟩ dX10_grief_53 (fun H locs hP hD hS => ?_)
        refine lv_iload hx hb dX10_grief_56 (lv_at hl 3 rfl) ?_
        refine lv_aload_n hx hb dX10_grief_58 rfl (lv_at hl 0 rfl) ?_
        refine gfB (i0 := 0) (own := RX10) (T := TX10) (k := 8) (v := .ref (a_x 8)) hx hb htX10 hown hK hP rfl e10 rfl (by decide) (hW _ wd436) rfl dX10_grief_59 ?_
        refine gfB (i0 := 3) (own := RX10) (T := TX2) (k := 1) (v := .int (q7.1.1 1)) hx hb htX2 hown hK hP rfl e2 rfl (by decide) (hW _ wd350) rfl dX10_grief_62 ?_
        refine lv_iload_n hx hb dX10_grief_65 rfl (lv_at hl 2 rfl) ?_
        refine lv_iand hx hb dX10_grief_66 ?_
        obtain ⟨q8, eq8, hf⟩ := bnd hf
        refine mcSi0 (v := q8) (As := [.int ((q7.1.1 1) &&& q4)]) (rest := [.int v6.1]) ⟨hx, hb, hml, hown, hts⟩ hK hP hS hA hG (cJ6_bitCount l D cs H.size ((q7.1.1 1) &&& q4) _ eq8) (va_cwS 1 hts (gS wd885 wd535 wd127 wd536) rfl rfl rfl (by decide +kernel) ⟨by rw [hR]; exact Nat.le_of_ble_eq_true rfl, by rw [hR]; exact Nat.le_of_ble_eq_true rfl⟩) rfl hl.1 rfl (Nat.le_of_ble_eq_true rfl) ⟨Nat.zero_le _, Nat.zero_le _⟩ dX10_grief_67 (fun H locs hP hS => ?_)
        refine lv_iadd hx hb dX10_grief_70 ?_
        refine lv_istore (lv' := [(4, .int (v6.1 + q8)), (0, .ref o_x), (2, .int x2), (3, .int q4), (5, .int v6.2.1)]) hx hb dX10_grief_71 hl (by decide) rfl (fun ls hl => ?_)
        refine lv_iinc (v := (v6.2.1 + 1)) (lv' := [(5, .int (v6.2.1 + 1)), (4, .int (v6.1 + q8)), (0, .ref o_x), (2, .int x2), (3, .int q4)]) hx hb dX10_grief_73 hl (k := 4) rfl rfl (by decide) rfl (fun ls hl => ?_)
        refine lv_goto (tgt := 35) hx hb dX10_grief_76 (by decide) ?_
        cases hf
        exact ih5 _ hn5 _ _ _ hP hD hS (lv_sub hl [2, 3, 4, 1, 0] rfl)
  exact L5 _ _ hq5 _ _ _ hP hD hS (lv_sub hl [3, 5, 2, 1, 0] rfl)
set_option maxHeartbeats 4000000 in
set_option maxRecDepth 100000 in
theorem c10x_grief (l : Launch) (D : va_G) (cs : xE) (hl0 : l.stackTraces = false) (o_x : Nat) (a_x : Nat → Nat) (a_t : Nat → Nat) (a_t2 : Nat → Nat) (a_g : Nat → Nat) (s_x : St) (s_t : St) (s_t2 : St) (s_e : St) (s_g : St) (sz : Nat) (x1 : Int32) (x2 : Int32) (k : Nat) (hf : f10_grief s_x s_t s_t2 s_e s_g x1 x2 = some (.inr k)) : vx_Met l yX10_grief (Cond.code yX10_grief cX10_grief 6 (some .int) :: WG) { frames := 7, cells := 1, slots := 6, locals := 111 } (va_Pc [.ref o_x, .int x1, .int x2] (mP D cs (List.flatten [w10 cs o_x a_x s_x, w9 cs (a_x 2) a_t s_t, w9 cs (a_x 9) a_t2 s_t2, w2 cs (a_x 8) a0n s_e, w7 cs (a_x 1) a_g s_g]) sz)) (fun _ _ _ _ => False) (qX D cs k (List.flatten [w10 cs o_x a_x s_x, w9 cs (a_x 2) a_t s_t, w9 cs (a_x 9) a_t2 s_t2, w2 cs (a_x 8) a0n s_e, w7 cs (a_x 1) a_g s_g]) (va_A (List.flatten [w10 cs o_x a_x s_x, w9 cs (a_x 2) a_t s_t, w9 cs (a_x 9) a_t2 s_t2, w2 cs (a_x 8) a0n s_e, w7 cs (a_x 1) a_g s_g]) sz)) 1 6 (va_A (List.flatten [w10 cs o_x a_x s_x, w9 cs (a_x 2) a_t s_t, w9 cs (a_x 9) a_t2 s_t2, w2 cs (a_x 8) a0n s_e, w7 cs (a_x 1) a_g s_g]) sz) := by
  refine mgoX (cc := cX10_grief) (maxL := 6) (ret := (some .int)) (by decide) rfl (Nat.le_of_ble_eq_true rfl) ?_
  intro p e s m below meth c ls A R Q args H hR hQ hno hx hb hml hr hlocks hown hts hP hK hD hA hS hG hl
  have hown : s.vm.findClass RX10 = some m.cls := hown
  have hl : lv_has ls 6 [(0, .ref o_x), (1, .int x1), (2, .int x2)] := hl
  have hW : ∀ w ∈ WG, w.before args s = true := fun w h => hts w (List.mem_cons_of_mem _ h)
  have htX10 : ∀ w ∈ u_ws RX10 TX10 14, w.before args s = true := fun w h => hW w (inW_X10 w h)
  have htX2 : ∀ w ∈ u_ws RX2 TX2 5, w.before args s = true := fun w h => hW w (inW_X2 w h)
  unfold f10_grief at hf
  refine lv_aload_n hx hb dX10_grief_0 rfl (lv_at hl 0 rfl) ?_
  refine lv_iload_n hx hb dX10_grief_1 rfl (lv_at hl 1 rfl) ?_
  rcases xB_r hf with xq1 | ⟨q1, eq1, hf⟩
  · exact mxV (rest := []) (isR := [2, 3, 4]) (isC := [0, 1]) (i0 := 0) ⟨hx, hb, hml, hown, hts⟩ hK hP hD hS hA hG (c10x_needHouse l D cs hl0 o_x a_x a_t s_x s_t H.size x1 _ xq1) (cwV 1 hts (gV wd937 wd939 wd25 wd105 wd940) rfl rfl rfl (by decide +kernel) ⟨by rw [hR]; exact Nat.le_of_ble_eq_true rfl, by rw [hR]; exact Nat.le_of_ble_eq_true rfl⟩) 5 (by decide) rfl rfl rfl rfl e10 rfl rfl rfl hl.1 rfl (Nat.le_of_ble_eq_true rfl) ⟨by rw [hR]; exact Nat.le_of_ble_eq_true rfl, by rw [hR]; exact Nat.le_of_ble_eq_true rfl⟩ dX10_grief_2 hno hlocks hQ
  refine mcVv (rest := []) (Bn := [w10 cs o_x a_x s_x, w9 cs (a_x 2) a_t s_t, w9 cs (a_x 9) a_t2 s_t2, w2 cs (a_x 8) a0n s_e, w7 cs (a_x 1) a_g s_g]) (isR := [2, 3, 4]) (isC := [0, 1]) (i0 := 0) ⟨hx, hb, hml, hown, hts⟩ hK hP hD hS hA hG (c10_needHouse l D cs o_x a_x a_t s_x s_t H.size x1 _ eq1) (cwV 1 hts (gV wd937 wd939 wd25 wd105 wd940) rfl rfl rfl (by decide +kernel) ⟨by rw [hR]; exact Nat.le_of_ble_eq_true rfl, by rw [hR]; exact Nat.le_of_ble_eq_true rfl⟩) 5 (by decide) rfl rfl rfl rfl rfl rfl rfl e10 rfl rfl rfl hl.1 rfl (Nat.le_of_ble_eq_true rfl) ⟨Nat.zero_le _, Nat.zero_le _⟩ dX10_grief_2 (fun H locs hP hD hS => ?_)
  refine lv_iload_n hx hb dX10_grief_5 rfl (lv_at hl 2 rfl) ?_
  rcases xB_r hf with xq2 | ⟨q2, eq2, hf⟩
  · exact mxS0 (As := [.int x2]) (rest := []) ⟨hx, hb, hml, hown, hts⟩ hK hP hD hS hA hG (c10x_needAhead l D cs hl0 H.size x2 _ xq2) (va_cwS 1 hts (gS wd1036 wd1037 wd105 wd1038) rfl rfl rfl (by decide +kernel) ⟨by rw [hR]; exact Nat.le_of_ble_eq_true rfl, by rw [hR]; exact Nat.le_of_ble_eq_true rfl⟩) rfl hl.1 rfl (Nat.le_of_ble_eq_true rfl) ⟨by rw [hR]; exact Nat.le_of_ble_eq_true rfl, by rw [hR]; exact Nat.le_of_ble_eq_true rfl⟩ dX10_grief_6 hno hlocks hQ
  refine mcSv0 (As := [.int x2]) (rest := []) ⟨hx, hb, hml, hown, hts⟩ hK hP hS hA hG (c10_needAhead l D cs H.size x2 _ eq2) (va_cwS 1 hts (gS wd1036 wd1037 wd105 wd1038) rfl rfl rfl (by decide +kernel) ⟨by rw [hR]; exact Nat.le_of_ble_eq_true rfl, by rw [hR]; exact Nat.le_of_ble_eq_true rfl⟩) rfl hl.1 rfl (Nat.le_of_ble_eq_true rfl) ⟨Nat.zero_le _, Nat.zero_le _⟩ dX10_grief_6 (fun H locs hP hS => ?_)
  exact (wI_r hf).elim
/-! TwinLamps.quarrels -/
noncomputable def f10_quarrels_L3 (x1 : Int32) (v4 : Int32 × Int32 × St × St × St) : Option ((Int32 × Int32 × St × St × St) ⊕ (Int32 × St × St × St)) :=
  if x1 ≤ v4.2.1 then some (.inr (v4.1, v4.2.2.1, v4.2.2.2.1, v4.2.2.2.2)) else (f2_passHour v4.2.2.2.1 v4.2.2.2.2 v4.2.2.1).bind fun q5 =>
  some (.inl ((v4.1 + (q5.1.1 2)), (v4.2.1 + 1), q5.2.2, q5.1, q5.2.1))
noncomputable def f10_quarrels (s_x : St) (s_t : St) (s_t2 : St) (s_e : St) (s_g : St) (x1 : Int32) : Option ((Int32 × St × St × St) ⊕ Nat) :=
  xB (f10_needAhead x1) fun q1 =>
  wI ((f9_copyFrom s_t2 s_t).bind fun q2 =>
  (lpw (f10_quarrels_L3 x1) (0, 0, q2, s_e, s_g)).bind fun q3 =>
  some (q3.1, q3.2.1, q3.2.2.1, q3.2.2.2))
set_option maxHeartbeats 4000000 in
set_option maxRecDepth 100000 in
theorem c10_quarrels (l : Launch) (D : va_G) (cs : xE) (o_x : Nat) (a_x : Nat → Nat) (a_t : Nat → Nat) (a_t2 : Nat → Nat) (a_g : Nat → Nat) (s_x : St) (s_t : St) (s_t2 : St) (s_e : St) (s_g : St) (sz : Nat) (x1 : Int32) (res : Int32 × St × St × St) (hf : f10_quarrels s_x s_t s_t2 s_e s_g x1 = some (.inl res)) : Met l yX10_quarrels (Cond.code yX10_quarrels cX10_quarrels 4 (some .int) :: WG) { frames := 7, cells := 0, slots := 0, locals := 110 } (va_Pc [.ref o_x, .int x1] (mP D cs (List.flatten [w10 cs o_x a_x s_x, w9 cs (a_x 2) a_t s_t, w9 cs (a_x 9) a_t2 s_t2, w2 cs (a_x 8) a0n s_e, w7 cs (a_x 1) a_g s_g]) sz)) (qI D cs res.1 (List.flatten [w10 cs o_x a_x s_x, w9 cs (a_x 2) a_t s_t, w9 cs (a_x 9) a_t2 res.2.1, w2 cs (a_x 8) a0n res.2.2.1, w7 cs (a_x 1) a_g res.2.2.2]) (va_A (List.flatten [w10 cs o_x a_x s_x, w9 cs (a_x 2) a_t s_t, w9 cs (a_x 9) a_t2 s_t2, w2 cs (a_x 8) a0n s_e, w7 cs (a_x 1) a_g s_g]) sz)) 0 0 (va_A (List.flatten [w10 cs o_x a_x s_x, w9 cs (a_x 2) a_t s_t, w9 cs (a_x 9) a_t2 s_t2, w2 cs (a_x 8) a0n s_e, w7 cs (a_x 1) a_g s_g]) sz) := by
  refine mgo (Qc := qI D cs res.1 (List.flatten [w10 cs o_x a_x s_x, w9 cs (a_x 2) a_t s_t, w9 cs (a_x 9) a_t2 res.2.1, w2 cs (a_x 8) a0n res.2.2.1, w7 cs (a_x 1) a_g res.2.2.2])) (cc := cX10_quarrels) (maxL := 4) (ret := (some .int)) (by decide) rfl (Nat.le_of_ble_eq_true rfl) ?_
  intro p e s m below meth c ls A R Q args H hR hQ hx hb hml hr hlocks hown hts hP hK hD hA hS hG hl
  have hown : s.vm.findClass RX10 = some m.cls := hown
  have hl : lv_has ls 4 [(0, .ref o_x), (1, .int x1)] := hl
  have hW : ∀ w ∈ WG, w.before args s = true := fun w h => hts w (List.mem_cons_of_mem _ h)
  have htX10 : ∀ w ∈ u_ws RX10 TX10 14, w.before args s = true := fun w h => hW w (inW_X10 w h)
  have htX2 : ∀ w ∈ u_ws RX2 TX2 5, w.before args s = true := fun w h => hW w (inW_X2 w h)
  unfold f10_quarrels at hf
  refine lv_iload_n hx hb dX10_quarrels_0 rfl (lv_at hl 1 rfl) ?_
  obtain ⟨q1, eq1, hf⟩ := xB_l hf
  refine mcSv0 (As := [.int x1]) (rest := []) ⟨hx, hb, hml, hown, hts⟩ hK hP hS hA hG (c10_needAhead l D cs H.size x1 _ eq1) (va_cwS 1 hts (gS wd1036 wd1037 wd105 wd1038) rfl rfl rfl (by decide +kernel) ⟨by rw [hR]; exact Nat.le_of_ble_eq_true rfl, by rw [hR]; exact Nat.le_of_ble_eq_true rfl⟩) rfl hl.1 rfl (Nat.le_of_ble_eq_true rfl) ⟨Nat.zero_le _, Nat.zero_le _⟩ dX10_quarrels_1 (fun H locs hP hS => ?_)
  have hf := wI_l hf
  refine lv_aload_n hx hb dX10_quarrels_4 rfl (lv_at hl 0 rfl) ?_
  refine gfB (i0 := 0) (own := RX10) (T := TX10) (k := 9) (v := .ref (a_x 9)) hx hb htX10 hown hK hP rfl e10 rfl (by decide) (hW _ wd437) rfl dX10_quarrels_5 ?_
  refine lv_aload_n hx hb dX10_quarrels_8 rfl (lv_at hl 0 rfl) ?_
  refine gfB (i0 := 0) (own := RX10) (T := TX10) (k := 2) (v := .ref (a_x 2)) hx hb htX10 hown hK hP rfl e10 rfl (by decide) (hW _ wd430) rfl dX10_quarrels_9 ?_
  obtain ⟨q2, eq2, hf⟩ := bnd hf
  refine mcVv (rest := []) (Bn := [w10 cs o_x a_x s_x, w9 cs (a_x 2) a_t s_t, w9 cs (a_x 9) a_t2 q2, w2 cs (a_x 8) a0n s_e, w7 cs (a_x 1) a_g s_g]) (isR := [0, 3, 4]) (isC := [2, 1]) (i0 := 2) ⟨hx, hb, hml, hown, hts⟩ hK hP hD hS hA hG (c9_copyFrom l D cs (a_x 9) a_t2 (a_x 2) a_t s_t2 s_t H.size _ eq2) (cwV 1 hts (gV wd599 wd500 wd501 wd107 wd502) rfl rfl rfl (by decide +kernel) ⟨by rw [hR]; exact Nat.le_of_ble_eq_true rfl, by rw [hR]; exact Nat.le_of_ble_eq_true rfl⟩) 5 (by decide) rfl rfl rfl rfl rfl rfl rfl e9 rfl rfl rfl hl.1 rfl (Nat.le_of_ble_eq_true rfl) ⟨Nat.zero_le _, Nat.zero_le _⟩ dX10_quarrels_12 (fun H locs hP hD hS => ?_)
  refine lv_iconst (v := 0) hx hb dX10_quarrels_15 (by decide) ?_
  refine lv_istore_n (lv' := [(2, .int 0), (0, .ref o_x), (1, .int x1)]) hx hb dX10_quarrels_16 rfl hl (by decide) rfl (fun ls hl => ?_)
  refine lv_iconst (v := 0) hx hb dX10_quarrels_17 (by decide) ?_
  refine lv_istore_n (lv' := [(3, .int 0), (2, .int 0), (0, .ref o_x), (1, .int x1)]) hx hb dX10_quarrels_18 rfl hl (by decide) rfl (fun ls hl => ?_)
  obtain ⟨q3, hq3, hf⟩ := bnd hf
  obtain ⟨n3, hq3⟩ := lpw_ex hq3
  have Jq3_0 : ∀ rr3_0 : Int32 × St × St × St, q3 = rr3_0 → ∀ (H : Heap) (locs : List Loc) (ls : Array Slot), va_P D vwCl (List.flatten [w10 cs o_x a_x s_x, w9 cs (a_x 2) a_t s_t, w9 cs (a_x 9) a_t2 rr3_0.2.1, w2 cs (a_x 8) a0n rr3_0.2.2.1, w7 cs (a_x 1) a_g rr3_0.2.2.2]) H → va_D A (List.flatten [w10 cs o_x a_x s_x, w9 cs (a_x 2) a_t s_t, w9 cs (a_x 9) a_t2 rr3_0.2.1, w2 cs (a_x 8) a0n rr3_0.2.2.1, w7 cs (a_x 1) a_g rr3_0.2.2.2]) → va_S A s.heap H locs → lv_has ls 4 [(2, .int rr3_0.1)] → W p l e R s m args below meth c H locs 0 0 Q (F0 m 55 ls []) := by
    intro rr3_0 eq3 H locs ls hP hD hS hl
    subst eq3
    refine lv_iload_n hx hb dX10_quarrels_55 rfl (lv_at hl 0 rfl) ?_
    obtain rfl := Option.some.inj hf
    exact mretI hx hb hr hlocks hK hP hD hS rfl hQ dX10_quarrels_56
  clear hf
  have L3 : ∀ n3, ∀ v4 : Int32 × Int32 × St × St × St, lp n3 (f10_quarrels_L3 x1) v4 = some q3 → ∀ (H : Heap) (locs : List Loc) (ls : Array Slot), va_P D vwCl (List.flatten [w10 cs o_x a_x s_x, w9 cs (a_x 2) a_t s_t, w9 cs (a_x 9) a_t2 v4.2.2.1, w2 cs (a_x 8) a0n v4.2.2.2.1, w7 cs (a_x 1) a_g v4.2.2.2.2]) H → va_D A (List.flatten [w10 cs o_x a_x s_x, w9 cs (a_x 2) a_t s_t, w9 cs (a_x 9) a_t2 v4.2.2.1, w2 cs (a_x 8) a0n v4.2.2.2.1, w7 cs (a_x 1) a_g v4.2.2.2.2]) → va_S A s.heap H locs → lv_has ls 4 [(0, .ref o_x), (1, .int x1), (2, .int v4.1), (3, .int v4.2.1)] → W p l e R s m args below meth c H locs 0 0 Q (F0 m 19 ls []) := by
    intro n3
    induction n3 with
    | zero => intro v4 hn; cases hn
    | succ n3 ih3 =>
      intro v4 hn3 H locs ls hP hD hS hl
      obtain ⟨y3, hf, hn3⟩ := lp_succ hn3
      unfold f10_quarrels_L3 at hf
      refine lv_iload_n hx hb dX10_quarrels_19 rfl (lv_at hl 3 rfl) ?_
      refine lv_iload_n hx hb dX10_quarrels_20 rfl (lv_at hl 1 rfl) ?_
      refine lv_icmp_ge (tgt := 55) hx hb dX10_quarrels_21 (by decide) (fun hc => ?_) (fun hc => ?_)
      · have hf := ifp hc hf
        cases hf
        exact Jq3_0 _ (Option.some.inj hn3).symm _ _ _ hP hD hS (lv_sub hl [2] rfl)
      · have hf := ifn hc hf
        refine lv_aload_n hx hb dX10_quarrels_24 rfl (lv_at hl 0 rfl) ?_
        refine gfB (i0 := 0) (own := RX10) (T := TX10) (k := 8) (v := .ref (a_x 8)) hx hb htX10 hown hK hP rfl e10 rfl (by decide) (hW _ wd436) rfl dX10_quarrels_25 ?_
        refine lv_aload_n hx hb dX10_quarrels_28 rfl (lv_at hl 0 rfl) ?_
        refine gfB (i0 := 0) (own := RX10) (T := TX10) (k := 1) (v := .ref (a_x 1)) hx hb htX10 hown hK hP rfl e10 rfl (by decide) (hW _ wd429) rfl dX10_quarrels_29 ?_
        refine lv_aload_n hx hb dX10_quarrels_32 rfl (lv_at hl 0 rfl) ?_
        refine gfB (i0 := 0) (own := RX10) (T := TX10) (k := 9) (v := .ref (a_x 9)) hx hb htX10 hown hK hP rfl e10 rfl (by decide) (hW _ wd437) rfl dX10_quarrels_33 ?_
        obtain ⟨q5, eq5, hf⟩ := bnd hf
        refine mcVv (rest := []) (Bn := [w10 cs o_x a_x s_x, w9 cs (a_x 2) a_t s_t, w9 cs (a_x 9) a_t2 q5.2.2, w2 cs (a_x 8) a0n q5.1, w7 cs (a_x 1) a_g q5.2.1]) (isR := [0, 1]) (isC := [3, 4, 2]) (i0 := 3) ⟨hx, hb, hml, hown, hts⟩ hK hP hD hS hA hG (c2_passHour l D cs (a_x 8) (a_x 1) a_g (a_x 9) a_t2 v4.2.2.2.1 v4.2.2.2.2 v4.2.2.1 H.size _ eq5) (cwV 2 hts (gV wd506 wd507 wd508 wd112 wd509) rfl rfl rfl (by decide +kernel) ⟨by rw [hR]; exact Nat.le_of_ble_eq_true rfl, by rw [hR]; exact Nat.le_of_ble_eq_true rfl⟩) 5 (by decide) rfl rfl rfl rfl rfl rfl rfl e2 rfl rfl rfl hl.1 rfl (Nat.le_of_ble_eq_true rfl) ⟨Nat.zero_le _, Nat.zero_le _⟩ dX10_quarrels_36 (fun H locs hP hD hS => ?_)
        refine lv_iload_n hx hb dX10_quarrels_39 rfl (lv_at hl 2 rfl) ?_
        refine lv_aload_n hx hb dX10_quarrels_40 rfl (lv_at hl 0 rfl) ?_
        refine gfB (i0 := 0) (own := RX10) (T := TX10) (k := 8) (v := .ref (a_x 8)) hx hb htX10 hown hK hP rfl e10 rfl (by decide) (hW _ wd436) rfl dX10_quarrels_41 ?_
        refine gfB (i0 := 3) (own := RX10) (T := TX2) (k := 2) (v := .int (q5.1.1 2)) hx hb htX2 hown hK hP rfl e2 rfl (by decide) (hW _ wd352) rfl dX10_quarrels_44 ?_
        refine lv_iadd hx hb dX10_quarrels_47 ?_
        refine lv_istore_n (lv' := [(2, .int (v4.1 + (q5.1.1 2))), (0, .ref o_x), (1, .int x1), (3, .int v4.2.1)]) hx hb dX10_quarrels_48 rfl hl (by decide) rfl (fun ls hl => ?_)
        refine lv_iinc (v := (v4.2.1 + 1)) (lv' := [(3, .int (v4.2.1 + 1)), (2, .int (v4.1 + (q5.1.1 2))), (0, .ref o_x), (1, .int x1)]) hx hb dX10_quarrels_49 hl (k := 3) rfl rfl (by decide) rfl (fun ls hl => ?_)
        refine lv_goto (tgt := 19) hx hb dX10_quarrels_52 (by decide) ?_
        cases hf
        exact ih3 _ hn3 _ _ _ hP hD hS (lv_sub hl [2, 3, 1, 0] rfl)
  exact L3 _ _ hq3 _ _ _ hP hD hS (lv_sub hl [2, 3, 1, 0] rfl)
set_option maxHeartbeats 4000000 in
set_option maxRecDepth 100000 in
theorem c10x_quarrels (l : Launch) (D : va_G) (cs : xE) (hl0 : l.stackTraces = false) (o_x : Nat) (a_x : Nat → Nat) (a_t : Nat → Nat) (a_t2 : Nat → Nat) (a_g : Nat → Nat) (s_x : St) (s_t : St) (s_t2 : St) (s_e : St) (s_g : St) (sz : Nat) (x1 : Int32) (k : Nat) (hf : f10_quarrels s_x s_t s_t2 s_e s_g x1 = some (.inr k)) : vx_Met l yX10_quarrels (Cond.code yX10_quarrels cX10_quarrels 4 (some .int) :: WG) { frames := 7, cells := 1, slots := 6, locals := 110 } (va_Pc [.ref o_x, .int x1] (mP D cs (List.flatten [w10 cs o_x a_x s_x, w9 cs (a_x 2) a_t s_t, w9 cs (a_x 9) a_t2 s_t2, w2 cs (a_x 8) a0n s_e, w7 cs (a_x 1) a_g s_g]) sz)) (fun _ _ _ _ => False) (qX D cs k (List.flatten [w10 cs o_x a_x s_x, w9 cs (a_x 2) a_t s_t, w9 cs (a_x 9) a_t2 s_t2, w2 cs (a_x 8) a0n s_e, w7 cs (a_x 1) a_g s_g]) (va_A (List.flatten [w10 cs o_x a_x s_x, w9 cs (a_x 2) a_t s_t, w9 cs (a_x 9) a_t2 s_t2, w2 cs (a_x 8) a0n s_e, w7 cs (a_x 1) a_g s_g]) sz)) 1 6 (va_A (List.flatten [w10 cs o_x a_x s_x, w9 cs (a_x 2) a_t s_t, w9 cs (a_x 9) a_t2 s_t2, w2 cs (a_x 8) a0n s_e, w7 cs (a_x 1) a_g s_g]) sz) := by
  refine mgoX (cc := cX10_quarrels) (maxL := 4) (ret := (some .int)) (by decide) rfl (Nat.le_of_ble_eq_true rfl) ?_
  intro p e s m below meth c ls A R Q args H hR hQ hno hx hb hml hr hlocks hown hts hP hK hD hA hS hG hl
  have hown : s.vm.findClass RX10 = some m.cls := hown
  have hl : lv_has ls 4 [(0, .ref o_x), (1, .int x1)] := hl
  have hW : ∀ w ∈ WG, w.before args s = true := fun w h => hts w (List.mem_cons_of_mem _ h)
  have htX10 : ∀ w ∈ u_ws RX10 TX10 14, w.before args s = true := fun w h => hW w (inW_X10 w h)
  have htX2 : ∀ w ∈ u_ws RX2 TX2 5, w.before args s = true := fun w h => hW w (inW_X2 w h)
  unfold f10_quarrels at hf
  refine lv_iload_n hx hb dX10_quarrels_0 rfl (lv_at hl 1 rfl) ?_
  rcases xB_r hf with xq1 | ⟨q1, eq1, hf⟩
  · exact mxS0 (As := [.int x1]) (rest := []) ⟨hx, hb, hml, hown, hts⟩ hK hP hD hS hA hG (c10x_needAhead l D cs hl0 H.size x1 _ xq1) (va_cwS 1 hts (gS wd1036 wd1037 wd105 wd1038) rfl rfl rfl (by decide +kernel) ⟨by rw [hR]; exact Nat.le_of_ble_eq_true rfl, by rw [hR]; exact Nat.le_of_ble_eq_true rfl⟩) rfl hl.1 rfl (Nat.le_of_ble_eq_true rfl) ⟨by rw [hR]; exact Nat.le_of_ble_eq_true rfl, by rw [hR]; exact Nat.le_of_ble_eq_true rfl⟩ dX10_quarrels_1 hno hlocks hQ
  refine mcSv0 (As := [.int x1]) (rest := []) ⟨hx, hb, hml, hown, hts⟩ hK hP hS hA hG (c10_needAhead l D cs H.size x1 _ eq1) (va_cwS 1 hts (gS wd1036 wd1037 wd105 wd1038) rfl rfl rfl (by decide +kernel) ⟨by rw [hR]; exact Nat.le_of_ble_eq_true rfl, by rw [hR]; exact Nat.le_of_ble_eq_true rfl⟩) rfl hl.1 rfl (Nat.le_of_ble_eq_true rfl) ⟨Nat.zero_le _, Nat.zero_le _⟩ dX10_quarrels_1 (fun H locs hP hS => ?_)
  exact (wI_r hf).elim
/-! TwinLamps.joined -/
noncomputable def f10_joined (s_x : St) (s_t : St) (x1 : Int32) (x2 : Int32) : Option ((Int32) ⊕ Nat) :=
  xB (f10_needHouse s_x s_t x1) fun q1 =>
  xB (f10_needHouse s_x s_t x2) fun q2 =>
  wI ((f9_fewestTwins s_t x1 x2).bind fun q3 =>
  some q3)
set_option maxHeartbeats 4000000 in
set_option maxRecDepth 100000 in
theorem c10_joined (l : Launch) (D : va_G) (cs : xE) (o_x : Nat) (a_x : Nat → Nat) (a_t : Nat → Nat) (s_x : St) (s_t : St) (sz : Nat) (x1 : Int32) (x2 : Int32) (res : Int32) (hf : f10_joined s_x s_t x1 x2 = some (.inl res)) : Met l yX10_joined (Cond.code yX10_joined cX10_joined 3 (some .int) :: WG) { frames := 7, cells := 0, slots := 0, locals := 111 } (va_Pc [.ref o_x, .int x1, .int x2] (mP D cs (List.flatten [w10 cs o_x a_x s_x, w9 cs (a_x 2) a_t s_t]) sz)) (qI D cs res (List.flatten [w10 cs o_x a_x s_x, w9 cs (a_x 2) a_t s_t]) (va_A (List.flatten [w10 cs o_x a_x s_x, w9 cs (a_x 2) a_t s_t]) sz)) 0 0 (va_A (List.flatten [w10 cs o_x a_x s_x, w9 cs (a_x 2) a_t s_t]) sz) := by
  refine mgo (Qc := qI D cs res (List.flatten [w10 cs o_x a_x s_x, w9 cs (a_x 2) a_t s_t])) (cc := cX10_joined) (maxL := 3) (ret := (some .int)) (by decide) rfl (Nat.le_of_ble_eq_true rfl) ?_
  intro p e s m below meth c ls A R Q args H hR hQ hx hb hml hr hlocks hown hts hP hK hD hA hS hG hl
  have hown : s.vm.findClass RX10 = some m.cls := hown
  have hl : lv_has ls 3 [(0, .ref o_x), (1, .int x1), (2, .int x2)] := hl
  have hW : ∀ w ∈ WG, w.before args s = true := fun w h => hts w (List.mem_cons_of_mem _ h)
  have htX10 : ∀ w ∈ u_ws RX10 TX10 14, w.before args s = true := fun w h => hW w (inW_X10 w h)
  unfold f10_joined at hf
  refine lv_aload_n hx hb dX10_joined_0 rfl (lv_at hl 0 rfl) ?_
  refine lv_iload_n hx hb dX10_joined_1 rfl (lv_at hl 1 rfl) ?_
  obtain ⟨q1, eq1, hf⟩ := xB_l hf
  refine mcVv (rest := []) (Bn := [w10 cs o_x a_x s_x, w9 cs (a_x 2) a_t s_t]) (isR := []) (isC := [0, 1]) (i0 := 0) ⟨hx, hb, hml, hown, hts⟩ hK hP hD hS hA hG (c10_needHouse l D cs o_x a_x a_t s_x s_t H.size x1 _ eq1) (cwV 1 hts (gV wd937 wd939 wd25 wd105 wd940) rfl rfl rfl (by decide +kernel) ⟨by rw [hR]; exact Nat.le_of_ble_eq_true rfl, by rw [hR]; exact Nat.le_of_ble_eq_true rfl⟩) 2 (by decide) rfl rfl rfl rfl rfl rfl rfl e10 rfl rfl rfl hl.1 rfl (Nat.le_of_ble_eq_true rfl) ⟨Nat.zero_le _, Nat.zero_le _⟩ dX10_joined_2 (fun H locs hP hD hS => ?_)
  refine lv_aload_n hx hb dX10_joined_5 rfl (lv_at hl 0 rfl) ?_
  refine lv_iload_n hx hb dX10_joined_6 rfl (lv_at hl 2 rfl) ?_
  obtain ⟨q2, eq2, hf⟩ := xB_l hf
  refine mcVv (rest := []) (Bn := [w10 cs o_x a_x s_x, w9 cs (a_x 2) a_t s_t]) (isR := []) (isC := [0, 1]) (i0 := 0) ⟨hx, hb, hml, hown, hts⟩ hK hP hD hS hA hG (c10_needHouse l D cs o_x a_x a_t s_x s_t H.size x2 _ eq2) (cwV 1 hts (gV wd937 wd939 wd25 wd105 wd940) rfl rfl rfl (by decide +kernel) ⟨by rw [hR]; exact Nat.le_of_ble_eq_true rfl, by rw [hR]; exact Nat.le_of_ble_eq_true rfl⟩) 2 (by decide) rfl rfl rfl rfl rfl rfl rfl e10 rfl rfl rfl hl.1 rfl (Nat.le_of_ble_eq_true rfl) ⟨Nat.zero_le _, Nat.zero_le _⟩ dX10_joined_7 (fun H locs hP hD hS => ?_)
  have hf := wI_l hf
  refine lv_aload_n hx hb dX10_joined_10 rfl (lv_at hl 0 rfl) ?_
  refine gfB (i0 := 0) (own := RX10) (T := TX10) (k := 2) (v := .ref (a_x 2)) hx hb htX10 hown hK hP rfl e10 rfl (by decide) (hW _ wd430) rfl dX10_joined_11 ?_
  refine lv_iload_n hx hb dX10_joined_14 rfl (lv_at hl 1 rfl) ?_
  refine lv_iload_n hx hb dX10_joined_15 rfl (lv_at hl 2 rfl) ?_
  obtain ⟨q3, eq3, hf⟩ := bnd hf
  refine mcVi (v := q3) (rest := []) (Bn := [w10 cs o_x a_x s_x, w9 cs (a_x 2) a_t s_t]) (isR := [0]) (isC := [1]) (i0 := 1) ⟨hx, hb, hml, hown, hts⟩ hK hP hD hS hA hG (c9_fewestTwins l D cs (a_x 2) a_t s_t H.size x1 x2 _ eq3) (cwV 2 hts (gV wd1098 wd1099 wd1100 wd107 wd1101) rfl rfl rfl (by decide +kernel) ⟨by rw [hR]; exact Nat.le_of_ble_eq_true rfl, by rw [hR]; exact Nat.le_of_ble_eq_true rfl⟩) 2 (by decide) rfl rfl rfl rfl rfl rfl rfl e9 rfl rfl rfl hl.1 rfl (Nat.le_of_ble_eq_true rfl) ⟨Nat.zero_le _, Nat.zero_le _⟩ dX10_joined_16 (fun H locs hP hD hS => ?_)
  obtain rfl := Option.some.inj hf
  exact mretI hx hb hr hlocks hK hP hD hS rfl hQ dX10_joined_19
set_option maxHeartbeats 4000000 in
set_option maxRecDepth 100000 in
theorem c10x_joined (l : Launch) (D : va_G) (cs : xE) (hl0 : l.stackTraces = false) (o_x : Nat) (a_x : Nat → Nat) (a_t : Nat → Nat) (s_x : St) (s_t : St) (sz : Nat) (x1 : Int32) (x2 : Int32) (k : Nat) (hf : f10_joined s_x s_t x1 x2 = some (.inr k)) : vx_Met l yX10_joined (Cond.code yX10_joined cX10_joined 3 (some .int) :: WG) { frames := 7, cells := 1, slots := 6, locals := 111 } (va_Pc [.ref o_x, .int x1, .int x2] (mP D cs (List.flatten [w10 cs o_x a_x s_x, w9 cs (a_x 2) a_t s_t]) sz)) (fun _ _ _ _ => False) (qX D cs k (List.flatten [w10 cs o_x a_x s_x, w9 cs (a_x 2) a_t s_t]) (va_A (List.flatten [w10 cs o_x a_x s_x, w9 cs (a_x 2) a_t s_t]) sz)) 1 6 (va_A (List.flatten [w10 cs o_x a_x s_x, w9 cs (a_x 2) a_t s_t]) sz) := by
  refine mgoX (cc := cX10_joined) (maxL := 3) (ret := (some .int)) (by decide) rfl (Nat.le_of_ble_eq_true rfl) ?_
  intro p e s m below meth c ls A R Q args H hR hQ hno hx hb hml hr hlocks hown hts hP hK hD hA hS hG hl
  have hown : s.vm.findClass RX10 = some m.cls := hown
  have hl : lv_has ls 3 [(0, .ref o_x), (1, .int x1), (2, .int x2)] := hl
  have hW : ∀ w ∈ WG, w.before args s = true := fun w h => hts w (List.mem_cons_of_mem _ h)
  have htX10 : ∀ w ∈ u_ws RX10 TX10 14, w.before args s = true := fun w h => hW w (inW_X10 w h)
  unfold f10_joined at hf
  refine lv_aload_n hx hb dX10_joined_0 rfl (lv_at hl 0 rfl) ?_
  refine lv_iload_n hx hb dX10_joined_1 rfl (lv_at hl 1 rfl) ?_
  rcases xB_r hf with xq1 | ⟨q1, eq1, hf⟩
  · exact mxV (rest := []) (isR := []) (isC := [0, 1]) (i0 := 0) ⟨hx, hb, hml, hown, hts⟩ hK hP hD hS hA hG (c10x_needHouse l D cs hl0 o_x a_x a_t s_x s_t H.size x1 _ xq1) (cwV 1 hts (gV wd937 wd939 wd25 wd105 wd940) rfl rfl rfl (by decide +kernel) ⟨by rw [hR]; exact Nat.le_of_ble_eq_true rfl, by rw [hR]; exact Nat.le_of_ble_eq_true rfl⟩) 2 (by decide) rfl rfl rfl rfl e10 rfl rfl rfl hl.1 rfl (Nat.le_of_ble_eq_true rfl) ⟨by rw [hR]; exact Nat.le_of_ble_eq_true rfl, by rw [hR]; exact Nat.le_of_ble_eq_true rfl⟩ dX10_joined_2 hno hlocks hQ
  refine mcVv (rest := []) (Bn := [w10 cs o_x a_x s_x, w9 cs (a_x 2) a_t s_t]) (isR := []) (isC := [0, 1]) (i0 := 0) ⟨hx, hb, hml, hown, hts⟩ hK hP hD hS hA hG (c10_needHouse l D cs o_x a_x a_t s_x s_t H.size x1 _ eq1) (cwV 1 hts (gV wd937 wd939 wd25 wd105 wd940) rfl rfl rfl (by decide +kernel) ⟨by rw [hR]; exact Nat.le_of_ble_eq_true rfl, by rw [hR]; exact Nat.le_of_ble_eq_true rfl⟩) 2 (by decide) rfl rfl rfl rfl rfl rfl rfl e10 rfl rfl rfl hl.1 rfl (Nat.le_of_ble_eq_true rfl) ⟨Nat.zero_le _, Nat.zero_le _⟩ dX10_joined_2 (fun H locs hP hD hS => ?_)
  refine lv_aload_n hx hb dX10_joined_5 rfl (lv_at hl 0 rfl) ?_
  refine lv_iload_n hx hb dX10_joined_6 rfl (lv_at hl 2 rfl) ?_
  rcases xB_r hf with xq2 | ⟨q2, eq2, hf⟩
  · exact mxV (rest := []) (isR := []) (isC := [0, 1]) (i0 := 0) ⟨hx, hb, hml, hown, hts⟩ hK hP hD hS hA hG (c10x_needHouse l D cs hl0 o_x a_x a_t s_x s_t H.size x2 _ xq2) (cwV 1 hts (gV wd937 wd939 wd25 wd105 wd940) rfl rfl rfl (by decide +kernel) ⟨by rw [hR]; exact Nat.le_of_ble_eq_true rfl, by rw [hR]; exact Nat.le_of_ble_eq_true rfl⟩) 2 (by decide) rfl rfl rfl rfl e10 rfl rfl rfl hl.1 rfl (Nat.le_of_ble_eq_true rfl) ⟨by rw [hR]; exact Nat.le_of_ble_eq_true rfl, by rw [hR]; exact Nat.le_of_ble_eq_true rfl⟩ dX10_joined_7 hno hlocks hQ
  refine mcVv (rest := []) (Bn := [w10 cs o_x a_x s_x, w9 cs (a_x 2) a_t s_t]) (isR := []) (isC := [0, 1]) (i0 := 0) ⟨hx, hb, hml, hown, hts⟩ hK hP hD hS hA hG (c10_needHouse l D cs o_x a_x a_t s_x s_t H.size x2 _ eq2) (cwV 1 hts (gV wd937 wd939 wd25 wd105 wd940) rfl rfl rfl (by decide +kernel) ⟨by rw [hR]; exact Nat.le_of_ble_eq_true rfl, by rw [hR]; exact Nat.le_of_ble_eq_true rfl⟩) 2 (by decide) rfl rfl rfl rfl rfl rfl rfl e10 rfl rfl rfl hl.1 rfl (Nat.le_of_ble_eq_true rfl) ⟨Nat.zero_le _, Nat.zero_le _⟩ dX10_joined_7 (fun H locs hP hD hS => ?_)
  exact (wI_r hf).elim
/-! TwinLamps.strife -/
noncomputable def f10_strife (s_x : St) (s_t : St) (s_g : St) (s_m : St) (x1 : Int32) (x2 : Int32) : Option ((Int32 × St × St) ⊕ Nat) :=
  xB (f10_needLamp s_x s_t x1) fun q1 =>
  xB (f10_needLamp s_x s_t x2) fun q2 =>
  wI ((ldO 12 (s_t.2 8) x1).bind fun q3 =>
  (f9_hoursAwake s_t q3).bind fun q4 =>
  (f7_hoursWanted s_g s_t x1).bind fun q5 =>
  (f4_setHours s_m x1 q4 q5.1).bind fun q6 =>
  (ldO 12 (s_t.2 8) x2).bind fun q7 =>
  (f9_hoursAwake s_t q7).bind fun q8 =>
  (f7_hoursWanted q5.2 s_t x2).bind fun q9 =>
  (f4_setHours q6 x2 q8 q9.1).bind fun q10 =>
  (f4_hoursAtOdds q10 x1 x2).bind fun q11 =>
  some (q11, q9.2, q10))
set_option maxHeartbeats 4000000 in
set_option maxRecDepth 100000 in
theorem c10_strife (l : Launch) (D : va_G) (cs : xE) (o_x : Nat) (a_x : Nat → Nat) (a_t : Nat → Nat) (a_g : Nat → Nat) (a_m : Nat → Nat) (s_x : St) (s_t : St) (s_g : St) (s_m : St) (sz : Nat) (x1 : Int32) (x2 : Int32) (res : Int32 × St × St) (hf : f10_strife s_x s_t s_g s_m x1 x2 = some (.inl res)) : Met l yX10_strife (Cond.code yX10_strife cX10_strife 3 (some .int) :: WG) { frames := 7, cells := 0, slots := 0, locals := 111 } (va_Pc [.ref o_x, .int x1, .int x2] (mP D cs (List.flatten [w10 cs o_x a_x s_x, w9 cs (a_x 2) a_t s_t, w7 cs (a_x 1) a_g s_g, w4 cs (a_x 10) a_m s_m]) sz)) (qI D cs res.1 (List.flatten [w10 cs o_x a_x s_x, w9 cs (a_x 2) a_t s_t, w7 cs (a_x 1) a_g res.2.1, w4 cs (a_x 10) a_m res.2.2]) (va_A (List.flatten [w10 cs o_x a_x s_x, w9 cs (a_x 2) a_t s_t, w7 cs (a_x 1) a_g s_g, w4 cs (a_x 10) a_m s_m]) sz)) 0 0 (va_A (List.flatten [w10 cs o_x a_x s_x, w9 cs (a_x 2) a_t s_t, w7 cs (a_x 1) a_g s_g, w4 cs (a_x 10) a_m s_m]) sz) := by
  refine mgo (Qc := qI D cs res.1 (List.flatten [w10 cs o_x a_x s_x, w9 cs (a_x 2) a_t s_t, w7 cs (a_x 1) a_g res.2.1, w4 cs (a_x 10) a_m res.2.2])) (cc := cX10_strife) (maxL := 3) (ret := (some .int)) (by decide) rfl (Nat.le_of_ble_eq_true rfl) ?_
  intro p e s m below meth c ls A R Q args H hR hQ hx hb hml hr hlocks hown hts hP hK hD hA hS hG hl
  have hown : s.vm.findClass RX10 = some m.cls := hown
  have hl : lv_has ls 3 [(0, .ref o_x), (1, .int x1), (2, .int x2)] := hl
  have hW : ∀ w ∈ WG, w.before args s = true := fun w h => hts w (List.mem_cons_of_mem _ h)
  have htX10 : ∀ w ∈ u_ws RX10 TX10 14, w.before args s = true := fun w h => hW w (inW_X10 w h)
  have htX9 : ∀ w ∈ u_ws RX9 TX9 11, w.before args s = true := fun w h => hW w (inW_X9 w h)
  unfold f10_strife at hf
  refine lv_aload_n hx hb dX10_strife_0 rfl (lv_at hl 0 rfl) ?_
  refine lv_iload_n hx hb dX10_strife_1 rfl (lv_at hl 1 rfl) ?_
  obtain ⟨q1, eq1, hf⟩ := xB_l hf
  refine mcVv (rest := []) (Bn := [w10 cs o_x a_x s_x, w9 cs (a_x 2) a_t s_t, w7 cs (a_x 1) a_g s_g, w4 cs (a_x 10) a_m s_m]) (isR := [2, 3]) (isC := [0, 1]) (i0 := 0) ⟨hx, hb, hml, hown, hts⟩ hK hP hD hS hA hG (c10_needLamp l D cs o_x a_x a_t s_x s_t H.size x1 _ eq1) (cwV 1 hts (gV wd952 wd954 wd26 wd105 wd955) rfl rfl rfl (by decide +kernel) ⟨by rw [hR]; exact Nat.le_of_ble_eq_true rfl, by rw [hR]; exact Nat.le_of_ble_eq_true rfl⟩) 4 (by decide) rfl rfl rfl rfl rfl rfl rfl e10 rfl rfl rfl hl.1 rfl (Nat.le_of_ble_eq_true rfl) ⟨Nat.zero_le _, Nat.zero_le _⟩ dX10_strife_2 (fun H locs hP hD hS => ?_)
  refine lv_aload_n hx hb dX10_strife_5 rfl (lv_at hl 0 rfl) ?_
  refine lv_iload_n hx hb dX10_strife_6 rfl (lv_at hl 2 rfl) ?_
  obtain ⟨q2, eq2, hf⟩ := xB_l hf
  refine mcVv (rest := []) (Bn := [w10 cs o_x a_x s_x, w9 cs (a_x 2) a_t s_t, w7 cs (a_x 1) a_g s_g, w4 cs (a_x 10) a_m s_m]) (isR := [2, 3]) (isC := [0, 1]) (i0 := 0) ⟨hx, hb, hml, hown, hts⟩ hK hP hD hS hA hG (c10_needLamp l D cs o_x a_x a_t s_x s_t H.size x2 _ eq2) (cwV 1 hts (gV wd952 wd954 wd26 wd105 wd955) rfl rfl rfl (by decide +kernel) ⟨by rw [hR]; exact Nat.le_of_ble_eq_true rfl, by rw [hR]; exact Nat.le_of_ble_eq_true rfl⟩) 4 (by decide) rfl rfl rfl rfl rfl rfl rfl e10 rfl rfl rfl hl.1 rfl (Nat.le_of_ble_eq_true rfl) ⟨Nat.zero_le _, Nat.zero_le _⟩ dX10_strife_7 (fun H locs hP hD hS => ?_)
  have hf := wI_l hf
  refine lv_aload_n hx hb dX10_strife_10 rfl (lv_at hl 0 rfl) ?_
  refine gfB (i0 := 0) (own := RX10) (T := TX10) (k := 10) (v := .ref (a_x 10)) hx hb htX10 hown hK hP rfl e10 rfl (by decide) (hW _ wd438) rfl dX10_strife_11 ?_
  refine lv_iload_n hx hb dX10_strife_14 rfl (lv_at hl 1 rfl) ?_
  refine lv_aload_n hx hb dX10_strife_15 rfl (lv_at hl 0 rfl) ?_
  refine gfB (i0 := 0) (own := RX10) (T := TX10) (k := 2) (v := .ref (a_x 2)) hx hb htX10 hown hK hP rfl e10 rfl (by decide) (hW _ wd430) rfl dX10_strife_16 ?_
  refine lv_aload_n hx hb dX10_strife_19 rfl (lv_at hl 0 rfl) ?_
  refine gfB (i0 := 0) (own := RX10) (T := TX10) (k := 2) (v := .ref (a_x 2)) hx hb htX10 hown hK hP rfl e10 rfl (by decide) (hW _ wd430) rfl dX10_strife_20 ?_
  refine gfB (i0 := 1) (own := RX10) (T := TX9) (k := 8) (v := .ref (a_t 8)) hx hb htX9 hown hK hP rfl e9 rfl (by decide) (hW _ wd174) rfl dX10_strife_23 ?_
  refine lv_iload_n hx hb dX10_strife_26 rfl (lv_at hl 1 rfl) ?_
  obtain ⟨q3, eq3, hf⟩ := bnd hf
  obtain ⟨gq3, eq3⟩ := ldO_e eq3
  refine aldB (i0 := 1) hx hb hK hP rfl a9_8 gq3 dX10_strife_27 ?_
  refine lv_nm eq3 ?_
  obtain ⟨q4, eq4, hf⟩ := bnd hf
  refine mcVi (v := q4) (rest := [.int x1, .ref (a_x 10)]) (Bn := [w10 cs o_x a_x s_x, w9 cs (a_x 2) a_t s_t, w7 cs (a_x 1) a_g s_g, w4 cs (a_x 10) a_m s_m]) (isR := [0, 2, 3]) (isC := [1]) (i0 := 1) ⟨hx, hb, hml, hown, hts⟩ hK hP hD hS hA hG (c9_hoursAwake l D cs (a_x 2) a_t s_t H.size q3 _ eq4) (cwV 1 hts (gV wd1109 wd1110 wd1111 wd107 wd1112) rfl rfl rfl (by decide +kernel) ⟨by rw [hR]; exact Nat.le_of_ble_eq_true rfl, by rw [hR]; exact Nat.le_of_ble_eq_true rfl⟩) 4 (by decide) rfl rfl rfl rfl rfl rfl rfl e9 rfl rfl rfl hl.1 rfl (Nat.le_of_ble_eq_true rfl) ⟨Nat.zero_le _, Nat.zero_le _⟩ dX10_strife_28 (fun H locs hP hD hS => ?_)
  refine lv_aload_n hx hb dX10_strife_31 rfl (lv_at hl 0 rfl) ?_
  refine gfB (i0 := 0) (own := RX10) (T := TX10) (k := 1) (v := .ref (a_x 1)) hx hb htX10 hown hK hP rfl e10 rfl (by decide) (hW _ wd429) rfl dX10_strife_32 ?_
  refine lv_aload_n hx hb dX10_strife_35 rfl (lv_at hl 0 rfl) ?_
  refine gfB (i0 := 0) (own := RX10) (T := TX10) (k := 2) (v := .ref (a_x 2)) hx hb htX10 hown hK hP rfl e10 rfl (by decide) (hW _ wd430) rfl dX10_strife_36 ?_
  refine lv_iload_n hx hb dX10_strife_39 rfl (lv_at hl 1 rfl) ?_
  obtain ⟨q5, eq5, hf⟩ := bnd hf
  refine mcVi (v := q5.1) (rest := [.int q4, .int x1, .ref (a_x 10)]) (Bn := [w10 cs o_x a_x s_x, w9 cs (a_x 2) a_t s_t, w7 cs (a_x 1) a_g q5.2, w4 cs (a_x 10) a_m s_m]) (isR := [0, 3]) (isC := [2, 1]) (i0 := 2) ⟨hx, hb, hml, hown, hts⟩ hK hP hD hS hA hG (c7_hoursWanted l D cs (a_x 1) a_g (a_x 2) a_t s_g s_t H.size x1 _ eq5) (cwV 2 hts (gV wd963 wd964 wd965 wd108 wd966) rfl rfl rfl (by decide +kernel) ⟨by rw [hR]; exact Nat.le_of_ble_eq_true rfl, by rw [hR]; exact Nat.le_of_ble_eq_true rfl⟩) 4 (by decide) rfl rfl rfl rfl rfl rfl rfl e7 rfl rfl rfl hl.1 rfl (Nat.le_of_ble_eq_true rfl) ⟨Nat.zero_le _, Nat.zero_le _⟩ dX10_strife_40 (fun H locs hP hD hS => ?_)
  obtain ⟨q6, eq6, hf⟩ := bnd hf
  refine mcVv (rest := []) (Bn := [w10 cs o_x a_x s_x, w9 cs (a_x 2) a_t s_t, w7 cs (a_x 1) a_g q5.2, w4 cs (a_x 10) a_m q6]) (isR := [0, 1, 2]) (isC := [3]) (i0 := 3) ⟨hx, hb, hml, hown, hts⟩ hK hP hD hS hA hG (c4_setHours l D cs (a_x 10) a_m s_m H.size x1 q4 q5.1 _ eq6) (cwV 3 hts (gV wd1113 wd1114 wd1115 wd113 wd1116) rfl rfl rfl (by decide +kernel) ⟨by rw [hR]; exact Nat.le_of_ble_eq_true rfl, by rw [hR]; exact Nat.le_of_ble_eq_true rfl⟩) 4 (by decide) rfl rfl rfl rfl rfl rfl rfl e4 rfl rfl rfl hl.1 rfl (Nat.le_of_ble_eq_true rfl) ⟨Nat.zero_le _, Nat.zero_le _⟩ dX10_strife_43 (fun H locs hP hD hS => ?_)
  refine lv_aload_n hx hb dX10_strife_46 rfl (lv_at hl 0 rfl) ?_
  refine gfB (i0 := 0) (own := RX10) (T := TX10) (k := 10) (v := .ref (a_x 10)) hx hb htX10 hown hK hP rfl e10 rfl (by decide) (hW _ wd438) rfl dX10_strife_47 ?_
  refine lv_iload_n hx hb dX10_strife_50 rfl (lv_at hl 2 rfl) ?_
  refine lv_aload_n hx hb dX10_strife_51 rfl (lv_at hl 0 rfl) ?_
  refine gfB (i0 := 0) (own := RX10) (T := TX10) (k := 2) (v := .ref (a_x 2)) hx hb htX10 hown hK hP rfl e10 rfl (by decide) (hW _ wd430) rfl dX10_strife_52 ?_
  refine lv_aload_n hx hb dX10_strife_55 rfl (lv_at hl 0 rfl) ?_
  refine gfB (i0 := 0) (own := RX10) (T := TX10) (k := 2) (v := .ref (a_x 2)) hx hb htX10 hown hK hP rfl e10 rfl (by decide) (hW _ wd430) rfl dX10_strife_56 ?_
  refine gfB (i0 := 1) (own := RX10) (T := TX9) (k := 8) (v := .ref (a_t 8)) hx hb htX9 hown hK hP rfl e9 rfl (by decide) (hW _ wd174) rfl dX10_strife_59 ?_
  refine lv_iload_n hx hb dX10_strife_62 rfl (lv_at hl 2 rfl) ?_
  obtain ⟨q7, eq7, hf⟩ := bnd hf
  obtain ⟨gq7, eq7⟩ := ldO_e eq7
  refine aldB (i0 := 1) hx hb hK hP rfl a9_8 gq7 dX10_strife_63 ?_
  refine lv_nm eq7 ?_
  obtain ⟨q8, eq8, hf⟩ := bnd hf
  refine mcVi (v := q8) (rest := [.int x2, .ref (a_x 10)]) (Bn := [w10 cs o_x a_x s_x, w9 cs (a_x 2) a_t s_t, w7 cs (a_x 1) a_g q5.2, w4 cs (a_x 10) a_m q6]) (isR := [0, 2, 3]) (isC := [1]) (i0 := 1) ⟨hx, hb, hml, hown, hts⟩ hK hP hD hS hA hG (c9_hoursAwake l D cs (a_x 2) a_t s_t H.size q7 _ eq8) (cwV 1 hts (gV wd1109 wd1110 wd1111 wd107 wd1112) rfl rfl rfl (by decide +kernel) ⟨by rw [hR]; exact Nat.le_of_ble_eq_true rfl, by rw [hR]; exact Nat.le_of_ble_eq_true rfl⟩) 4 (by decide) rfl rfl rfl rfl rfl rfl rfl e9 rfl rfl rfl hl.1 rfl (Nat.le_of_ble_eq_true rfl) ⟨Nat.zero_le _, Nat.zero_le _⟩ dX10_strife_64 (fun H locs hP hD hS => ?_)
  refine lv_aload_n hx hb dX10_strife_67 rfl (lv_at hl 0 rfl) ?_
  refine gfB (i0 := 0) (own := RX10) (T := TX10) (k := 1) (v := .ref (a_x 1)) hx hb htX10 hown hK hP rfl e10 rfl (by decide) (hW _ wd429) rfl dX10_strife_68 ?_
  refine lv_aload_n hx hb dX10_strife_71 rfl (lv_at hl 0 rfl) ?_
  refine gfB (i0 := 0) (own := RX10) (T := TX10) (k := 2) (v := .ref (a_x 2)) hx hb htX10 hown hK hP rfl e10 rfl (by decide) (hW _ wd430) rfl dX10_strife_72 ?_
  refine lv_iload_n hx hb dX10_strife_75 rfl (lv_at hl 2 rfl) ?_
  obtain ⟨q9, eq9, hf⟩ := bnd hf
  refine mcVi (v := q9.1) (rest := [.int q8, .int x2, .ref (a_x 10)]) (Bn := [w10 cs o_x a_x s_x, w9 cs (a_x 2) a_t s_t, w7 cs (a_x 1) a_g q9.2, w4 cs (a_x 10) a_m q6]) (isR := [0, 3]) (isC := [2, 1]) (i0 := 2) ⟨hx, hb, hml, hown, hts⟩ hK hP hD hS hA hG (c7_hoursWanted l D cs (a_x 1) a_g (a_x 2) a_t q5.2 s_t H.size x2 _ eq9) (cwV 2 hts (gV wd963 wd964 wd965 wd108 wd966) rfl rfl rfl (by decide +kernel) ⟨by rw [hR]; exact Nat.le_of_ble_eq_true rfl, by rw [hR]; exact Nat.le_of_ble_eq_true rfl⟩) 4 (by decide) rfl rfl rfl rfl rfl rfl rfl e7 rfl rfl rfl hl.1 rfl (Nat.le_of_ble_eq_true rfl) ⟨Nat.zero_le _, Nat.zero_le _⟩ dX10_strife_76 (fun H locs hP hD hS => ?_)
  obtain ⟨q10, eq10, hf⟩ := bnd hf
  refine mcVv (rest := []) (Bn := [w10 cs o_x a_x s_x, w9 cs (a_x 2) a_t s_t, w7 cs (a_x 1) a_g q9.2, w4 cs (a_x 10) a_m q10]) (isR := [0, 1, 2]) (isC := [3]) (i0 := 3) ⟨hx, hb, hml, hown, hts⟩ hK hP hD hS hA hG (c4_setHours l D cs (a_x 10) a_m q6 H.size x2 q8 q9.1 _ eq10) (cwV 3 hts (gV wd1113 wd1114 wd1115 wd113 wd1116) rfl rfl rfl (by decide +kernel) ⟨by rw [hR]; exact Nat.le_of_ble_eq_true rfl, by rw [hR]; exact Nat.le_of_ble_eq_true rfl⟩) 4 (by decide) rfl rfl rfl rfl rfl rfl rfl e4 rfl rfl rfl hl.1 rfl (Nat.le_of_ble_eq_true rfl) ⟨Nat.zero_le _, Nat.zero_le _⟩ dX10_strife_79 (fun H locs hP hD hS => ?_)
  refine lv_aload_n hx hb dX10_strife_82 rfl (lv_at hl 0 rfl) ?_
  refine gfB (i0 := 0) (own := RX10) (T := TX10) (k := 10) (v := .ref (a_x 10)) hx hb htX10 hown hK hP rfl e10 rfl (by decide) (hW _ wd438) rfl dX10_strife_83 ?_
  refine lv_iload_n hx hb dX10_strife_86 rfl (lv_at hl 1 rfl) ?_
  refine lv_iload_n hx hb dX10_strife_87 rfl (lv_at hl 2 rfl) ?_
  obtain ⟨q11, eq11, hf⟩ := bnd hf
  refine mcVi (v := q11) (rest := []) (Bn := [w10 cs o_x a_x s_x, w9 cs (a_x 2) a_t s_t, w7 cs (a_x 1) a_g q9.2, w4 cs (a_x 10) a_m q10]) (isR := [0, 1, 2]) (isC := [3]) (i0 := 3) ⟨hx, hb, hml, hown, hts⟩ hK hP hD hS hA hG (c4_hoursAtOdds l D cs (a_x 10) a_m q10 H.size x1 x2 _ eq11) (cwV 2 hts (gV wd1117 wd1118 wd1119 wd113 wd1120) rfl rfl rfl (by decide +kernel) ⟨by rw [hR]; exact Nat.le_of_ble_eq_true rfl, by rw [hR]; exact Nat.le_of_ble_eq_true rfl⟩) 4 (by decide) rfl rfl rfl rfl rfl rfl rfl e4 rfl rfl rfl hl.1 rfl (Nat.le_of_ble_eq_true rfl) ⟨Nat.zero_le _, Nat.zero_le _⟩ dX10_strife_88 (fun H locs hP hD hS => ?_)
  obtain rfl := Option.some.inj hf
  exact mretI hx hb hr hlocks hK hP hD hS rfl hQ dX10_strife_91
set_option maxHeartbeats 4000000 in
set_option maxRecDepth 100000 in
theorem c10x_strife (l : Launch) (D : va_G) (cs : xE) (hl0 : l.stackTraces = false) (o_x : Nat) (a_x : Nat → Nat) (a_t : Nat → Nat) (a_g : Nat → Nat) (a_m : Nat → Nat) (s_x : St) (s_t : St) (s_g : St) (s_m : St) (sz : Nat) (x1 : Int32) (x2 : Int32) (k : Nat) (hf : f10_strife s_x s_t s_g s_m x1 x2 = some (.inr k)) : vx_Met l yX10_strife (Cond.code yX10_strife cX10_strife 3 (some .int) :: WG) { frames := 7, cells := 1, slots := 6, locals := 111 } (va_Pc [.ref o_x, .int x1, .int x2] (mP D cs (List.flatten [w10 cs o_x a_x s_x, w9 cs (a_x 2) a_t s_t, w7 cs (a_x 1) a_g s_g, w4 cs (a_x 10) a_m s_m]) sz)) (fun _ _ _ _ => False) (qX D cs k (List.flatten [w10 cs o_x a_x s_x, w9 cs (a_x 2) a_t s_t, w7 cs (a_x 1) a_g s_g, w4 cs (a_x 10) a_m s_m]) (va_A (List.flatten [w10 cs o_x a_x s_x, w9 cs (a_x 2) a_t s_t, w7 cs (a_x 1) a_g s_g, w4 cs (a_x 10) a_m s_m]) sz)) 1 6 (va_A (List.flatten [w10 cs o_x a_x s_x, w9 cs (a_x 2) a_t s_t, w7 cs (a_x 1) a_g s_g, w4 cs (a_x 10) a_m s_m]) sz) := by
  refine mgoX (cc := cX10_strife) (maxL := 3) (ret := (some .int)) (by decide) rfl (Nat.le_of_ble_eq_true rfl) ?_
  intro p e s m below meth c ls A R Q args H hR hQ hno hx hb hml hr hlocks hown hts hP hK hD hA hS hG hl
  have hown : s.vm.findClass RX10 = some m.cls := hown
  have hl : lv_has ls 3 [(0, .ref o_x), (1, .int x1), (2, .int x2)] := hl
  have hW : ∀ w ∈ WG, w.before args s = true := fun w h => hts w (List.mem_cons_of_mem _ h)
  have htX10 : ∀ w ∈ u_ws RX10 TX10 14, w.before args s = true := fun w h => hW w (inW_X10 w h)
  have htX9 : ∀ w ∈ u_ws RX9 TX9 11, w.before args s = true := fun w h => hW w (inW_X9 w h)
  unfold f10_strife at hf
  refine lv_aload_n hx hb dX10_strife_0 rfl (lv_at hl 0 rfl) ?_
  refine lv_iload_n hx hb dX10_strife_1 rfl (lv_at hl 1 rfl) ?_
  rcases xB_r hf with xq1 | ⟨q1, eq1, hf⟩
  · exact mxV (rest := []) (isR := [2, 3]) (isC := [0, 1]) (i0 := 0) ⟨hx, hb, hml, hown, hts⟩ hK hP hD hS hA hG (c10x_needLamp l D cs hl0 o_x a_x a_t s_x s_t H.size x1 _ xq1) (cwV 1 hts (gV wd952 wd954 wd26 wd105 wd955) rfl rfl rfl (by decide +kernel) ⟨by rw [hR]; exact Nat.le_of_ble_eq_true rfl, by rw [hR]; exact Nat.le_of_ble_eq_true rfl⟩) 4 (by decide) rfl rfl rfl rfl e10 rfl rfl rfl hl.1 rfl (Nat.le_of_ble_eq_true rfl) ⟨by rw [hR]; exact Nat.le_of_ble_eq_true rfl, by rw [hR]; exact Nat.le_of_ble_eq_true rfl⟩ dX10_strife_2 hno hlocks hQ
  refine mcVv (rest := []) (Bn := [w10 cs o_x a_x s_x, w9 cs (a_x 2) a_t s_t, w7 cs (a_x 1) a_g s_g, w4 cs (a_x 10) a_m s_m]) (isR := [2, 3]) (isC := [0, 1]) (i0 := 0) ⟨hx, hb, hml, hown, hts⟩ hK hP hD hS hA hG (c10_needLamp l D cs o_x a_x a_t s_x s_t H.size x1 _ eq1) (cwV 1 hts (gV wd952 wd954 wd26 wd105 wd955) rfl rfl rfl (by decide +kernel) ⟨by rw [hR]; exact Nat.le_of_ble_eq_true rfl, by rw [hR]; exact Nat.le_of_ble_eq_true rfl⟩) 4 (by decide) rfl rfl rfl rfl rfl rfl rfl e10 rfl rfl rfl hl.1 rfl (Nat.le_of_ble_eq_true rfl) ⟨Nat.zero_le _, Nat.zero_le _⟩ dX10_strife_2 (fun H locs hP hD hS => ?_)
  refine lv_aload_n hx hb dX10_strife_5 rfl (lv_at hl 0 rfl) ?_
  refine lv_iload_n hx hb dX10_strife_6 rfl (lv_at hl 2 rfl) ?_
  rcases xB_r hf with xq2 | ⟨q2, eq2, hf⟩
  · exact mxV (rest := []) (isR := [2, 3]) (isC := [0, 1]) (i0 := 0) ⟨hx, hb, hml, hown, hts⟩ hK hP hD hS hA hG (c10x_needLamp l D cs hl0 o_x a_x a_t s_x s_t H.size x2 _ xq2) (cwV 1 hts (gV wd952 wd954 wd26 wd105 wd955) rfl rfl rfl (by decide +kernel) ⟨by rw [hR]; exact Nat.le_of_ble_eq_true rfl, by rw [hR]; exact Nat.le_of_ble_eq_true rfl⟩) 4 (by decide) rfl rfl rfl rfl e10 rfl rfl rfl hl.1 rfl (Nat.le_of_ble_eq_true rfl) ⟨by rw [hR]; exact Nat.le_of_ble_eq_true rfl, by rw [hR]; exact Nat.le_of_ble_eq_true rfl⟩ dX10_strife_7 hno hlocks hQ
  refine mcVv (rest := []) (Bn := [w10 cs o_x a_x s_x, w9 cs (a_x 2) a_t s_t, w7 cs (a_x 1) a_g s_g, w4 cs (a_x 10) a_m s_m]) (isR := [2, 3]) (isC := [0, 1]) (i0 := 0) ⟨hx, hb, hml, hown, hts⟩ hK hP hD hS hA hG (c10_needLamp l D cs o_x a_x a_t s_x s_t H.size x2 _ eq2) (cwV 1 hts (gV wd952 wd954 wd26 wd105 wd955) rfl rfl rfl (by decide +kernel) ⟨by rw [hR]; exact Nat.le_of_ble_eq_true rfl, by rw [hR]; exact Nat.le_of_ble_eq_true rfl⟩) 4 (by decide) rfl rfl rfl rfl rfl rfl rfl e10 rfl rfl rfl hl.1 rfl (Nat.le_of_ble_eq_true rfl) ⟨Nat.zero_le _, Nat.zero_le _⟩ dX10_strife_7 (fun H locs hP hD hS => ?_)
  exact (wI_r hf).elim
/-! TwinLamps.better -/
noncomputable def f10_better_L2 (s_t : St) (v3 : Int32 × St × St) : Option ((Int32 × St × St) ⊕ (St × St)) :=
  if (s_t.1 1) ≤ v3.1 then some (.inr (v3.2.1, v3.2.2)) else (ldO 12 (s_t.2 8) v3.1).bind fun q4 =>
  (f9_hoursAwake s_t q4).bind fun q5 =>
  (f7_hoursWanted v3.2.1 s_t v3.1).bind fun q6 =>
  (f4_setHours v3.2.2 v3.1 q5 q6.1).bind fun q7 =>
  some (.inl ((v3.1 + 1), q6.2, q7))
noncomputable def f10_better_L11 (s_t : St) (v12 : Int32 × St × St) : Option ((Int32 × St × St) ⊕ (St × St)) :=
  if (s_t.1 1) ≤ v12.1 then some (.inr (v12.2.1, v12.2.2)) else (ldO 12 (s_t.2 8) v12.1).bind fun q13 =>
  (f9_hoursAwake s_t q13).bind fun q14 =>
  (f7_hoursWanted v12.2.1 s_t v12.1).bind fun q15 =>
  (f4_setHours v12.2.2 v12.1 q14 q15.1).bind fun q16 =>
  some (.inl ((v12.1 + 1), q15.2, q16))
noncomputable def f10_better_L22 (s_t : St) (v23 : Int32 × St × St) : Option ((Int32 × St × St) ⊕ (St × St)) :=
  if (s_t.1 1) ≤ v23.1 then some (.inr (v23.2.1, v23.2.2)) else (ldO 12 (s_t.2 8) v23.1).bind fun q24 =>
  (f9_hoursAwake s_t q24).bind fun q25 =>
  (f7_hoursWanted v23.2.1 s_t v23.1).bind fun q26 =>
  (f4_setHours v23.2.2 v23.1 q25 q26.1).bind fun q27 =>
  some (.inl ((v23.1 + 1), q26.2, q27))
noncomputable def f10_better_L31 (s_t : St) (v32 : Int32 × St × St) : Option ((Int32 × St × St) ⊕ (St × St)) :=
  if (s_t.1 1) ≤ v32.1 then some (.inr (v32.2.1, v32.2.2)) else (ldO 12 (s_t.2 8) v32.1).bind fun q33 =>
  (f9_hoursAwake s_t q33).bind fun q34 =>
  (f7_hoursWanted v32.2.1 s_t v32.1).bind fun q35 =>
  (f4_setHours v32.2.2 v32.1 q34 q35.1).bind fun q36 =>
  some (.inl ((v32.1 + 1), q35.2, q36))
noncomputable def f10_better (s_x : St) (s_t : St) (s_g : St) (s_m : St) (x1 : Int32) : Option ((Int32 × St × St) ⊕ Nat) :=
  if x1 = (-1) then (wI ((f9_soundTwins s_t).bind fun q1 =>
  if x1 = (-1) then ((lpw (f10_better_L2 s_t) (0, s_g, s_m)).bind fun q2 =>
  (f4_weigh q2.2 q1).bind fun q8 =>
  if x1 = (-1) then ((f4_leastCost q8 q1).bind fun q10 =>
  some (q10, q2.1, q8))
  else (f4_partner q8 q1 x1).bind fun q9 =>
  some (q9, q2.1, q8))
  else if ((q1 >>> (x1 &&& 31)) &&& 1) = 0 then some ((-1), s_g, s_m) else (lpw (f10_better_L11 s_t) (0, s_g, s_m)).bind fun q11 =>
  (f4_weigh q11.2 q1).bind fun q17 =>
  if x1 = (-1) then ((f4_leastCost q17 q1).bind fun q19 =>
  some (q19, q11.1, q17))
  else (f4_partner q17 q1 x1).bind fun q18 =>
  some (q18, q11.1, q17)))
  else xB (f10_needLamp s_x s_t x1) fun q20 =>
  wI ((f9_soundTwins s_t).bind fun q21 =>
  if x1 = (-1) then ((lpw (f10_better_L22 s_t) (0, s_g, s_m)).bind fun q22 =>
  (f4_weigh q22.2 q21).bind fun q28 =>
  if x1 = (-1) then ((f4_leastCost q28 q21).bind fun q30 =>
  some (q30, q22.1, q28))
  else (f4_partner q28 q21 x1).bind fun q29 =>
  some (q29, q22.1, q28))
  else if ((q21 >>> (x1 &&& 31)) &&& 1) = 0 then some ((-1), s_g, s_m) else (lpw (f10_better_L31 s_t) (0, s_g, s_m)).bind fun q31 =>
  (f4_weigh q31.2 q21).bind fun q37 =>
  if x1 = (-1) then ((f4_leastCost q37 q21).bind fun q39 =>
  some (q39, q31.1, q37))
  else (f4_partner q37 q21 x1).bind fun q38 =>
  some (q38, q31.1, q37))
set_option maxHeartbeats 4000000 in
set_option maxRecDepth 100000 in
theorem c10_better (l : Launch) (D : va_G) (cs : xE) (o_x : Nat) (a_x : Nat → Nat) (a_t : Nat → Nat) (a_g : Nat → Nat) (a_m : Nat → Nat) (s_x : St) (s_t : St) (s_g : St) (s_m : St) (sz : Nat) (x1 : Int32) (res : Int32 × St × St) (hf : f10_better s_x s_t s_g s_m x1 = some (.inl res)) : Met l yX10_better (Cond.code yX10_better cX10_better 4 (some .int) :: WG) { frames := 7, cells := 0, slots := 0, locals := 111 } (va_Pc [.ref o_x, .int x1] (mP D cs (List.flatten [w10 cs o_x a_x s_x, w9 cs (a_x 2) a_t s_t, w7 cs (a_x 1) a_g s_g, w4 cs (a_x 10) a_m s_m]) sz)) (qI D cs res.1 (List.flatten [w10 cs o_x a_x s_x, w9 cs (a_x 2) a_t s_t, w7 cs (a_x 1) a_g res.2.1, w4 cs (a_x 10) a_m res.2.2]) (va_A (List.flatten [w10 cs o_x a_x s_x, w9 cs (a_x 2) a_t s_t, w7 cs (a_x 1) a_g s_g, w4 cs (a_x 10) a_m s_m]) sz)) 0 0 (va_A (List.flatten [w10 cs o_x a_x s_x, w9 cs (a_x 2) a_t s_t, w7 cs (a_x 1) a_g s_g, w4 cs (a_x 10) a_m s_m]) sz) := by
  refine mgo (Qc := qI D cs res.1 (List.flatten [w10 cs o_x a_x s_x, w9 cs (a_x 2) a_t s_t, w7 cs (a_x 1) a_g res.2.1, w4 cs (a_x 10) a_m res.2.2])) (cc := cX10_better) (maxL := 4) (ret := (some .int)) (by decide) rfl (Nat.le_of_ble_eq_true rfl) ?_
  intro p e s m below meth c ls A R Q args H hR hQ hx hb hml hr hlocks hown hts hP hK hD hA hS hG hl
  have hown : s.vm.findClass RX10 = some m.cls := hown
  have hl : lv_has ls 4 [(0, .ref o_x), (1, .int x1)] := hl
  have hW : ∀ w ∈ WG, w.before args s = true := fun w h => hts w (List.mem_cons_of_mem _ h)
  have htX10 : ∀ w ∈ u_ws RX10 TX10 14, w.before args s = true := fun w h => hW w (inW_X10 w h)
  have htX9 : ∀ w ∈ u_ws RX9 TX9 11, w.before args s = true := fun w h => hW w (inW_X9 w h)
  unfold f10_better at hf
  refine lv_iload_n hx hb dX10_better_0 rfl (lv_at hl 1 rfl) ?_
  refine lv_iconst (v := (-1)) hx hb dX10_better_1 (by decide) ?_
  refine lv_icmp_eq (tgt := 10) hx hb dX10_better_2 (by decide) (fun hc => ?_) (fun hc => ?_)
  · have hf := ifp hc hf
    have hf := wI_l hf
    refine lv_aload_n hx hb dX10_better_10 rfl (lv_at hl 0 rfl) ?_
    refine gfB (i0 := 0) (own := RX10) (T := TX10) (k := 2) (v := .ref (a_x 2)) hx hb htX10 hown hK hP rfl e10 rfl (by decide) (hW _ wd430) rfl dX10_better_11 ?_
    obtain ⟨q1, eq1, hf⟩ := bnd hf
    refine mcVi (v := q1) (rest := []) (Bn := [w10 cs o_x a_x s_x, w9 cs (a_x 2) a_t s_t, w7 cs (a_x 1) a_g s_g, w4 cs (a_x 10) a_m s_m]) (isR := [0, 2, 3]) (isC := [1]) (i0 := 1) ⟨hx, hb, hml, hown, hts⟩ hK hP hD hS hA hG (c9_soundTwins l D cs (a_x 2) a_t s_t H.size _ eq1) (cwV 0 hts (gV wd1129 wd1130 wd1131 wd107 wd1132) rfl rfl rfl (by decide +kernel) ⟨by rw [hR]; exact Nat.le_of_ble_eq_true rfl, by rw [hR]; exact Nat.le_of_ble_eq_true rfl⟩) 4 (by decide) rfl rfl rfl rfl rfl rfl rfl e9 rfl rfl rfl hl.1 rfl (Nat.le_of_ble_eq_true rfl) ⟨Nat.zero_le _, Nat.zero_le _⟩ dX10_better_14 (fun H locs hP hD hS => ?_)
    refine lv_istore_n (lv' := [(2, .int q1), (0, .ref o_x), (1, .int x1)]) hx hb dX10_better_17 rfl hl (by decide) rfl (fun ls hl => ?_)
    refine lv_iload_n hx hb dX10_better_18 rfl (lv_at hl 2 rfl) ?_
    refine lv_iconst (v := (-1)) hx hb dX10_better_19 (by decide) ?_
    refine lv_icmp_eq (tgt := 33) hx hb dX10_better_20 (by decide) (fun hc => ?_) (fun hc => ?_)
    · have hf := ifp hc hf
      refine lv_iconst (v := 0) hx hb dX10_better_33 (by decide) ?_
      refine lv_istore_n (lv' := [(3, .int 0), (2, .int q1), (0, .ref o_x), (1, .int x1)]) hx hb dX10_better_34 rfl hl (by decide) rfl (fun ls hl => ?_)
      obtain ⟨q2, hq2, hf⟩ := bnd hf
      obtain ⟨n2, hq2⟩ := lpw_ex hq2
      have Jq2_0 : ∀ rr2_0 : St × St, q2 = rr2_0 → ∀ (H : Heap) (locs : List Loc) (ls : Array Slot), va_P D vwCl (List.flatten [w10 cs o_x a_x s_x, w9 cs (a_x 2) a_t s_t, w7 cs (a_x 1) a_g rr2_0.1, w4 cs (a_x 10) a_m rr2_0.2]) H → va_D A (List.flatten [w10 cs o_x a_x s_x, w9 cs (a_x 2) a_t s_t, w7 cs (a_x 1) a_g rr2_0.1, w4 cs (a_x 10) a_m rr2_0.2]) → va_S A s.heap H locs → lv_has ls 4 [(0, .ref o_x), (1, .int x1), (2, .int q1)] → W p l e R s m args below meth c H locs 0 0 Q (F0 m 88 ls []) := by
        intro rr2_0 eq2 H locs ls hP hD hS hl
        subst eq2
        refine lv_aload_n hx hb dX10_better_88 rfl (lv_at hl 0 rfl) ?_
        refine gfB (i0 := 0) (own := RX10) (T := TX10) (k := 10) (v := .ref (a_x 10)) hx hb htX10 hown hK hP rfl e10 rfl (by decide) (hW _ wd438) rfl dX10_better_89 ?_
        refine lv_iload_n hx hb dX10_better_92 rfl (lv_at hl 2 rfl) ?_
        obtain ⟨q8, eq8, hf⟩ := bnd hf
        refine mcVv (rest := []) (Bn := [w10 cs o_x a_x s_x, w9 cs (a_x 2) a_t s_t, w7 cs (a_x 1) a_g q2.1, w4 cs (a_x 10) a_m q8]) (isR := [0, 1, 2]) (isC := [3]) (i0 := 3) ⟨hx, hb, hml, hown, hts⟩ hK hP hD hS hA hG (c4_weigh l D cs (a_x 10) a_m q2.2 H.size q1 _ eq8) (cwV 1 hts (gV wd1133 wd1134 wd1135 wd113 wd1136) rfl rfl rfl (by decide +kernel) ⟨by rw [hR]; exact Nat.le_of_ble_eq_true rfl, by rw [hR]; exact Nat.le_of_ble_eq_true rfl⟩) 4 (by decide) rfl rfl rfl rfl rfl rfl rfl e4 rfl rfl rfl hl.1 rfl (Nat.le_of_ble_eq_true rfl) ⟨Nat.zero_le _, Nat.zero_le _⟩ dX10_better_93 (fun H locs hP hD hS => ?_)
        refine lv_iload_n hx hb dX10_better_96 rfl (lv_at hl 1 rfl) ?_
        refine lv_iconst (v := (-1)) hx hb dX10_better_97 (by decide) ?_
        refine lv_icmp_ne (tgt := 112) hx hb dX10_better_98 (by decide) (fun hc => ?_) (fun hc => ?_)
        · have hf := ifn hc hf
          refine lv_aload_n hx hb dX10_better_112 rfl (lv_at hl 0 rfl) ?_
          refine gfB (i0 := 0) (own := RX10) (T := TX10) (k := 10) (v := .ref (a_x 10)) hx hb htX10 hown hK hP rfl e10 rfl (by decide) (hW _ wd438) rfl dX10_better_113 ?_
          refine lv_iload_n hx hb dX10_better_116 rfl (lv_at hl 2 rfl) ?_
          refine lv_iload_n hx hb dX10_better_117 rfl (lv_at hl 1 rfl) ?_
          obtain ⟨q9, eq9, hf⟩ := bnd hf
          refine mcVi (v := q9) (rest := []) (Bn := [w10 cs o_x a_x s_x, w9 cs (a_x 2) a_t s_t, w7 cs (a_x 1) a_g q2.1, w4 cs (a_x 10) a_m q8]) (isR := [0, 1, 2]) (isC := [3]) (i0 := 3) ⟨hx, hb, hml, hown, hts⟩ hK hP hD hS hA hG (c4_partner l D cs (a_x 10) a_m q8 H.size q1 x1 _ eq9) (cwV 2 hts (gV wd1158 wd1159 wd1160 wd113 wd1161) rfl rfl rfl (by decide +kernel) ⟨by rw [hR]; exact Nat.le_of_ble_eq_true rfl, by rw [hR]; exact Nat.le_of_ble_eq_true rfl⟩) 4 (by decide) rfl rfl rfl rfl rfl rfl rfl e4 rfl rfl rfl hl.1 rfl (Nat.le_of_ble_eq_true rfl) ⟨Nat.zero_le _, Nat.zero_le _⟩ dX10_better_118 (fun H locs hP hD hS => ?_)
          obtain rfl := Option.some.inj hf
          exact mretI hx hb hr hlocks hK hP hD hS rfl hQ dX10_better_121
        · have hf := ifp hc hf
          refine lv_aload_n hx hb dX10_better_101 rfl (lv_at hl 0 rfl) ?_
          refine gfB (i0 := 0) (own := RX10) (T := TX10) (k := 10) (v := .ref (a_x 10)) hx hb htX10 hown hK hP rfl e10 rfl (by decide) (hW _ wd438) rfl dX10_better_102 ?_
          refine lv_iload_n hx hb dX10_better_105 rfl (lv_at hl 2 rfl) ?_
          obtain ⟨q10, eq10, hf⟩ := bnd hf
          refine mcVi (v := q10) (rest := []) (Bn := [w10 cs o_x a_x s_x, w9 cs (a_x 2) a_t s_t, w7 cs (a_x 1) a_g q2.1, w4 cs (a_x 10) a_m q8]) (isR := [0, 1, 2]) (isC := [3]) (i0 := 3) ⟨hx, hb, hml, hown, hts⟩ hK hP hD hS hA hG (c4_leastCost l D cs (a_x 10) a_m q8 H.size q1 _ eq10) (cwV 1 hts (gV wd1154 wd1155 wd1156 wd113 wd1157) rfl rfl rfl (by decide +kernel) ⟨by rw [hR]; exact Nat.le_of_ble_eq_true rfl, by rw [hR]; exact Nat.le_of_ble_eq_true rfl⟩) 4 (by decide) rfl rfl rfl rfl rfl rfl rfl e4 rfl rfl rfl hl.1 rfl (Nat.le_of_ble_eq_true rfl) ⟨Nat.zero_le _, Nat.zero_le _⟩ dX10_better_106 (fun H locs hP hD hS => ?_)
          refine lv_goto (tgt := 121) hx hb dX10_better_109 (by decide) ?_
          obtain rfl := Option.some.inj hf
          exact mretI hx hb hr hlocks hK hP hD hS rfl hQ dX10_better_121
      clear hf
      have L2 : ∀ n2, ∀ v3 : Int32 × St × St, lp n2 (f10_better_L2 s_t) v3 = some q2 → ∀ (H : Heap) (locs : List Loc) (ls : Array Slot), va_P D vwCl (List.flatten [w10 cs o_x a_x s_x, w9 cs (a_x 2) a_t s_t, w7 cs (a_x 1) a_g v3.2.1, w4 cs (a_x 10) a_m v3.2.2]) H → va_D A (List.flatten [w10 cs o_x a_x s_x, w9 cs (a_x 2) a_t s_t, w7 cs (a_x 1) a_g v3.2.1, w4 cs (a_x 10) a_m v3.2.2]) → va_S A s.heap H locs → lv_has ls 4 [(0, .ref o_x), (1, .int x1), (2, .int q1), (3, .int v3.1)] → W p l e R s m args below meth c H locs 0 0 Q (F0 m 35 ls []) := by
        intro n2
        induction n2 with
        | zero => intro v3 hn; cases hn
        | succ n2 ih2 =>
          intro v3 hn2 H locs ls hP hD hS hl
          obtain ⟨y2, hf, hn2⟩ := lp_succ hn2
          unfold f10_better_L2 at hf
          refine lv_iload_n hx hb dX10_better_35 rfl (lv_at hl 3 rfl) ?_
          refine lv_aload_n hx hb dX10_better_36 rfl (lv_at hl 0 rfl) ?_
          refine gfB (i0 := 0) (own := RX10) (T := TX10) (k := 2) (v := .ref (a_x 2)) hx hb htX10 hown hK hP rfl e10 rfl (by decide) (hW _ wd430) rfl dX10_better_37 ?_
          refine gfB (i0 := 1) (own := RX10) (T := TX9) (k := 1) (v := .int (s_t.1 1)) hx hb htX9 hown hK hP rfl e9 rfl (by decide) (hW _ wd155) rfl dX10_better_40 ?_
          refine lv_icmp_ge (tgt := 88) hx hb dX10_better_43 (by decide) (fun hc => ?_) (fun hc => ?_)
          · have hf := ifp hc hf
            cases hf
            exact Jq2_0 _ (Option.some.inj hn2).symm _ _ _ hP hD hS (lv_sub hl [0, 1, 2] rfl)
          · have hf := ifn hc hf
            refine lv_aload_n hx hb dX10_better_46 rfl (lv_at hl 0 rfl) ?_
            refine gfB (i0 := 0) (own := RX10) (T := TX10) (k := 10) (v := .ref (a_x 10)) hx hb htX10 hown hK hP rfl e10 rfl (by decide) (hW _ wd438) rfl dX10_better_47 ?_
            refine lv_iload_n hx hb dX10_better_50 rfl (lv_at hl 3 rfl) ?_
            refine lv_aload_n hx hb dX10_better_51 rfl (lv_at hl 0 rfl) ?_
            refine gfB (i0 := 0) (own := RX10) (T := TX10) (k := 2) (v := .ref (a_x 2)) hx hb htX10 hown hK hP rfl e10 rfl (by decide) (hW _ wd430) rfl dX10_better_52 ?_
            refine lv_aload_n hx hb dX10_better_55 rfl (lv_at hl 0 rfl) ?_
            refine gfB (i0 := 0) (own := RX10) (T := TX10) (k := 2) (v := .ref (a_x 2)) hx hb htX10 hown hK hP rfl e10 rfl (by decide) (hW _ wd430) rfl dX10_better_56 ?_
            refine gfB (i0 := 1) (own := RX10) (T := TX9) (k := 8) (v := .ref (a_t 8)) hx hb htX9 hown hK hP rfl e9 rfl (by decide) (hW _ wd174) rfl dX10_better_59 ?_
            refine lv_iload_n hx hb dX10_better_62 rfl (lv_at hl 3 rfl) ?_
            obtain ⟨q4, eq4, hf⟩ := bnd hf
            obtain ⟨gq4, eq4⟩ := ldO_e eq4
            refine aldB (i0 := 1) hx hb hK hP rfl a9_8 gq4 dX10_better_63 ?_
            refine lv_nm eq4 ?_
            obtain ⟨q5, eq5, hf⟩ := bnd hf
            refine mcVi (v := q5) (rest := [.int v3.1, .ref (a_x 10)]) (Bn := [w10 cs o_x a_x s_x, w9 cs (a_x 2) a_t s_t, w7 cs (a_x 1) a_g v3.2.1, w4 cs (a_x 10) a_m v3.2.2]) (isR := [0, 2, 3]) (isC := [1]) (i0 := 1) ⟨hx, hb, hml, hown, hts⟩ hK hP hD hS hA hG (c9_hoursAwake l D cs (a_x 2) a_t s_t H.size q4 _ eq5) (cwV 1 hts (gV wd1109 wd1110 wd1111 wd107 wd1112) rfl rfl rfl (by decide +kernel) ⟨by rw [hR]; exact Nat.le_of_ble_eq_true rfl, by rw [hR]; exact Nat.le_of_ble_eq_true rfl⟩) 4 (by decide) rfl rfl rfl rfl rfl rfl rfl e9 rfl rfl rfl hl.1 rfl (Nat.le_of_ble_eq_true rfl) ⟨Nat.zero_le _, Nat.zero_le _⟩ dX10_better_64 (fun H locs hP hD hS => ?_)
            refine lv_aload_n hx hb dX10_better_67 rfl (lv_at hl 0 rfl) ?_
            refine gfB (i0 := 0) (own := RX10) (T := TX10) (k := 1) (v := .ref (a_x 1)) hx hb htX10 hown hK hP rfl e10 rfl (by decide) (hW _ wd429) rfl dX10_better_68 ?_
            refine lv_aload_n hx hb dX10_better_71 rfl (lv_at hl 0 rfl) ?_
            refine gfB (i0 := 0) (own := RX10) (T := TX10) (k := 2) (v := .ref (a_x 2)) hx hb htX10 hown hK hP rfl e10 rfl (by decide) (hW _ wd430) rfl dX10_better_72 ?_
            refine lv_iload_n hx hb dX10_better_75 rfl (lv_at hl 3 rfl) ?_
            obtain ⟨q6, eq6, hf⟩ := bnd hf
            refine mcVi (v := q6.1) (rest := [.int q5, .int v3.1, .ref (a_x 10)]) (Bn := [w10 cs o_x a_x s_x, w9 cs (a_x 2) a_t s_t, w7 cs (a_x 1) a_g q6.2, w4 cs (a_x 10) a_m v3.2.2]) (isR := [0, 3]) (isC := [2, 1]) (i0 := 2) ⟨hx, hb, hml, hown, hts⟩ hK hP hD hS hA hG (c7_hoursWanted l D cs (a_x 1) a_g (a_x 2) a_t v3.2.1 s_t H.size v3.1 _ eq6) (cwV 2 hts (gV wd963 wd964 wd965 wd108 wd966) rfl rfl rfl (by decide +kernel) ⟨by rw [hR]; exact Nat.le_of_ble_eq_true rfl, by rw [hR]; exact Nat.le_of_ble_eq_true rfl⟩) 4 (by decide) rfl rfl rfl rfl rfl rfl rfl e7 rfl rfl rfl hl.1 rfl (Nat.le_of_ble_eq_true rfl) ⟨Nat.zero_le _, Nat.zero_le _⟩ dX10_better_76 (fun H locs hP hD hS => ?_)
            obtain ⟨q7, eq7, hf⟩ := bnd hf
            refine mcVv (rest := []) (Bn := [w10 cs o_x a_x s_x, w9 cs (a_x 2) a_t s_t, w7 cs (a_x 1) a_g q6.2, w4 cs (a_x 10) a_m q7]) (isR := [0, 1, 2]) (isC := [3]) (i0 := 3) ⟨hx, hb, hml, hown, hts⟩ hK hP hD hS hA hG (c4_setHours l D cs (a_x 10) a_m v3.2.2 H.size v3.1 q5 q6.1 _ eq7) (cwV 3 hts (gV wd1113 wd1114 wd1115 wd113 wd1116) rfl rfl rfl (by decide +kernel) ⟨by rw [hR]; exact Nat.le_of_ble_eq_true rfl, by rw [hR]; exact Nat.le_of_ble_eq_true rfl⟩) 4 (by decide) rfl rfl rfl rfl rfl rfl rfl e4 rfl rfl rfl hl.1 rfl (Nat.le_of_ble_eq_true rfl) ⟨Nat.zero_le _, Nat.zero_le _⟩ dX10_better_79 (fun H locs hP hD hS => ?_)
            refine lv_iinc (v := (v3.1 + 1)) (lv' := [(3, .int (v3.1 + 1)), (0, .ref o_x), (1, .int x1), (2, .int q1)]) hx hb dX10_better_82 hl (k := 3) rfl rfl (by decide) rfl (fun ls hl => ?_)
            refine lv_goto (tgt := 35) hx hb dX10_better_85 (by decide) ?_
            cases hf
            exact ih2 _ hn2 _ _ _ hP hD hS (lv_sub hl [1, 2, 3, 0] rfl)
      exact L2 _ _ hq2 _ _ _ hP hD hS (lv_sub hl [2, 3, 1, 0] rfl)
    · have hf := ifn hc hf
      refine lv_iload_n hx hb dX10_better_23 rfl (lv_at hl 0 rfl) ?_
      refine lv_iload_n hx hb dX10_better_24 rfl (lv_at hl 2 rfl) ?_
      refine lv_ishr hx hb dX10_better_25 ?_
      refine lv_iconst (v := 1) hx hb dX10_better_26 (by decide) ?_
      refine lv_iand hx hb dX10_better_27 ?_
      refine lv_if_ne (tgt := 33) hx hb dX10_better_28 (by decide) (fun hc => ?_) (fun hc => ?_)
      · have hf := ifn hc hf
        refine lv_iconst (v := 0) hx hb dX10_better_33 (by decide) ?_
        refine lv_istore_n (lv' := [(3, .int 0), (2, .int q1), (0, .ref o_x), (1, .int x1)]) hx hb dX10_better_34 rfl hl (by decide) rfl (fun ls hl => ?_)
        obtain ⟨q11, hq11, hf⟩ := bnd hf
        obtain ⟨n11, hq11⟩ := lpw_ex hq11
        have Jq11_0 : ∀ rr11_0 : St × St, q11 = rr11_0 → ∀ (H : Heap) (locs : List Loc) (ls : Array Slot), va_P D vwCl (List.flatten [w10 cs o_x a_x s_x, w9 cs (a_x 2) a_t s_t, w7 cs (a_x 1) a_g rr11_0.1, w4 cs (a_x 10) a_m rr11_0.2]) H → va_D A (List.flatten [w10 cs o_x a_x s_x, w9 cs (a_x 2) a_t s_t, w7 cs (a_x 1) a_g rr11_0.1, w4 cs (a_x 10) a_m rr11_0.2]) → va_S A s.heap H locs → lv_has ls 4 [(0, .ref o_x), (1, .int x1), (2, .int q1)] → W p l e R s m args below meth c H locs 0 0 Q (F0 m 88 ls []) := by
          intro rr11_0 eq11 H locs ls hP hD hS hl
          subst eq11
          refine lv_aload_n hx hb dX10_better_88 rfl (lv_at hl 0 rfl) ?_
          refine gfB (i0 := 0) (own := RX10) (T := TX10) (k := 10) (v := .ref (a_x 10)) hx hb htX10 hown hK hP rfl e10 rfl (by decide) (hW _ wd438) rfl dX10_better_89 ?_
          refine lv_iload_n hx hb dX10_better_92 rfl (lv_at hl 2 rfl) ?_
          obtain ⟨q17, eq17, hf⟩ := bnd hf
          refine mcVv (rest := []) (Bn := [w10 cs o_x a_x s_x, w9 cs (a_x 2) a_t s_t, w7 cs (a_x 1) a_g q11.1, w4 cs (a_x 10) a_m q17]) (isR := [0, 1, 2]) (isC := [3]) (i0 := 3) ⟨hx, hb, hml, hown, hts⟩ hK hP hD hS hA hG (c4_weigh l D cs (a_x 10) a_m q11.2 H.size q1 _ eq17) (cwV 1 hts (gV wd1133 wd1134 wd1135 wd113 wd1136) rfl rfl rfl (by decide +kernel) ⟨by rw [hR]; exact Nat.le_of_ble_eq_true rfl, by rw [hR]; exact Nat.le_of_ble_eq_true rfl⟩) 4 (by decide) rfl rfl rfl rfl rfl rfl rfl e4 rfl rfl rfl hl.1 rfl (Nat.le_of_ble_eq_true rfl) ⟨Nat.zero_le _, Nat.zero_le _⟩ dX10_better_93 (fun H locs hP hD hS => ?_)
          refine lv_iload_n hx hb dX10_better_96 rfl (lv_at hl 1 rfl) ?_
          refine lv_iconst (v := (-1)) hx hb dX10_better_97 (by decide) ?_
          refine lv_icmp_ne (tgt := 112) hx hb dX10_better_98 (by decide) (fun hc => ?_) (fun hc => ?_)
          · have hf := ifn hc hf
            refine lv_aload_n hx hb dX10_better_112 rfl (lv_at hl 0 rfl) ?_
            refine gfB (i0 := 0) (own := RX10) (T := TX10) (k := 10) (v := .ref (a_x 10)) hx hb htX10 hown hK hP rfl e10 rfl (by decide) (hW _ wd438) rfl dX10_better_113 ?_
            refine lv_iload_n hx hb dX10_better_116 rfl (lv_at hl 2 rfl) ?_
            refine lv_iload_n hx hb dX10_better_117 rfl (lv_at hl 1 rfl) ?_
            obtain ⟨q18, eq18, hf⟩ := bnd hf
            refine mcVi (v := q18) (rest := []) (Bn := [w10 cs o_x a_x s_x, w9 cs (a_x 2) a_t s_t, w7 cs (a_x 1) a_g q11.1, w4 cs (a_x 10) a_m q17]) (isR := [0, 1, 2]) (isC := [3]) (i0 := 3) ⟨hx, hb, hml, hown, hts⟩ hK hP hD hS hA hG (c4_partner l D cs (a_x 10) a_m q17 H.size q1 x1 _ eq18) (cwV 2 hts (gV wd1158 wd1159 wd1160 wd113 wd1161) rfl rfl rfl (by decide +kernel) ⟨by rw [hR]; exact Nat.le_of_ble_eq_true rfl, by rw [hR]; exact Nat.le_of_ble_eq_true rfl⟩) 4 (by decide) rfl rfl rfl rfl rfl rfl rfl e4 rfl rfl rfl hl.1 rfl (Nat.le_of_ble_eq_true rfl) ⟨Nat.zero_le _, Nat.zero_le _⟩ dX10_better_118 (fun H locs hP hD hS => ?_)
            obtain rfl := Option.some.inj hf
            exact mretI hx hb hr hlocks hK hP hD hS rfl hQ dX10_better_121
          · have hf := ifp hc hf
            refine lv_aload_n hx hb dX10_better_101 rfl (lv_at hl 0 rfl) ?_
            refine gfB (i0 := 0) (own := RX10) (T := TX10) (k := 10) (v := .ref (a_x 10)) hx hb htX10 hown hK hP rfl e10 rfl (by decide) (hW _ wd438) rfl dX10_better_102 ?_
            refine lv_iload_n hx hb dX10_better_105 rfl (lv_at hl 2 rfl) ?_
            obtain ⟨q19, eq19, hf⟩ := bnd hf
            refine mcVi (v := q19) (rest := []) (Bn := [w10 cs o_x a_x s_x, w9 cs (a_x 2) a_t s_t, w7 cs (a_x 1) a_g q11.1, w4 cs (a_x 10) a_m q17]) (isR := [0, 1, 2]) (isC := [3]) (i0 := 3) ⟨hx, hb, hml, hown, hts⟩ hK hP hD hS hA hG (c4_leastCost l D cs (a_x 10) a_m q17 H.size q1 _ eq19) (cwV 1 hts (gV wd1154 wd1155 wd1156 wd113 wd1157) rfl rfl rfl (by decide +kernel) ⟨by rw [hR]; exact Nat.le_of_ble_eq_true rfl, by rw [hR]; exact Nat.le_of_ble_eq_true rfl⟩) 4 (by decide) rfl rfl rfl rfl rfl rfl rfl e4 rfl rfl rfl hl.1 rfl (Nat.le_of_ble_eq_true rfl) ⟨Nat.zero_le _, Nat.zero_le _⟩ dX10_better_106 (fun H locs hP hD hS => ?_)
            refine lv_goto (tgt := 121) hx hb dX10_better_109 (by decide) ?_
            obtain rfl := Option.some.inj hf
            exact mretI hx hb hr hlocks hK hP hD hS rfl hQ dX10_better_121
        clear hf
        have L11 : ∀ n11, ∀ v12 : Int32 × St × St, lp n11 (f10_better_L11 s_t) v12 = some q11 → ∀ (H : Heap) (locs : List Loc) (ls : Array Slot), va_P D vwCl (List.flatten [w10 cs o_x a_x s_x, w9 cs (a_x 2) a_t s_t, w7 cs (a_x 1) a_g v12.2.1, w4 cs (a_x 10) a_m v12.2.2]) H → va_D A (List.flatten [w10 cs o_x a_x s_x, w9 cs (a_x 2) a_t s_t, w7 cs (a_x 1) a_g v12.2.1, w4 cs (a_x 10) a_m v12.2.2]) → va_S A s.heap H locs → lv_has ls 4 [(0, .ref o_x), (1, .int x1), (2, .int q1), (3, .int v12.1)] → W p l e R s m args below meth c H locs 0 0 Q (F0 m 35 ls []) := by
          intro n11
          induction n11 with
          | zero => intro v12 hn; cases hn
          | succ n11 ih11 =>
            intro v12 hn11 H locs ls hP hD hS hl
            obtain ⟨y11, hf, hn11⟩ := lp_succ hn11
            unfold f10_better_L11 at hf
            refine lv_iload_n hx hb dX10_better_35 rfl (lv_at hl 3 rfl) ?_
            refine lv_aload_n hx hb dX10_better_36 rfl (lv_at hl 0 rfl) ?_
            refine gfB (i0 := 0) (own := RX10) (T := TX10) (k := 2) (v := .ref (a_x 2)) hx hb htX10 hown hK hP rfl e10 rfl (by decide) (hW _ wd430) rfl dX10_better_37 ?_
            refine gfB (i0 := 1) (own := RX10) (T := TX9) (k := 1) (v := .int (s_t.1 1)) hx hb htX9 hown hK hP rfl e9 rfl (by decide) (hW _ wd155) rfl dX10_better_40 ?_
            refine lv_icmp_ge (tgt := 88) hx hb dX10_better_43 (by decide) (fun hc => ?_) (fun hc => ?_)
            · have hf := ifp hc hf
              cases hf
              exact Jq11_0 _ (Option.some.inj hn11).symm _ _ _ hP hD hS (lv_sub hl [0, 1, 2] rfl)
            · have hf := ifn hc hf
              refine lv_aload_n hx hb dX10_better_46 rfl (lv_at hl 0 rfl) ?_
              refine gfB (i0 := 0) (own := RX10) (T := TX10) (k := 10) (v := .ref (a_x 10)) hx hb htX10 hown hK hP rfl e10 rfl (by decide) (hW _ wd438) rfl dX10_better_47 ?_
              refine lv_iload_n hx hb dX10_better_50 rfl (lv_at hl 3 rfl) ?_
              refine lv_aload_n hx hb dX10_better_51 rfl (lv_at hl 0 rfl) ?_
              refine gfB (i0 := 0) (own := RX10) (T := TX10) (k := 2) (v := .ref (a_x 2)) hx hb htX10 hown hK hP rfl e10 rfl (by decide) (hW _ wd430) rfl dX10_better_52 ?_
              refine lv_aload_n hx hb dX10_better_55 rfl (lv_at hl 0 rfl) ?_
              refine gfB (i0 := 0) (own := RX10) (T := TX10) (k := 2) (v := .ref (a_x 2)) hx hb htX10 hown hK hP rfl e10 rfl (by decide) (hW _ wd430) rfl dX10_better_56 ?_
              refine gfB (i0 := 1) (own := RX10) (T := TX9) (k := 8) (v := .ref (a_t 8)) hx hb htX9 hown hK hP rfl e9 rfl (by decide) (hW _ wd174) rfl dX10_better_59 ?_
              refine lv_iload_n hx hb dX10_better_62 rfl (lv_at hl 3 rfl) ?_
              obtain ⟨q13, eq13, hf⟩ := bnd hf
              obtain ⟨gq13, eq13⟩ := ldO_e eq13
              refine aldB (i0 := 1) hx hb hK hP rfl a9_8 gq13 dX10_better_63 ?_
              refine lv_nm eq13 ?_
              obtain ⟨q14, eq14, hf⟩ := bnd hf
              refine mcVi (v := q14) (rest := [.int v12.1, .ref (a_x 10)]) (Bn := [w10 cs o_x a_x s_x, w9 cs (a_x 2) a_t s_t, w7 cs (a_x 1) a_g v12.2.1, w4 cs (a_x 10) a_m v12.2.2]) (isR := [0, 2, 3]) (isC := [1]) (i0 := 1) ⟨hx, hb, hml, hown, hts⟩ hK hP hD hS hA hG (c9_hoursAwake l D cs (a_x 2) a_t s_t H.size q13 _ eq14) (cwV 1 hts (gV wd1109 wd1110 wd1111 wd107 wd1112) rfl rfl rfl (by decide +kernel) ⟨by rw [hR]; exact Nat.le_of_ble_eq_true rfl, by rw [hR]; exact Nat.le_of_ble_eq_true rfl⟩) 4 (by decide) rfl rfl rfl rfl rfl rfl rfl e9 rfl rfl rfl hl.1 rfl (Nat.le_of_ble_eq_true rfl) ⟨Nat.zero_le _, Nat.zero_le _⟩ dX10_better_64 (fun H locs hP hD hS => ?_)
              refine lv_aload_n hx hb dX10_better_67 rfl (lv_at hl 0 rfl) ?_
              refine gfB (i0 := 0) (own := RX10) (T := TX10) (k := 1) (v := .ref (a_x 1)) hx hb htX10 hown hK hP rfl e10 rfl (by decide) (hW _ wd429) rfl dX10_better_68 ?_
              refine lv_aload_n hx hb dX10_better_71 rfl (lv_at hl 0 rfl) ?_
              refine gfB (i0 := 0) (own := RX10) (T := TX10) (k := 2) (v := .ref (a_x 2)) hx hb htX10 hown hK hP rfl e10 rfl (by decide) (hW _ wd430) rfl dX10_better_72 ?_
              refine lv_iload_n hx hb dX10_better_75 rfl (lv_at hl 3 rfl) ?_
              obtain ⟨q15, eq15, hf⟩ := bnd hf
              refine mcVi (v := q15.1) (rest := [.int q14, .int v12.1, .ref (a_x 10)]) (Bn := [w10 cs o_x a_x s_x, w9 cs (a_x 2) a_t s_t, w7 cs (a_x 1) a_g q15.2, w4 cs (a_x 10) a_m v12.2.2]) (isR := [0, 3]) (isC := [2, 1]) (i0 := 2) ⟨hx, hb, hml, hown, hts⟩ hK hP hD hS hA hG (c7_hoursWanted l D cs (a_x 1) a_g (a_x 2) a_t v12.2.1 s_t H.size v12.1 _ eq15) (cwV 2 hts (gV wd963 wd964 wd965 wd108 wd966) rfl rfl rfl (by decide +kernel) ⟨by rw [hR]; exact Nat.le_of_ble_eq_true rfl, by rw [hR]; exact Nat.le_of_ble_eq_true rfl⟩) 4 (by decide) rfl rfl rfl rfl rfl rfl rfl e7 rfl rfl rfl hl.1 rfl (Nat.le_of_ble_eq_true rfl) ⟨Nat.zero_le _, Nat.zero_le _⟩ dX10_better_76 (fun H locs hP hD hS => ?_)
              obtain ⟨q16, eq16, hf⟩ := bnd hf
              refine mcVv (rest := []) (Bn := [w10 cs o_x a_x s_x, w9 cs (a_x 2) a_t s_t, w7 cs (a_x 1) a_g q15.2, w4 cs (a_x 10) a_m q16]) (isR := [0, 1, 2]) (isC := [3]) (i0 := 3) ⟨hx, hb, hml, hown, hts⟩ hK hP hD hS hA hG (c4_setHours l D cs (a_x 10) a_m v12.2.2 H.size v12.1 q14 q15.1 _ eq16) (cwV 3 hts (gV wd1113 wd1114 wd1115 wd113 wd1116) rfl rfl rfl (by decide +kernel) ⟨by rw [hR]; exact Nat.le_of_ble_eq_true rfl, by rw [hR]; exact Nat.le_of_ble_eq_true rfl⟩) 4 (by decide) rfl rfl rfl rfl rfl rfl rfl e4 rfl rfl rfl hl.1 rfl (Nat.le_of_ble_eq_true rfl) ⟨Nat.zero_le _, Nat.zero_le _⟩ dX10_better_79 (fun H locs hP hD hS => ?_)
              refine lv_iinc (v := (v12.1 + 1)) (lv' := [(3, .int (v12.1 + 1)), (0, .ref o_x), (1, .int x1), (2, .int q1)]) hx hb dX10_better_82 hl (k := 3) rfl rfl (by decide) rfl (fun ls hl => ?_)
              refine lv_goto (tgt := 35) hx hb dX10_better_85 (by decide) ?_
              cases hf
              exact ih11 _ hn11 _ _ _ hP hD hS (lv_sub hl [1, 2, 3, 0] rfl)
        exact L11 _ _ hq11 _ _ _ hP hD hS (lv_sub hl [2, 3, 1, 0] rfl)
      · have hf := ifp hc hf
        refine lv_iconst (v := (-1)) hx hb dX10_better_31 (by decide) ?_
        obtain rfl := Option.some.inj hf
        exact mretI hx hb hr hlocks hK hP hD hS rfl hQ dX10_better_32
  · have hf := ifn hc hf
    refine lv_aload_n hx hb dX10_better_5 rfl (lv_at hl 0 rfl) ?_
    refine lv_iload_n hx hb dX10_better_6 rfl (lv_at hl 1 rfl) ?_
    obtain ⟨q20, eq20, hf⟩ := xB_l hf
    refine mcVv (rest := []) (Bn := [w10 cs o_x a_x s_x, w9 cs (a_x 2) a_t s_t, w7 cs (a_x 1) a_g s_g, w4 cs (a_x 10) a_m s_m]) (isR := [2, 3]) (isC := [0, 1]) (i0 := 0) ⟨hx, hb, hml, hown, hts⟩ hK hP hD hS hA hG (c10_needLamp l D cs o_x a_x a_t s_x s_t H.size x1 _ eq20) (cwV 1 hts (gV wd952 wd954 wd26 wd105 wd955) rfl rfl rfl (by decide +kernel) ⟨by rw [hR]; exact Nat.le_of_ble_eq_true rfl, by rw [hR]; exact Nat.le_of_ble_eq_true rfl⟩) 4 (by decide) rfl rfl rfl rfl rfl rfl rfl e10 rfl rfl rfl hl.1 rfl (Nat.le_of_ble_eq_true rfl) ⟨Nat.zero_le _, Nat.zero_le _⟩ dX10_better_7 (fun H locs hP hD hS => ?_)
    have hf := wI_l hf
    refine lv_aload_n hx hb dX10_better_10 rfl (lv_at hl 0 rfl) ?_
    refine gfB (i0 := 0) (own := RX10) (T := TX10) (k := 2) (v := .ref (a_x 2)) hx hb htX10 hown hK hP rfl e10 rfl (by decide) (hW _ wd430) rfl dX10_better_11 ?_
    obtain ⟨q21, eq21, hf⟩ := bnd hf
    refine mcVi (v := q21) (rest := []) (Bn := [w10 cs o_x a_x s_x, w9 cs (a_x 2) a_t s_t, w7 cs (a_x 1) a_g s_g, w4 cs (a_x 10) a_m s_m]) (isR := [0, 2, 3]) (isC := [1]) (i0 := 1) ⟨hx, hb, hml, hown, hts⟩ hK hP hD hS hA hG (c9_soundTwins l D cs (a_x 2) a_t s_t H.size _ eq21) (cwV 0 hts (gV wd1129 wd1130 wd1131 wd107 wd1132) rfl rfl rfl (by decide +kernel) ⟨by rw [hR]; exact Nat.le_of_ble_eq_true rfl, by rw [hR]; exact Nat.le_of_ble_eq_true rfl⟩) 4 (by decide) rfl rfl rfl rfl rfl rfl rfl e9 rfl rfl rfl hl.1 rfl (Nat.le_of_ble_eq_true rfl) ⟨Nat.zero_le _, Nat.zero_le _⟩ dX10_better_14 (fun H locs hP hD hS => ?_)
    refine lv_istore_n (lv' := [(2, .int q21), (0, .ref o_x), (1, .int x1)]) hx hb dX10_better_17 rfl hl (by decide) rfl (fun ls hl => ?_)
    refine lv_iload_n hx hb dX10_better_18 rfl (lv_at hl 2 rfl) ?_
    refine lv_iconst (v := (-1)) hx hb dX10_better_19 (by decide) ?_
    refine lv_icmp_eq (tgt := 33) hx hb dX10_better_20 (by decide) (fun hc => ?_) (fun hc => ?_)
    · have hf := ifp hc hf
      refine lv_iconst (v := 0) hx hb dX10_better_33 (by decide) ?_
      refine lv_istore_n (lv' := [(3, .int 0), (2, .int q21), (0, .ref o_x), (1, .int x1)]) hx hb dX10_better_34 rfl hl (by decide) rfl (fun ls hl => ?_)
      obtain ⟨q22, hq22, hf⟩ := bnd hf
      obtain ⟨n22, hq22⟩ := lpw_ex hq22
      have Jq22_0 : ∀ rr22_0 : St × St, q22 = rr22_0 → ∀ (H : Heap) (locs : List Loc) (ls : Array Slot), va_P D vwCl (List.flatten [w10 cs o_x a_x s_x, w9 cs (a_x 2) a_t s_t, w7 cs (a_x 1) a_g rr22_0.1, w4 cs (a_x 10) a_m rr22_0.2]) H → va_D A (List.flatten [w10 cs o_x a_x s_x, w9 cs (a_x 2) a_t s_t, w7 cs (a_x 1) a_g rr22_0.1, w4 cs (a_x 10) a_m rr22_0.2]) → va_S A s.heap H locs → lv_has ls 4 [(0, .ref o_x), (1, .int x1), (2, .int q21)] → W p l e R s m args below meth c H locs 0 0 Q (F0 m 88 ls []) := by
        intro rr22_0 eq22 H locs ls hP hD hS hl
        subst eq22
        refine lv_aload_n hx hb dX10_better_88 rfl (lv_at hl 0 rfl) ?_
        refine gfB (i0 := 0) (own := RX10) (T := TX10) (k := 10) (v := .ref (a_x 10)) hx hb htX10 hown hK hP rfl e10 rfl (by decide) (hW _ wd438) rfl dX10_better_89 ?_
        refine lv_iload_n hx hb dX10_better_92 rfl (lv_at hl 2 rfl) ?_
        obtain ⟨q28, eq28, hf⟩ := bnd hf
        refine mcVv (rest := []) (Bn := [w10 cs o_x a_x s_x, w9 cs (a_x 2) a_t s_t, w7 cs (a_x 1) a_g q22.1, w4 cs (a_x 10) a_m q28]) (isR := [0, 1, 2]) (isC := [3]) (i0 := 3) ⟨hx, hb, hml, hown, hts⟩ hK hP hD hS hA hG (c4_weigh l D cs (a_x 10) a_m q22.2 H.size q21 _ eq28) (cwV 1 hts (gV wd1133 wd1134 wd1135 wd113 wd1136) rfl rfl rfl (by decide +kernel) ⟨by rw [hR]; exact Nat.le_of_ble_eq_true rfl, by rw [hR]; exact Nat.le_of_ble_eq_true rfl⟩) 4 (by decide) rfl rfl rfl rfl rfl rfl rfl e4 rfl rfl rfl hl.1 rfl (Nat.le_of_ble_eq_true rfl) ⟨Nat.zero_le _, Nat.zero_le _⟩ dX10_better_93 (fun H locs hP hD hS => ?_)
        refine lv_iload_n hx hb dX10_better_96 rfl (lv_at hl 1 rfl) ?_
        refine lv_iconst (v := (-1)) hx hb dX10_better_97 (by decide) ?_
        refine lv_icmp_ne (tgt := 112) hx hb dX10_better_98 (by decide) (fun hc => ?_) (fun hc => ?_)
        · have hf := ifn hc hf
          refine lv_aload_n hx hb dX10_better_112 rfl (lv_at hl 0 rfl) ?_
          refine gfB (i0 := 0) (own := RX10) (T := TX10) (k := 10) (v := .ref (a_x 10)) hx hb htX10 hown hK hP rfl e10 rfl (by decide) (hW _ wd438) rfl dX10_better_113 ?_
          refine lv_iload_n hx hb dX10_better_116 rfl (lv_at hl 2 rfl) ?_
          refine lv_iload_n hx hb dX10_better_117 rfl (lv_at hl 1 rfl) ?_
          obtain ⟨q29, eq29, hf⟩ := bnd hf
          refine mcVi (v := q29) (rest := []) (Bn := [w10 cs o_x a_x s_x, w9 cs (a_x 2) a_t s_t, w7 cs (a_x 1) a_g q22.1, w4 cs (a_x 10) a_m q28]) (isR := [0, 1, 2]) (isC := [3]) (i0 := 3) ⟨hx, hb, hml, hown, hts⟩ hK hP hD hS hA hG (c4_partner l D cs (a_x 10) a_m q28 H.size q21 x1 _ eq29) (cwV 2 hts (gV wd1158 wd1159 wd1160 wd113 wd1161) rfl rfl rfl (by decide +kernel) ⟨by rw [hR]; exact Nat.le_of_ble_eq_true rfl, by rw [hR]; exact Nat.le_of_ble_eq_true rfl⟩) 4 (by decide) rfl rfl rfl rfl rfl rfl rfl e4 rfl rfl rfl hl.1 rfl (Nat.le_of_ble_eq_true rfl) ⟨Nat.zero_le _, Nat.zero_le _⟩ dX10_better_118 (fun H locs hP hD hS => ?_)
          obtain rfl := Option.some.inj hf
          exact mretI hx hb hr hlocks hK hP hD hS rfl hQ dX10_better_121
        · have hf := ifp hc hf
          refine lv_aload_n hx hb dX10_better_101 rfl (lv_at hl 0 rfl) ?_
          refine gfB (i0 := 0) (own := RX10) (T := TX10) (k := 10) (v := .ref (a_x 10)) hx hb htX10 hown hK hP rfl e10 rfl (by decide) (hW _ wd438) rfl dX10_better_102 ?_
          refine lv_iload_n hx hb dX10_better_105 rfl (lv_at hl 2 rfl) ?_
          obtain ⟨q30, eq30, hf⟩ := bnd hf
          refine mcVi (v := q30) (rest := []) (Bn := [w10 cs o_x a_x s_x, w9 cs (a_x 2) a_t s_t, w7 cs (a_x 1) a_g q22.1, w4 cs (a_x 10) a_m q28]) (isR := [0, 1, 2]) (isC := [3]) (i0 := 3) ⟨hx, hb, hml, hown, hts⟩ hK hP hD hS hA hG (c4_leastCost l D cs (a_x 10) a_m q28 H.size q21 _ eq30) (cwV 1 hts (gV wd1154 wd1155 wd1156 wd113 wd1157) rfl rfl rfl (by decide +kernel) ⟨by rw [hR]; exact Nat.le_of_ble_eq_true rfl, by rw [hR]; exact Nat.le_of_ble_eq_true rfl⟩) 4 (by decide) rfl rfl rfl rfl rfl rfl rfl e4 rfl rfl rfl hl.1 rfl (Nat.le_of_ble_eq_true rfl) ⟨Nat.zero_le _, Nat.zero_le _⟩ dX10_better_106 (fun H locs hP hD hS => ?_)
          refine lv_goto (tgt := 121) hx hb dX10_better_109 (by decide) ?_
          obtain rfl := Option.some.inj hf
          exact mretI hx hb hr hlocks hK hP hD hS rfl hQ dX10_better_121
      clear hf
      have L22 : ∀ n22, ∀ v23 : Int32 × St × St, lp n22 (f10_better_L22 s_t) v23 = some q22 → ∀ (H : Heap) (locs : List Loc) (ls : Array Slot), va_P D vwCl (List.flatten [w10 cs o_x a_x s_x, w9 cs (a_x 2) a_t s_t, w7 cs (a_x 1) a_g v23.2.1, w4 cs (a_x 10) a_m v23.2.2]) H → va_D A (List.flatten [w10 cs o_x a_x s_x, w9 cs (a_x 2) a_t s_t, w7 cs (a_x 1) a_g v23.2.1, w4 cs (a_x 10) a_m v23.2.2]) → va_S A s.heap H locs → lv_has ls 4 [(0, .ref o_x), (1, .int x1), (2, .int q21), (3, .int v23.1)] → W p l e R s m args below meth c H locs 0 0 Q (F0 m 35 ls []) := by
        intro n22
        induction n22 with
        | zero => intro v23 hn; cases hn
        | succ n22 ih22 =>
          intro v23 hn22 H locs ls hP hD hS hl
          obtain ⟨y22, hf, hn22⟩ := lp_succ hn22
          unfold f10_better_L22 at hf
          refine lv_iload_n hx hb dX10_better_35 rfl (lv_at hl 3 rfl) ?_
          refine lv_aload_n hx hb dX10_better_36 rfl (lv_at hl 0 rfl) ?_
          refine gfB (i0 := 0) (own := RX10) (T := TX10) (k := 2) (v := .ref (a_x 2)) hx hb htX10 hown hK hP rfl e10 rfl (by decide) (hW _ wd430) rfl dX10_better_37 ?_
          refine gfB (i0 := 1) (own := RX10) (T := TX9) (k := 1) (v := .int (s_t.1 1)) hx hb htX9 hown hK hP rfl e9 rfl (by decide) (hW _ wd155) rfl dX10_better_40 ?_
          refine lv_icmp_ge (tgt := 88) hx hb dX10_better_43 (by decide) (fun hc => ?_) (fun hc => ?_)
          · have hf := ifp hc hf
            cases hf
            exact Jq22_0 _ (Option.some.inj hn22).symm _ _ _ hP hD hS (lv_sub hl [0, 1, 2] rfl)
          · have hf := ifn hc hf
            refine lv_aload_n hx hb dX10_better_46 rfl (lv_at hl 0 rfl) ?_
            refine gfB (i0 := 0) (own := RX10) (T := TX10) (k := 10) (v := .ref (a_x 10)) hx hb htX10 hown hK hP rfl e10 rfl (by decide) (hW _ wd438) rfl dX10_better_47 ?_
            refine lv_iload_n hx hb dX10_better_50 rfl (lv_at hl 3 rfl) ?_
            refine lv_aload_n hx hb dX10_better_51 rfl (lv_at hl 0 rfl) ?_
            refine gfB (i0 := 0) (own := RX10) (T := TX10) (k := 2) (v := .ref (a_x 2)) hx hb htX10 hown hK hP rfl e10 rfl (by decide) (hW _ wd430) rfl dX10_better_52 ?_
            refine lv_aload_n hx hb dX10_better_55 rfl (lv_at hl 0 rfl) ?_
            refine gfB (i0 := 0) (own := RX10) (T := TX10) (k := 2) (v := .ref (a_x 2)) hx hb htX10 hown hK hP rfl e10 rfl (by decide) (hW _ wd430) rfl dX10_better_56 ?_
            refine gfB (i0 := 1) (own := RX10) (T := TX9) (k := 8) (v := .ref (a_t 8)) hx hb htX9 hown hK hP rfl e9 rfl (by decide) (hW _ wd174) rfl dX10_better_59 ?_
            refine lv_iload_n hx hb dX10_better_62 rfl (lv_at hl 3 rfl) ?_
            obtain ⟨q24, eq24, hf⟩ := bnd hf
            obtain ⟨gq24, eq24⟩ := ldO_e eq24
            refine aldB (i0 := 1) hx hb hK hP rfl a9_8 gq24 dX10_better_63 ?_
            refine lv_nm eq24 ?_
            obtain ⟨q25, eq25, hf⟩ := bnd hf
            refine mcVi (v := q25) (rest := [.int v23.1, .ref (a_x 10)]) (Bn := [w10 cs o_x a_x s_x, w9 cs (a_x 2) a_t s_t, w7 cs (a_x 1) a_g v23.2.1, w4 cs (a_x 10) a_m v23.2.2]) (isR := [0, 2, 3]) (isC := [1]) (i0 := 1) ⟨hx, hb, hml, hown, hts⟩ hK hP hD hS hA hG (c9_hoursAwake l D cs (a_x 2) a_t s_t H.size q24 _ eq25) (cwV 1 hts (gV wd1109 wd1110 wd1111 wd107 wd1112) rfl rfl rfl (by decide +kernel) ⟨by rw [hR]; exact Nat.le_of_ble_eq_true rfl, by rw [hR]; exact Nat.le_of_ble_eq_true rfl⟩) 4 (by decide) rfl rfl rfl rfl rfl rfl rfl e9 rfl rfl rfl hl.1 rfl (Nat.le_of_ble_eq_true rfl) ⟨Nat.zero_le _, Nat.zero_le _⟩ dX10_better_64 (fun H locs hP hD hS => ?_)
            refine lv_aload_n hx hb dX10_better_67 rfl (lv_at hl 0 rfl) ?_
            refine gfB (i0 := 0) (own := RX10) (T := TX10) (k := 1) (v := .ref (a_x 1)) hx hb htX10 hown hK hP rfl e10 rfl (by decide) (hW _ wd429) rfl dX10_better_68 ?_
            refine lv_aload_n hx hb dX10_better_71 rfl (lv_at hl 0 rfl) ?_
            refine gfB (i0 := 0) (own := RX10) (T := TX10) (k := 2) (v := .ref (a_x 2)) hx hb htX10 hown hK hP rfl e10 rfl (by decide) (hW _ wd430) rfl dX10_better_72 ?_
            refine lv_iload_n hx hb dX10_better_75 rfl (lv_at hl 3 rfl) ?_
            obtain ⟨q26, eq26, hf⟩ := bnd hf
            refine mcVi (v := q26.1) (rest := [.int q25, .int v23.1, .ref (a_x 10)]) (Bn := [w10 cs o_x a_x s_x, w9 cs (a_x 2) a_t s_t, w7 cs (a_x 1) a_g q26.2, w4 cs (a_x 10) a_m v23.2.2]) (isR := [0, 3]) (isC := [2, 1]) (i0 := 2) ⟨hx, hb, hml, hown, hts⟩ hK hP hD hS hA hG (c7_hoursWanted l D cs (a_x 1) a_g (a_x 2) a_t v23.2.1 s_t H.size v23.1 _ eq26) (cwV 2 hts (gV wd963 wd964 wd965 wd108 wd966) rfl rfl rfl (by decide +kernel) ⟨by rw [hR]; exact Nat.le_of_ble_eq_true rfl, by rw [hR]; exact Nat.le_of_ble_eq_true rfl⟩) 4 (by decide) rfl rfl rfl rfl rfl rfl rfl e7 rfl rfl rfl hl.1 rfl (Nat.le_of_ble_eq_true rfl) ⟨Nat.zero_le _, Nat.zero_le _⟩ dX10_better_76 (fun H locs hP hD hS => ?_)
            obtain ⟨q27, eq27, hf⟩ := bnd hf
            refine mcVv (rest := []) (Bn := [w10 cs o_x a_x s_x, w9 cs (a_x 2) a_t s_t, w7 cs (a_x 1) a_g q26.2, w4 cs (a_x 10) a_m q27]) (isR := [0, 1, 2]) (isC := [3]) (i0 := 3) ⟨hx, hb, hml, hown, hts⟩ hK hP hD hS hA hG (c4_setHours l D cs (a_x 10) a_m v23.2.2 H.size v23.1 q25 q26.1 _ eq27) (cwV 3 hts (gV wd1113 wd1114 wd1115 wd113 wd1116) rfl rfl rfl (by decide +kernel) ⟨by rw [hR]; exact Nat.le_of_ble_eq_true rfl, by rw [hR]; exact Nat.le_of_ble_eq_true rfl⟩) 4 (by decide) rfl rfl rfl rfl rfl rfl rfl e4 rfl rfl rfl hl.1 rfl (Nat.le_of_ble_eq_true rfl) ⟨Nat.zero_le _, Nat.zero_le _⟩ dX10_better_79 (fun H locs hP hD hS => ?_)
            refine lv_iinc (v := (v23.1 + 1)) (lv' := [(3, .int (v23.1 + 1)), (0, .ref o_x), (1, .int x1), (2, .int q21)]) hx hb dX10_better_82 hl (k := 3) rfl rfl (by decide) rfl (fun ls hl => ?_)
            refine lv_goto (tgt := 35) hx hb dX10_better_85 (by decide) ?_
            cases hf
            exact ih22 _ hn22 _ _ _ hP hD hS (lv_sub hl [1, 2, 3, 0] rfl)
      exact L22 _ _ hq22 _ _ _ hP hD hS (lv_sub hl [2, 3, 1, 0] rfl)
    · have hf := ifn hc hf
      refine lv_iload_n hx hb dX10_better_23 rfl (lv_at hl 0 rfl) ?_
      refine lv_iload_n hx hb dX10_better_24 rfl (lv_at hl 2 rfl) ?_
      refine lv_ishr hx hb dX10_better_25 ?_
      refine lv_iconst (v := 1) hx hb dX10_better_26 (by decide) ?_
      refine lv_iand hx hb dX10_better_27 ?_
      refine lv_if_ne (tgt := 33) hx hb dX10_better_28 (by decide) (fun hc => ?_) (fun hc => ?_)
      · have hf := ifn hc hf
        refine lv_iconst (v := 0) hx hb dX10_better_33 (by decide) ?_
        refine lv_istore_n (lv' := [(3, .int 0), (2, .int q21), (0, .ref o_x), (1, .int x1)]) hx hb dX10_better_34 rfl hl (by decide) rfl (fun ls hl => ?_)
        obtain ⟨q31, hq31, hf⟩ := bnd hf
        obtain ⟨n31, hq31⟩ := lpw_ex hq31
        have Jq31_0 : ∀ rr31_0 : St × St, q31 = rr31_0 → ∀ (H : Heap) (locs : List Loc) (ls : Array Slot), va_P D vwCl (List.flatten [w10 cs o_x a_x s_x, w9 cs (a_x 2) a_t s_t, w7 cs (a_x 1) a_g rr31_0.1, w4 cs (a_x 10) a_m rr31_0.2]) H → va_D A (List.flatten [w10 cs o_x a_x s_x, w9 cs (a_x 2) a_t s_t, w7 cs (a_x 1) a_g rr31_0.1, w4 cs (a_x 10) a_m rr31_0.2]) → va_S A s.heap H locs → lv_has ls 4 [(0, .ref o_x), (1, .int x1), (2, .int q21)] → W p l e R s m args below meth c H locs 0 0 Q (F0 m 88 ls []) := by
          intro rr31_0 eq31 H locs ls hP hD hS hl
          subst eq31
          refine lv_aload_n hx hb dX10_better_88 rfl (lv_at hl 0 rfl) ?_
          refine gfB (i0 := 0) (own := RX10) (T := TX10) (k := 10) (v := .ref (a_x 10)) hx hb htX10 hown hK hP rfl e10 rfl (by decide) (hW _ wd438) rfl dX10_better_89 ?_
          refine lv_iload_n hx hb dX10_better_92 rfl (lv_at hl 2 rfl) ?_
          obtain ⟨q37, eq37, hf⟩ := bnd hf
          refine mcVv (rest := []) (Bn := [w10 cs o_x a_x s_x, w9 cs (a_x 2) a_t s_t, w7 cs (a_x 1) a_g q31.1, w4 cs (a_x 10) a_m q37]) (isR := [0, 1, 2]) (isC := [3]) (i0 := 3) ⟨hx, hb, hml, hown, hts⟩ hK hP hD hS hA hG (c4_weigh l D cs (a_x 10) a_m q31.2 H.size q21 _ eq37) (cwV 1 hts (gV wd1133 wd1134 wd1135 wd113 wd1136) rfl rfl rfl (by decide +kernel) ⟨by rw [hR]; exact Nat.le_of_ble_eq_true rfl, by rw [hR]; exact Nat.le_of_ble_eq_true rfl⟩) 4 (by decide) rfl rfl rfl rfl rfl rfl rfl e4 rfl rfl rfl hl.1 rfl (Nat.le_of_ble_eq_true rfl) ⟨Nat.zero_le _, Nat.zero_le _⟩ dX10_better_93 (fun H locs hP hD hS => ?_)
          refine lv_iload_n hx hb dX10_better_96 rfl (lv_at hl 1 rfl) ?_
          refine lv_iconst (v := (-1)) hx hb dX10_better_97 (by decide) ?_
          refine lv_icmp_ne (tgt := 112) hx hb dX10_better_98 (by decide) (fun hc => ?_) (fun hc => ?_)
          · have hf := ifn hc hf
            refine lv_aload_n hx hb dX10_better_112 rfl (lv_at hl 0 rfl) ?_
            refine gfB (i0 := 0) (own := RX10) (T := TX10) (k := 10) (v := .ref (a_x 10)) hx hb htX10 hown hK hP rfl e10 rfl (by decide) (hW _ wd438) rfl dX10_better_113 ?_
            refine lv_iload_n hx hb dX10_better_116 rfl (lv_at hl 2 rfl) ?_
            refine lv_iload_n hx hb dX10_better_117 rfl (lv_at hl 1 rfl) ?_
            obtain ⟨q38, eq38, hf⟩ := bnd hf
            refine mcVi (v := q38) (rest := []) (Bn := [w10 cs o_x a_x s_x, w9 cs (a_x 2) a_t s_t, w7 cs (a_x 1) a_g q31.1, w4 cs (a_x 10) a_m q37]) (isR := [0, 1, 2]) (isC := [3]) (i0 := 3) ⟨hx, hb, hml, hown, hts⟩ hK hP hD hS hA hG (c4_partner l D cs (a_x 10) a_m q37 H.size q21 x1 _ eq38) (cwV 2 hts (gV wd1158 wd1159 wd1160 wd113 wd1161) rfl rfl rfl (by decide +kernel) ⟨by rw [hR]; exact Nat.le_of_ble_eq_true rfl, by rw [hR]; exact Nat.le_of_ble_eq_true rfl⟩) 4 (by decide) rfl rfl rfl rfl rfl rfl rfl e4 rfl rfl rfl hl.1 rfl (Nat.le_of_ble_eq_true rfl) ⟨Nat.zero_le _, Nat.zero_le _⟩ dX10_better_118 (fun H locs hP hD hS => ?_)
            obtain rfl := Option.some.inj hf
            exact mretI hx hb hr hlocks hK hP hD hS rfl hQ dX10_better_121
          · have hf := ifp hc hf
            refine lv_aload_n hx hb dX10_better_101 rfl (lv_at hl 0 rfl) ?_
            refine gfB (i0 := 0) (own := RX10) (T := TX10) (k := 10) (v := .ref (a_x 10)) hx hb htX10 hown hK hP rfl e10 rfl (by decide) (hW _ wd438) rfl dX10_better_102 ?_
            refine lv_iload_n hx hb dX10_better_105 rfl (lv_at hl 2 rfl) ?_
            obtain ⟨q39, eq39, hf⟩ := bnd hf
            refine mcVi (v := q39) (rest := []) (Bn := [w10 cs o_x a_x s_x, w9 cs (a_x 2) a_t s_t, w7 cs (a_x 1) a_g q31.1, w4 cs (a_x 10) a_m q37]) (isR := [0, 1, 2]) (isC := [3]) (i0 := 3) ⟨hx, hb, hml, hown, hts⟩ hK hP hD hS hA hG (c4_leastCost l D cs (a_x 10) a_m q37 H.size q21 _ eq39) (cwV 1 hts (gV wd1154 wd1155 wd1156 wd113 wd1157) rfl rfl rfl (by decide +kernel) ⟨by rw [hR]; exact Nat.le_of_ble_eq_true rfl, by rw [hR]; exact Nat.le_of_ble_eq_true rfl⟩) 4 (by decide) rfl rfl rfl rfl rfl rfl rfl e4 rfl rfl rfl hl.1 rfl (Nat.le_of_ble_eq_true rfl) ⟨Nat.zero_le _, Nat.zero_le _⟩ dX10_better_106 (fun H locs hP hD hS => ?_)
            refine lv_goto (tgt := 121) hx hb dX10_better_109 (by decide) ?_
            obtain rfl := Option.some.inj hf
            exact mretI hx hb hr hlocks hK hP hD hS rfl hQ dX10_better_121
        clear hf
        have L31 : ∀ n31, ∀ v32 : Int32 × St × St, lp n31 (f10_better_L31 s_t) v32 = some q31 → ∀ (H : Heap) (locs : List Loc) (ls : Array Slot), va_P D vwCl (List.flatten [w10 cs o_x a_x s_x, w9 cs (a_x 2) a_t s_t, w7 cs (a_x 1) a_g v32.2.1, w4 cs (a_x 10) a_m v32.2.2]) H → va_D A (List.flatten [w10 cs o_x a_x s_x, w9 cs (a_x 2) a_t s_t, w7 cs (a_x 1) a_g v32.2.1, w4 cs (a_x 10) a_m v32.2.2]) → va_S A s.heap H locs → lv_has ls 4 [(0, .ref o_x), (1, .int x1), (2, .int q21), (3, .int v32.1)] → W p l e R s m args below meth c H locs 0 0 Q (F0 m 35 ls []) := by
          intro n31
          induction n31 with
          | zero => intro v32 hn; cases hn
          | succ n31 ih31 =>
            intro v32 hn31 H locs ls hP hD hS hl
            obtain ⟨y31, hf, hn31⟩ := lp_succ hn31
            unfold f10_better_L31 at hf
            refine lv_iload_n hx hb dX10_better_35 rfl (lv_at hl 3 rfl) ?_
            refine lv_aload_n hx hb dX10_better_36 rfl (lv_at hl 0 rfl) ?_
            refine gfB (i0 := 0) (own := RX10) (T := TX10) (k := 2) (v := .ref (a_x 2)) hx hb htX10 hown hK hP rfl e10 rfl (by decide) (hW _ wd430) rfl dX10_better_37 ?_
            refine gfB (i0 := 1) (own := RX10) (T := TX9) (k := 1) (v := .int (s_t.1 1)) hx hb htX9 hown hK hP rfl e9 rfl (by decide) (hW _ wd155) rfl dX10_better_40 ?_
            refine lv_icmp_ge (tgt := 88) hx hb dX10_better_43 (by decide) (fun hc => ?_) (fun hc => ?_)
            · have hf := ifp hc hf
              cases hf
              exact Jq31_0 _ (Option.some.inj hn31).symm _ _ _ hP hD hS (lv_sub hl [0, 1, 2] rfl)
            · have hf := ifn hc hf
              refine lv_aload_n hx hb dX10_better_46 rfl (lv_at hl 0 rfl) ?_
              refine gfB (i0 := 0) (own := RX10) (T := TX10) (k := 10) (v := .ref (a_x 10)) hx hb htX10 hown hK hP rfl e10 rfl (by decide) (hW _ wd438) rfl dX10_better_47 ?_
              refine lv_iload_n hx hb dX10_better_50 rfl (lv_at hl 3 rfl) ?_
              refine lv_aload_n hx hb dX10_better_51 rfl (lv_at hl 0 rfl) ?_
              refine gfB (i0 := 0) (own := RX10) (T := TX10) (k := 2) (v := .ref (a_x 2)) hx hb htX10 hown hK hP rfl e10 rfl (by decide) (hW _ wd430) rfl dX10_better_52 ?_
              refine lv_aload_n hx hb dX10_better_55 rfl (lv_at hl 0 rfl) ?_
              refine gfB (i0 := 0) (own := RX10) (T := TX10) (k := 2) (v := .ref (a_x 2)) hx hb htX10 hown hK hP rfl e10 rfl (by decide) (hW _ wd430) rfl dX10_better_56 ?_
              refine gfB (i0 := 1) (own := RX10) (T := TX9) (k := 8) (v := .ref (a_t 8)) hx hb htX9 hown hK hP rfl e9 rfl (by decide) (hW _ wd174) rfl dX10_better_59 ?_
              refine lv_iload_n hx hb dX10_better_62 rfl (lv_at hl 3 rfl) ?_
              obtain ⟨q33, eq33, hf⟩ := bnd hf
              obtain ⟨gq33, eq33⟩ := ldO_e eq33
              refine aldB (i0 := 1) hx hb hK hP rfl a9_8 gq33 dX10_better_63 ?_
              refine lv_nm eq33 ?_
              obtain ⟨q34, eq34, hf⟩ := bnd hf
              refine mcVi (v := q34) (rest := [.int v32.1, .ref (a_x 10)]) (Bn := [w10 cs o_x a_x s_x, w9 cs (a_x 2) a_t s_t, w7 cs (a_x 1) a_g v32.2.1, w4 cs (a_x 10) a_m v32.2.2]) (isR := [0, 2, 3]) (isC := [1]) (i0 := 1) ⟨hx, hb, hml, hown, hts⟩ hK hP hD hS hA hG (c9_hoursAwake l D cs (a_x 2) a_t s_t H.size q33 _ eq34) (cwV 1 hts (gV wd1109 wd1110 wd1111 wd107 wd1112) rfl rfl rfl (by decide +kernel) ⟨by rw [hR]; exact Nat.le_of_ble_eq_true rfl, by rw [hR]; exact Nat.le_of_ble_eq_true rfl⟩) 4 (by decide) rfl rfl rfl rfl rfl rfl rfl e9 rfl rfl rfl hl.1 rfl (Nat.le_of_ble_eq_true rfl) ⟨Nat.zero_le _, Nat.zero_le _⟩ dX10_better_64 (fun H locs hP hD hS => ?_)
              refine lv_aload_n hx hb dX10_better_67 rfl (lv_at hl 0 rfl) ?_
              refine gfB (i0 := 0) (own := RX10) (T := TX10) (k := 1) (v := .ref (a_x 1)) hx hb htX10 hown hK hP rfl e10 rfl (by decide) (hW _ wd429) rfl dX10_better_68 ?_
              refine lv_aload_n hx hb dX10_better_71 rfl (lv_at hl 0 rfl) ?_
              refine gfB (i0 := 0) (own := RX10) (T := TX10) (k := 2) (v := .ref (a_x 2)) hx hb htX10 hown hK hP rfl e10 rfl (by decide) (hW _ wd430) rfl dX10_better_72 ?_
              refine lv_iload_n hx hb dX10_better_75 rfl (lv_at hl 3 rfl) ?_
              obtain ⟨q35, eq35, hf⟩ := bnd hf
              refine mcVi (v := q35.1) (rest := [.int q34, .int v32.1, .ref (a_x 10)]) (Bn := [w10 cs o_x a_x s_x, w9 cs (a_x 2) a_t s_t, w7 cs (a_x 1) a_g q35.2, w4 cs (a_x 10) a_m v32.2.2]) (isR := [0, 3]) (isC := [2, 1]) (i0 := 2) ⟨hx, hb, hml, hown, hts⟩ hK hP hD hS hA hG (c7_hoursWanted l D cs (a_x 1) a_g (a_x 2) a_t v32.2.1 s_t H.size v32.1 _ eq35) (cwV 2 hts (gV wd963 wd964 wd965 wd108 wd966) rfl rfl rfl (by decide +kernel) ⟨by rw [hR]; exact Nat.le_of_ble_eq_true rfl, by rw [hR]; exact Nat.le_of_ble_eq_true rfl⟩) 4 (by decide) rfl rfl rfl rfl rfl rfl rfl e7 rfl rfl rfl hl.1 rfl (Nat.le_of_ble_eq_true rfl) ⟨Nat.zero_le _, Nat.zero_le _⟩ dX10_better_76 (fun H locs hP hD hS => ?_)
              obtain ⟨q36, eq36, hf⟩ := bnd hf
              refine mcVv (rest := []) (Bn := [w10 cs o_x a_x s_x, w9 cs (a_x 2) a_t s_t, w7 cs (a_x 1) a_g q35.2, w4 cs (a_x 10) a_m q36]) (isR := [0, 1, 2]) (isC := [3]) (i0 := 3) ⟨hx, hb, hml, hown, hts⟩ hK hP hD hS hA hG (c4_setHours l D cs (a_x 10) a_m v32.2.2 H.size v32.1 q34 q35.1 _ eq36) (cwV 3 hts (gV wd1113 wd1114 wd1115 wd113 wd1116) rfl rfl rfl (by decide +kernel) ⟨by rw [hR]; exact Nat.le_of_ble_eq_true rfl, by rw [hR]; exact Nat.le_of_ble_eq_true rfl⟩) 4 (by decide) rfl rfl rfl rfl rfl rfl rfl e4 rfl rfl rfl hl.1 rfl (Nat.le_of_ble_eq_true rfl) ⟨Nat.zero_le _, Nat.zero_le _⟩ dX10_better_79 (fun H locs hP hD hS => ?_)
              refine lv_iinc (v := (v32.1 + 1)) (lv' := [(3, .int (v32.1 + 1)), (0, .ref o_x), (1, .int x1), (2, .int q21)]) hx hb dX10_better_82 hl (k := 3) rfl rfl (by decide) rfl (fun ls hl => ?_)
              refine lv_goto (tgt := 35) hx hb dX10_better_85 (by decide) ?_
              cases hf
              exact ih31 _ hn31 _ _ _ hP hD hS (lv_sub hl [1, 2, 3, 0] rfl)
        exact L31 _ _ hq31 _ _ _ hP hD hS (lv_sub hl [2, 3, 1, 0] rfl)
      · have hf := ifp hc hf
        refine lv_iconst (v := (-1)) hx hb dX10_better_31 (by decide) ?_
        obtain rfl := Option.some.inj hf
        exact mretI hx hb hr hlocks hK hP hD hS rfl hQ dX10_better_32
set_option maxHeartbeats 4000000 in
set_option maxRecDepth 100000 in
theorem c10x_better (l : Launch) (D : va_G) (cs : xE) (hl0 : l.stackTraces = false) (o_x : Nat) (a_x : Nat → Nat) (a_t : Nat → Nat) (a_g : Nat → Nat) (a_m : Nat → Nat) (s_x : St) (s_t : St) (s_g : St) (s_m : St) (sz : Nat) (x1 : Int32) (k : Nat) (hf : f10_better s_x s_t s_g s_m x1 = some (.inr k)) : vx_Met l yX10_better (Cond.code yX10_better cX10_better 4 (some .int) :: WG) { frames := 7, cells := 1, slots := 6, locals := 111 } (va_Pc [.ref o_x, .int x1] (mP D cs (List.flatten [w10 cs o_x a_x s_x, w9 cs (a_x 2) a_t s_t, w7 cs (a_x 1) a_g s_g, w4 cs (a_x 10) a_m s_m]) sz)) (fun _ _ _ _ => False) (qX D cs k (List.flatten [w10 cs o_x a_x s_x, w9 cs (a_x 2) a_t s_t, w7 cs (a_x 1) a_g s_g, w4 cs (a_x 10) a_m s_m]) (va_A (List.flatten [w10 cs o_x a_x s_x, w9 cs (a_x 2) a_t s_t, w7 cs (a_x 1) a_g s_g, w4 cs (a_x 10) a_m s_m]) sz)) 1 6 (va_A (List.flatten [w10 cs o_x a_x s_x, w9 cs (a_x 2) a_t s_t, w7 cs (a_x 1) a_g s_g, w4 cs (a_x 10) a_m s_m]) sz) := by
  refine mgoX (cc := cX10_better) (maxL := 4) (ret := (some .int)) (by decide) rfl (Nat.le_of_ble_eq_true rfl) ?_
  intro p e s m below meth c ls A R Q args H hR hQ hno hx hb hml hr hlocks hown hts hP hK hD hA hS hG hl
  have hown : s.vm.findClass RX10 = some m.cls := hown
  have hl : lv_has ls 4 [(0, .ref o_x), (1, .int x1)] := hl
  have hW : ∀ w ∈ WG, w.before args s = true := fun w h => hts w (List.mem_cons_of_mem _ h)
  have htX10 : ∀ w ∈ u_ws RX10 TX10 14, w.before args s = true := fun w h => hW w (inW_X10 w h)
  have htX9 : ∀ w ∈ u_ws RX9 TX9 11, w.before args s = true := fun w h => hW w (inW_X9 w h)
  unfold f10_better at hf
  refine lv_iload_n hx hb dX10_better_0 rfl (lv_at hl 1 rfl) ?_
  refine lv_iconst (v := (-1)) hx hb dX10_better_1 (by decide) ?_
  refine lv_icmp_eq (tgt := 10) hx hb dX10_better_2 (by decide) (fun hc => ?_) (fun hc => ?_)
  · have hf := ifp hc hf
    exact (wI_r hf).elim
  · have hf := ifn hc hf
    refine lv_aload_n hx hb dX10_better_5 rfl (lv_at hl 0 rfl) ?_
    refine lv_iload_n hx hb dX10_better_6 rfl (lv_at hl 1 rfl) ?_
    rcases xB_r hf with xq20 | ⟨q20, eq20, hf⟩
    · exact mxV (rest := []) (isR := [2, 3]) (isC := [0, 1]) (i0 := 0) ⟨hx, hb, hml, hown, hts⟩ hK hP hD hS hA hG (c10x_needLamp l D cs hl0 o_x a_x a_t s_x s_t H.size x1 _ xq20) (cwV 1 hts (gV wd952 wd954 wd26 wd105 wd955) rfl rfl rfl (by decide +kernel) ⟨by rw [hR]; exact Nat.le_of_ble_eq_true rfl, by rw [hR]; exact Nat.le_of_ble_eq_true rfl⟩) 4 (by decide) rfl rfl rfl rfl e10 rfl rfl rfl hl.1 rfl (Nat.le_of_ble_eq_true rfl) ⟨by rw [hR]; exact Nat.le_of_ble_eq_true rfl, by rw [hR]; exact Nat.le_of_ble_eq_true rfl⟩ dX10_better_7 hno hlocks hQ
    refine mcVv (rest := []) (Bn := [w10 cs o_x a_x s_x, w9 cs (a_x 2) a_t s_t, w7 cs (a_x 1) a_g s_g, w4 cs (a_x 10) a_m s_m]) (isR := [2, 3]) (isC := [0, 1]) (i0 := 0) ⟨hx, hb, hml, hown, hts⟩ hK hP hD hS hA hG (c10_needLamp l D cs o_x a_x a_t s_x s_t H.size x1 _ eq20) (cwV 1 hts (gV wd952 wd954 wd26 wd105 wd955) rfl rfl rfl (by decide +kernel) ⟨by rw [hR]; exact Nat.le_of_ble_eq_true rfl, by rw [hR]; exact Nat.le_of_ble_eq_true rfl⟩) 4 (by decide) rfl rfl rfl rfl rfl rfl rfl e10 rfl rfl rfl hl.1 rfl (Nat.le_of_ble_eq_true rfl) ⟨Nat.zero_le _, Nat.zero_le _⟩ dX10_better_7 (fun H locs hP hD hS => ?_)
    exact (wI_r hf).elim
/-! TwinLamps.complaintsOfADay -/
noncomputable def f10_complaintsOfADay_L3  (v4 : Int32 × Int32 × St × St × St) : Option ((Int32 × Int32 × St × St × St) ⊕ (Int32 × St × St × St)) :=
  if (24 : Int32) ≤ v4.2.1 then some (.inr (v4.1, v4.2.2.1, v4.2.2.2.1, v4.2.2.2.2)) else (f2_passHour v4.2.2.2.1 v4.2.2.2.2 v4.2.2.1).bind fun q5 =>
  (fJ6_bitCount (q5.1.1 1)).bind fun q6 =>
  some (.inl ((v4.1 + q6), (v4.2.1 + 1), q5.2.2, q5.1, q5.2.1))
noncomputable def f10_complaintsOfADay (s_x : St) (s_t : St) (s_t2 : St) (s_e : St) (s_g : St) (x1 : Int32) (x2 : Int32) : Option (Int32 × St × St × St) :=
  (f9_copyFrom s_t2 s_t).bind fun q1 =>
  (stS 8 q1 7 x1 x2).bind fun s2 =>
  (lpw (f10_complaintsOfADay_L3) (0, 0, s2, s_e, s_g)).bind fun q3 =>
  some (q3.1, q3.2.1, q3.2.2.1, q3.2.2.2)
set_option maxHeartbeats 4000000 in
set_option maxRecDepth 100000 in
theorem c10_complaintsOfADay (l : Launch) (D : va_G) (cs : xE) (o_x : Nat) (a_x : Nat → Nat) (a_t : Nat → Nat) (a_t2 : Nat → Nat) (a_g : Nat → Nat) (s_x : St) (s_t : St) (s_t2 : St) (s_e : St) (s_g : St) (sz : Nat) (x1 : Int32) (x2 : Int32) (res : Int32 × St × St × St) (hf : f10_complaintsOfADay s_x s_t s_t2 s_e s_g x1 x2 = some res) : Met l yX10_complaintsOfADay (Cond.code yX10_complaintsOfADay cX10_complaintsOfADay 5 (some .int) :: WG) { frames := 4, cells := 0, slots := 0, locals := 92 } (va_Pc [.ref o_x, .int x1, .int x2] (mP D cs (List.flatten [w10 cs o_x a_x s_x, w9 cs (a_x 2) a_t s_t, w9 cs (a_x 9) a_t2 s_t2, w2 cs (a_x 8) a0n s_e, w7 cs (a_x 1) a_g s_g]) sz)) (qI D cs res.1 (List.flatten [w10 cs o_x a_x s_x, w9 cs (a_x 2) a_t s_t, w9 cs (a_x 9) a_t2 res.2.1, w2 cs (a_x 8) a0n res.2.2.1, w7 cs (a_x 1) a_g res.2.2.2]) (va_A (List.flatten [w10 cs o_x a_x s_x, w9 cs (a_x 2) a_t s_t, w9 cs (a_x 9) a_t2 s_t2, w2 cs (a_x 8) a0n s_e, w7 cs (a_x 1) a_g s_g]) sz)) 0 0 (va_A (List.flatten [w10 cs o_x a_x s_x, w9 cs (a_x 2) a_t s_t, w9 cs (a_x 9) a_t2 s_t2, w2 cs (a_x 8) a0n s_e, w7 cs (a_x 1) a_g s_g]) sz) := by
  refine mgo (Qc := qI D cs res.1 (List.flatten [w10 cs o_x a_x s_x, w9 cs (a_x 2) a_t s_t, w9 cs (a_x 9) a_t2 res.2.1, w2 cs (a_x 8) a0n res.2.2.1, w7 cs (a_x 1) a_g res.2.2.2])) (cc := cX10_complaintsOfADay) (maxL := 5) (ret := (some .int)) (by decide) rfl (Nat.le_of_ble_eq_true rfl) ?_
  intro p e s m below meth c ls A R Q args H hR hQ hx hb hml hr hlocks hown hts hP hK hD hA hS hG hl
  have hown : s.vm.findClass RX10 = some m.cls := hown
  have hl : lv_has ls 5 [(0, .ref o_x), (1, .int x1), (2, .int x2)] := hl
  have hW : ∀ w ∈ WG, w.before args s = true := fun w h => hts w (List.mem_cons_of_mem _ h)
  have htX10 : ∀ w ∈ u_ws RX10 TX10 14, w.before args s = true := fun w h => hW w (inW_X10 w h)
  have htX2 : ∀ w ∈ u_ws RX2 TX2 5, w.before args s = true := fun w h => hW w (inW_X2 w h)
  have htX9 : ∀ w ∈ u_ws RX9 TX9 11, w.before args s = true := fun w h => hW w (inW_X9 w h)
  unfold f10_complaintsOfADay at hf
  refine lv_aload_n hx hb dX10_complaintsOfADay_0 rfl (lv_at hl 0 rfl) ?_
  refine gfB (i0 := 0) (own := RX10) (T := TX10) (k := 9) (v := .ref (a_x 9)) hx hb htX10 hown hK hP rfl e10 rfl (by decide) (hW _ wd437) rfl dX10_complaintsOfADay_1 ?_
  refine lv_aload_n hx hb dX10_complaintsOfADay_4 rfl (lv_at hl 0 rfl) ?_
  refine gfB (i0 := 0) (own := RX10) (T := TX10) (k := 2) (v := .ref (a_x 2)) hx hb htX10 hown hK hP rfl e10 rfl (by decide) (hW _ wd430) rfl dX10_complaintsOfADay_5 ?_
  obtain ⟨q1, eq1, hf⟩ := bnd hf
  refine mcVv (rest := []) (Bn := [w10 cs o_x a_x s_x, w9 cs (a_x 2) a_t s_t, w9 cs (a_x 9) a_t2 q1, w2 cs (a_x 8) a0n s_e, w7 cs (a_x 1) a_g s_g]) (isR := [0, 3, 4]) (isC := [2, 1]) (i0 := 2) ⟨hx, hb, hml, hown, hts⟩ hK hP hD hS hA hG (c9_copyFrom l D cs (a_x 9) a_t2 (a_x 2) a_t s_t2 s_t H.size _ eq1) (cwV 1 hts (gV wd599 wd500 wd501 wd107 wd502) rfl rfl rfl (by decide +kernel) ⟨by rw [hR]; exact Nat.le_of_ble_eq_true rfl, by rw [hR]; exact Nat.le_of_ble_eq_true rfl⟩) 5 (by decide) rfl rfl rfl rfl rfl rfl rfl e9 rfl rfl rfl hl.1 rfl (Nat.le_of_ble_eq_true rfl) ⟨Nat.zero_le _, Nat.zero_le _⟩ dX10_complaintsOfADay_8 (fun H locs hP hD hS => ?_)
  refine lv_aload_n hx hb dX10_complaintsOfADay_11 rfl (lv_at hl 0 rfl) ?_
  refine gfB (i0 := 0) (own := RX10) (T := TX10) (k := 9) (v := .ref (a_x 9)) hx hb htX10 hown hK hP rfl e10 rfl (by decide) (hW _ wd437) rfl dX10_complaintsOfADay_12 ?_
  refine gfB (i0 := 2) (own := RX10) (T := TX9) (k := 7) (v := .ref (a_t2 7)) hx hb htX9 hown hK hP rfl e9 rfl (by decide) (hW _ wd171) rfl dX10_complaintsOfADay_15 ?_
  refine lv_iload_n hx hb dX10_complaintsOfADay_18 rfl (lv_at hl 1 rfl) ?_
  refine lv_iload_n hx hb dX10_complaintsOfADay_19 rfl (lv_at hl 2 rfl) ?_
  obtain ⟨s2, es2, hf⟩ := bnd hf
  obtain ⟨gs2, es2⟩ := stS_e es2
  refine astB (i0 := 2) (Bn := [w10 cs o_x a_x s_x, w9 cs (a_x 2) a_t s_t, w9 cs (a_x 9) a_t2 s2, w2 cs (a_x 8) a0n s_e, w7 cs (a_x 1) a_g s_g]) hx hb hK hP hD hS rfl a9_7 gs2 rfl dX10_complaintsOfADay_20 (by rw [← es2]; exact v9_7) rfl (fun H locs hP hD hS => ?_)
  refine lv_iconst (v := 0) hx hb dX10_complaintsOfADay_21 (by decide) ?_
  refine lv_istore_n (lv' := [(3, .int 0), (0, .ref o_x), (1, .int x1), (2, .int x2)]) hx hb dX10_complaintsOfADay_22 rfl hl (by decide) rfl (fun ls hl => ?_)
  refine lv_iconst (v := 0) hx hb dX10_complaintsOfADay_23 (by decide) ?_
  refine lv_istore (lv' := [(4, .int 0), (3, .int 0), (0, .ref o_x), (1, .int x1), (2, .int x2)]) hx hb dX10_complaintsOfADay_24 hl (by decide) rfl (fun ls hl => ?_)
  obtain ⟨q3, hq3, hf⟩ := bnd hf
  obtain ⟨n3, hq3⟩ := lpw_ex hq3
  have Jq3_0 : ∀ rr3_0 : Int32 × St × St × St, q3 = rr3_0 → ∀ (H : Heap) (locs : List Loc) (ls : Array Slot), va_P D vwCl (List.flatten [w10 cs o_x a_x s_x, w9 cs (a_x 2) a_t s_t, w9 cs (a_x 9) a_t2 rr3_0.2.1, w2 cs (a_x 8) a0n rr3_0.2.2.1, w7 cs (a_x 1) a_g rr3_0.2.2.2]) H → va_D A (List.flatten [w10 cs o_x a_x s_x, w9 cs (a_x 2) a_t s_t, w9 cs (a_x 9) a_t2 rr3_0.2.1, w2 cs (a_x 8) a0n rr3_0.2.2.1, w7 cs (a_x 1) a_g rr3_0.2.2.2]) → va_S A s.heap H locs → lv_has ls 5 [(3, .int rr3_0.1)] → W p l e R s m args below meth c H locs 0 0 Q (F0 m 67 ls []) := by
    intro rr3_0 eq3 H locs ls hP hD hS hl
    subst eq3
    refine lv_iload_n hx hb dX10_complaintsOfADay_67 rfl (lv_at hl 0 rfl) ?_
    obtain rfl := Option.some.inj hf
    exact mretI hx hb hr hlocks hK hP hD hS rfl hQ dX10_complaintsOfADay_68
  clear hf
  have L3 : ∀ n3, ∀ v4 : Int32 × Int32 × St × St × St, lp n3 (f10_complaintsOfADay_L3) v4 = some q3 → ∀ (H : Heap) (locs : List Loc) (ls : Array Slot), va_P D vwCl (List.flatten [w10 cs o_x a_x s_x, w9 cs (a_x 2) a_t s_t, w9 cs (a_x 9) a_t2 v4.2.2.1, w2 cs (a_x 8) a0n v4.2.2.2.1, w7 cs (a_x 1) a_g v4.2.2.2.2]) H → va_D A (List.flatten [w10 cs o_x a_x s_x, w9 cs (a_x 2) a_t s_t, w9 cs (a_x 9) a_t2 v4.2.2.1, w2 cs (a_x 8) a0n v4.2.2.2.1, w7 cs (a_x 1) a_g v4.2.2.2.2]) → va_S A s.heap H locs → lv_has ls 5 [(0, .ref o_x), (3, .int v4.1), (4, .int v4.2.1)] → W p l e R s m args below meth c H locs 0 0 Q (F0 m 26 ls []) := by
    intro n3
    induction n3 with
    | zero => intro v4 hn; cases hn
    | succ n3 ih3 =>
      intro v4 hn3 H locs ls hP hD hS hl
      obtain ⟨y3, hf, hn3⟩ := lp_succ hn3
      unfold f10_complaintsOfADay_L3 at hf
      refine lv_iload hx hb dX10_complaintsOfADay_26 (lv_at hl 2 rfl) ?_
      refine lv_bipush (v := 24) hx hb dX10_complaintsOfADay_28 (by decide) ?_
      refine lv_icmp_ge (tgt := 67) hx hb dX10_complaintsOfADay_30 (by decide) (fun hc => ?_) (fun hc => ?_)
      · have hf := ifp hc hf
        cases hf
        exact Jq3_0 _ (Option.some.inj hn3).symm _ _ _ hP hD hS (lv_sub hl [1] rfl)
      · have hf := ifn hc hf
        refine lv_aload_n hx hb dX10_complaintsOfADay_33 rfl (lv_at hl 0 rfl) ?_
        refine gfB (i0 := 0) (own := RX10) (T := TX10) (k := 8) (v := .ref (a_x 8)) hx hb htX10 hown hK hP rfl e10 rfl (by decide) (hW _ wd436) rfl dX10_complaintsOfADay_34 ?_
        refine lv_aload_n hx hb dX10_complaintsOfADay_37 rfl (lv_at hl 0 rfl) ?_
        refine gfB (i0 := 0) (own := RX10) (T := TX10) (k := 1) (v := .ref (a_x 1)) hx hb htX10 hown hK hP rfl e10 rfl (by decide) (hW _ wd429) rfl dX10_complaintsOfADay_38 ?_
        refine lv_aload_n hx hb dX10_complaintsOfADay_41 rfl (lv_at hl 0 rfl) ?_
        refine gfB (i0 := 0) (own := RX10) (T := TX10) (k := 9) (v := .ref (a_x 9)) hx hb htX10 hown hK hP rfl e10 rfl (by decide) (hW _ wd437) rfl dX10_complaintsOfADay_42 ?_
        obtain ⟨q5, eq5, hf⟩ := bnd hf
        refine mcVv (rest := []) (Bn := [w10 cs o_x a_x s_x, w9 cs (a_x 2) a_t s_t, w9 cs (a_x 9) a_t2 q5.2.2, w2 cs (a_x 8) a0n q5.1, w7 cs (a_x 1) a_g q5.2.1]) (isR := [0, 1]) (isC := [3, 4, 2]) (i0 := 3) ⟨hx, hb, hml, hown, hts⟩ hK hP hD hS hA hG (c2_passHour l D cs (a_x 8) (a_x 1) a_g (a_x 9) a_t2 v4.2.2.2.1 v4.2.2.2.2 v4.2.2.1 H.size _ eq5) (cwV 2 hts (gV wd506 wd507 wd508 wd112 wd509) rfl rfl rfl (by decide +kernel) ⟨by rw [hR]; exact Nat.le_of_ble_eq_true rfl, by rw [hR]; exact Nat.le_of_ble_eq_true rfl⟩) 5 (by decide) rfl rfl rfl rfl rfl rfl rfl e2 rfl rfl rfl hl.1 rfl (Nat.le_of_ble_eq_true rfl) ⟨Nat.zero_le _, Nat.zero_le _⟩ dX10_complaintsOfADay_45 (fun H locs hP hD hS => ?_)
        refine lv_iload_n hx hb dX10_complaintsOfADay_48 rfl (lv_at hl 1 rfl) ?_
        refine lv_aload_n hx hb dX10_complaintsOfADay_49 rfl (lv_at hl 0 rfl) ?_
        refine gfB (i0 := 0) (own := RX10) (T := TX10) (k := 8) (v := .ref (a_x 8)) hx hb htX10 hown hK hP rfl e10 rfl (by decide) (hW _ wd436) rfl dX10_complaintsOfADay_50 ?_
        refine gfB (i0 := 3) (own := RX10) (T := TX2) (k := 1) (v := .int (q5.1.1 1)) hx hb htX2 hown hK hP rfl e2 rfl (by decide) (hW _ wd350) rfl dX10_complaintsOfADay_53 ?_
        obtain ⟨q6, eq6, hf⟩ := bnd hf
        refine mcSi0 (v := q6) (As := [.int (q5.1.1 1)]) (rest := [.int v4.1]) ⟨hx, hb, hml, hown, hts⟩ hK hP hS hA hG (cJ6_bitCount l D cs H.size (q5.1.1 1) _ eq6) (va_cwS 1 hts (gS wd885 wd535 wd127 wd536) rfl rfl rfl (by decide +kernel) ⟨by rw [hR]; exact Nat.le_of_ble_eq_true rfl, by rw [hR]; exact Nat.le_of_ble_eq_true rfl⟩) rfl hl.1 rfl (Nat.le_of_ble_eq_true rfl) ⟨Nat.zero_le _, Nat.zero_le _⟩ dX10_complaintsOfADay_56 (fun H locs hP hS => ?_)
        refine lv_iadd hx hb dX10_complaintsOfADay_59 ?_
        refine lv_istore_n (lv' := [(3, .int (v4.1 + q6)), (0, .ref o_x), (4, .int v4.2.1)]) hx hb dX10_complaintsOfADay_60 rfl hl (by decide) rfl (fun ls hl => ?_)
        refine lv_iinc (v := (v4.2.1 + 1)) (lv' := [(4, .int (v4.2.1 + 1)), (3, .int (v4.1 + q6)), (0, .ref o_x)]) hx hb dX10_complaintsOfADay_61 hl (k := 2) rfl rfl (by decide) rfl (fun ls hl => ?_)
        refine lv_goto (tgt := 26) hx hb dX10_complaintsOfADay_64 (by decide) ?_
        cases hf
        exact ih3 _ hn3 _ _ _ hP hD hS (lv_sub hl [2, 1, 0] rfl)
  exact L3 _ _ hq3 _ _ _ hP hD hS (lv_sub hl [2, 1, 0] rfl)
/-! TwinLamps.treaty -/
noncomputable def f10_treaty_L4 (s_x : St) (s_t : St) (x1 : Int32) (v5 : Int32 × Int32 × Int32 × St × St × St) : Option ((Int32 × Int32 × Int32 × St × St × St) ⊕ (Int32 × St × St × St)) :=
  if (24 : Int32) ≤ v5.2.2.1 then some (.inr (v5.2.1, v5.2.2.2.1, v5.2.2.2.2.1, v5.2.2.2.2.2)) else (f10_complaintsOfADay s_x s_t v5.2.2.2.1 v5.2.2.2.2.1 v5.2.2.2.2.2 x1 v5.2.2.1).bind fun q6 =>
  ((if v5.1 ≤ q6.1 then some (v5.1, v5.2.1) else some (q6.1, v5.2.2.1) : Option (Int32 × Int32))).bind fun q7 =>
  some (.inl (q7.1, q7.2, (v5.2.2.1 + 1), q6.2.1, q6.2.2.1, q6.2.2.2))
noncomputable def f10_treaty (s_x : St) (s_t : St) (s_t2 : St) (s_e : St) (s_g : St) (x1 : Int32) : Option ((Int32 × St × St × St) ⊕ Nat) :=
  xB (f10_needHouse s_x s_t x1) fun q1 =>
  wI ((ldO 8 (s_t.2 7) x1).bind fun q2 =>
  (f10_complaintsOfADay s_x s_t s_t2 s_e s_g x1 q2).bind fun q3 =>
  (lpw (f10_treaty_L4 s_x s_t x1) (q3.1, (-1), 0, q3.2.1, q3.2.2.1, q3.2.2.2)).bind fun q4 =>
  some (q4.1, q4.2.1, q4.2.2.1, q4.2.2.2))
set_option maxHeartbeats 4000000 in
set_option maxRecDepth 100000 in
theorem c10_treaty (l : Launch) (D : va_G) (cs : xE) (o_x : Nat) (a_x : Nat → Nat) (a_t : Nat → Nat) (a_t2 : Nat → Nat) (a_g : Nat → Nat) (s_x : St) (s_t : St) (s_t2 : St) (s_e : St) (s_g : St) (sz : Nat) (x1 : Int32) (res : Int32 × St × St × St) (hf : f10_treaty s_x s_t s_t2 s_e s_g x1 = some (.inl res)) : Met l yX10_treaty (Cond.code yX10_treaty cX10_treaty 6 (some .int) :: WG) { frames := 7, cells := 0, slots := 0, locals := 116 } (va_Pc [.ref o_x, .int x1] (mP D cs (List.flatten [w10 cs o_x a_x s_x, w9 cs (a_x 2) a_t s_t, w9 cs (a_x 9) a_t2 s_t2, w2 cs (a_x 8) a0n s_e, w7 cs (a_x 1) a_g s_g]) sz)) (qI D cs res.1 (List.flatten [w10 cs o_x a_x s_x, w9 cs (a_x 2) a_t s_t, w9 cs (a_x 9) a_t2 res.2.1, w2 cs (a_x 8) a0n res.2.2.1, w7 cs (a_x 1) a_g res.2.2.2]) (va_A (List.flatten [w10 cs o_x a_x s_x, w9 cs (a_x 2) a_t s_t, w9 cs (a_x 9) a_t2 s_t2, w2 cs (a_x 8) a0n s_e, w7 cs (a_x 1) a_g s_g]) sz)) 0 0 (va_A (List.flatten [w10 cs o_x a_x s_x, w9 cs (a_x 2) a_t s_t, w9 cs (a_x 9) a_t2 s_t2, w2 cs (a_x 8) a0n s_e, w7 cs (a_x 1) a_g s_g]) sz) := by
  refine mgo (Qc := qI D cs res.1 (List.flatten [w10 cs o_x a_x s_x, w9 cs (a_x 2) a_t s_t, w9 cs (a_x 9) a_t2 res.2.1, w2 cs (a_x 8) a0n res.2.2.1, w7 cs (a_x 1) a_g res.2.2.2])) (cc := cX10_treaty) (maxL := 6) (ret := (some .int)) (by decide) rfl (Nat.le_of_ble_eq_true rfl) ?_
  intro p e s m below meth c ls A R Q args H hR hQ hx hb hml hr hlocks hown hts hP hK hD hA hS hG hl
  have hown : s.vm.findClass RX10 = some m.cls := hown
  have hl : lv_has ls 6 [(0, .ref o_x), (1, .int x1)] := hl
  have hW : ∀ w ∈ WG, w.before args s = true := fun w h => hts w (List.mem_cons_of_mem _ h)
  have htX10 : ∀ w ∈ u_ws RX10 TX10 14, w.before args s = true := fun w h => hW w (inW_X10 w h)
  have htX9 : ∀ w ∈ u_ws RX9 TX9 11, w.before args s = true := fun w h => hW w (inW_X9 w h)
  unfold f10_treaty at hf
  refine lv_aload_n hx hb dX10_treaty_0 rfl (lv_at hl 0 rfl) ?_
  refine lv_iload_n hx hb dX10_treaty_1 rfl (lv_at hl 1 rfl) ?_
  obtain ⟨q1, eq1, hf⟩ := xB_l hf
  refine mcVv (rest := []) (Bn := [w10 cs o_x a_x s_x, w9 cs (a_x 2) a_t s_t, w9 cs (a_x 9) a_t2 s_t2, w2 cs (a_x 8) a0n s_e, w7 cs (a_x 1) a_g s_g]) (isR := [2, 3, 4]) (isC := [0, 1]) (i0 := 0) ⟨hx, hb, hml, hown, hts⟩ hK hP hD hS hA hG (c10_needHouse l D cs o_x a_x a_t s_x s_t H.size x1 _ eq1) (cwV 1 hts (gV wd937 wd939 wd25 wd105 wd940) rfl rfl rfl (by decide +kernel) ⟨by rw [hR]; exact Nat.le_of_ble_eq_true rfl, by rw [hR]; exact Nat.le_of_ble_eq_true rfl⟩) 5 (by decide) rfl rfl rfl rfl rfl rfl rfl e10 rfl rfl rfl hl.1 rfl (Nat.le_of_ble_eq_true rfl) ⟨Nat.zero_le _, Nat.zero_le _⟩ dX10_treaty_2 (fun H locs hP hD hS => ?_)
  have hf := wI_l hf
  refine lv_aload_n hx hb dX10_treaty_5 rfl (lv_at hl 0 rfl) ?_
  refine lv_iload_n hx hb dX10_treaty_6 rfl (lv_at hl 1 rfl) ?_
  refine lv_aload_n hx hb dX10_treaty_7 rfl (lv_at hl 0 rfl) ?_
  refine gfB (i0 := 0) (own := RX10) (T := TX10) (k := 2) (v := .ref (a_x 2)) hx hb htX10 hown hK hP rfl e10 rfl (by decide) (hW _ wd430) rfl dX10_treaty_8 ?_
  refine gfB (i0 := 1) (own := RX10) (T := TX9) (k := 7) (v := .ref (a_t 7)) hx hb htX9 hown hK hP rfl e9 rfl (by decide) (hW _ wd171) rfl dX10_treaty_11 ?_
  refine lv_iload_n hx hb dX10_treaty_14 rfl (lv_at hl 1 rfl) ?_
  obtain ⟨q2, eq2, hf⟩ := bnd hf
  obtain ⟨gq2, eq2⟩ := ldO_e eq2
  refine aldB (i0 := 1) hx hb hK hP rfl a9_7 gq2 dX10_treaty_15 ?_
  refine lv_nm eq2 ?_
  obtain ⟨q3, eq3, hf⟩ := bnd hf
  refine mcVi (v := q3.1) (rest := []) (Bn := [w10 cs o_x a_x s_x, w9 cs (a_x 2) a_t s_t, w9 cs (a_x 9) a_t2 q3.2.1, w2 cs (a_x 8) a0n q3.2.2.1, w7 cs (a_x 1) a_g q3.2.2.2]) (isR := []) (isC := [0, 1, 2, 3, 4]) (i0 := 0) ⟨hx, hb, hml, hown, hts⟩ hK hP hD hS hA hG (c10_complaintsOfADay l D cs o_x a_x a_t a_t2 a_g s_x s_t s_t2 s_e s_g H.size x1 q2 _ eq3) (cwV 2 hts (gV wd1173 wd1175 wd31 wd105 wd1176) rfl rfl rfl (by decide +kernel) ⟨by rw [hR]; exact Nat.le_of_ble_eq_true rfl, by rw [hR]; exact Nat.le_of_ble_eq_true rfl⟩) 5 (by decide) rfl rfl rfl rfl rfl rfl rfl e10 rfl rfl rfl hl.1 rfl (Nat.le_of_ble_eq_true rfl) ⟨Nat.zero_le _, Nat.zero_le _⟩ dX10_treaty_16 (fun H locs hP hD hS => ?_)
  refine lv_istore_n (lv' := [(2, .int q3.1), (0, .ref o_x), (1, .int x1)]) hx hb dX10_treaty_19 rfl hl (by decide) rfl (fun ls hl => ?_)
  refine lv_iconst (v := (-1)) hx hb dX10_treaty_20 (by decide) ?_
  refine lv_istore_n (lv' := [(3, .int (-1)), (2, .int q3.1), (0, .ref o_x), (1, .int x1)]) hx hb dX10_treaty_21 rfl hl (by decide) rfl (fun ls hl => ?_)
  refine lv_iconst (v := 0) hx hb dX10_treaty_22 (by decide) ?_
  refine lv_istore (lv' := [(4, .int 0), (3, .int (-1)), (2, .int q3.1), (0, .ref o_x), (1, .int x1)]) hx hb dX10_treaty_23 hl (by decide) rfl (fun ls hl => ?_)
  obtain ⟨q4, hq4, hf⟩ := bnd hf
  obtain ⟨n4, hq4⟩ := lpw_ex hq4
  have Jq4_0 : ∀ rr4_0 : Int32 × St × St × St, q4 = rr4_0 → ∀ (H : Heap) (locs : List Loc) (ls : Array Slot), va_P D vwCl (List.flatten [w10 cs o_x a_x s_x, w9 cs (a_x 2) a_t s_t, w9 cs (a_x 9) a_t2 rr4_0.2.1, w2 cs (a_x 8) a0n rr4_0.2.2.1, w7 cs (a_x 1) a_g rr4_0.2.2.2]) H → va_D A (List.flatten [w10 cs o_x a_x s_x, w9 cs (a_x 2) a_t s_t, w9 cs (a_x 9) a_t2 rr4_0.2.1, w2 cs (a_x 8) a0n rr4_0.2.2.1, w7 cs (a_x 1) a_g rr4_0.2.2.2]) → va_S A s.heap H locs → lv_has ls 6 [(3, .int rr4_0.1)] → W p l e R s m args below meth c H locs 0 0 Q (F0 m 59 ls []) := by
    intro rr4_0 eq4 H locs ls hP hD hS hl
    subst eq4
    refine lv_iload_n hx hb dX10_treaty_59 rfl (lv_at hl 0 rfl) ?_
    obtain rfl := Option.some.inj hf
    exact mretI hx hb hr hlocks hK hP hD hS rfl hQ dX10_treaty_60
  clear hf
  have L4 : ∀ n4, ∀ v5 : Int32 × Int32 × Int32 × St × St × St, lp n4 (f10_treaty_L4 s_x s_t x1) v5 = some q4 → ∀ (H : Heap) (locs : List Loc) (ls : Array Slot), va_P D vwCl (List.flatten [w10 cs o_x a_x s_x, w9 cs (a_x 2) a_t s_t, w9 cs (a_x 9) a_t2 v5.2.2.2.1, w2 cs (a_x 8) a0n v5.2.2.2.2.1, w7 cs (a_x 1) a_g v5.2.2.2.2.2]) H → va_D A (List.flatten [w10 cs o_x a_x s_x, w9 cs (a_x 2) a_t s_t, w9 cs (a_x 9) a_t2 v5.2.2.2.1, w2 cs (a_x 8) a0n v5.2.2.2.2.1, w7 cs (a_x 1) a_g v5.2.2.2.2.2]) → va_S A s.heap H locs → lv_has ls 6 [(0, .ref o_x), (1, .int x1), (2, .int v5.1), (3, .int v5.2.1), (4, .int v5.2.2.1)] → W p l e R s m args below meth c H locs 0 0 Q (F0 m 25 ls []) := by
    intro n4
    induction n4 with
    | zero => intro v5 hn; cases hn
    | succ n4 ih4 =>
      intro v5 hn4 H locs ls hP hD hS hl
      obtain ⟨y4, hf, hn4⟩ := lp_succ hn4
      unfold f10_treaty_L4 at hf
      refine lv_iload hx hb dX10_treaty_25 (lv_at hl 4 rfl) ?_
      refine lv_bipush (v := 24) hx hb dX10_treaty_27 (by decide) ?_
      refine lv_icmp_ge (tgt := 59) hx hb dX10_treaty_29 (by decide) (fun hc => ?_) (fun hc => ?_)
      · have hf := ifp hc hf
        cases hf
        exact Jq4_0 _ (Option.some.inj hn4).symm _ _ _ hP hD hS (lv_sub hl [3] rfl)
      · have hf := ifn hc hf
        refine lv_aload_n hx hb dX10_treaty_32 rfl (lv_at hl 0 rfl) ?_
        refine lv_iload_n hx hb dX10_treaty_33 rfl (lv_at hl 1 rfl) ?_
        refine lv_iload hx hb dX10_treaty_34 (lv_at hl 4 rfl) ?_
        obtain ⟨q6, eq6, hf⟩ := bnd hf
        refine mcVi (v := q6.1) (rest := []) (Bn := [w10 cs o_x a_x s_x, w9 cs (a_x 2) a_t s_t, w9 cs (a_x 9) a_t2 q6.2.1, w2 cs (a_x 8) a0n q6.2.2.1, w7 cs (a_x 1) a_g q6.2.2.2]) (isR := []) (isC := [0, 1, 2, 3, 4]) (i0 := 0) ⟨hx, hb, hml, hown, hts⟩ hK hP hD hS hA hG (c10_complaintsOfADay l D cs o_x a_x a_t a_t2 a_g s_x s_t v5.2.2.2.1 v5.2.2.2.2.1 v5.2.2.2.2.2 H.size x1 v5.2.2.1 _ eq6) (cwV 2 hts (gV wd1173 wd1175 wd31 wd105 wd1176) rfl rfl rfl (by decide +kernel) ⟨by rw [hR]; exact Nat.le_of_ble_eq_true rfl, by rw [hR]; exact Nat.le_of_ble_eq_true rfl⟩) 5 (by decide) rfl rfl rfl rfl rfl rfl rfl e10 rfl rfl rfl hl.1 rfl (Nat.le_of_ble_eq_true rfl) ⟨Nat.zero_le _, Nat.zero_le _⟩ dX10_treaty_36 (fun H locs hP hD hS => ?_)
        refine lv_istore (lv' := [(5, .int q6.1), (0, .ref o_x), (1, .int x1), (2, .int v5.1), (3, .int v5.2.1), (4, .int v5.2.2.1)]) hx hb dX10_treaty_39 hl (by decide) rfl (fun ls hl => ?_)
        refine lv_iload hx hb dX10_treaty_41 (lv_at hl 0 rfl) ?_
        refine lv_iload_n hx hb dX10_treaty_43 rfl (lv_at hl 3 rfl) ?_
        obtain ⟨q7, hq7, hf⟩ := bnd hf
        have Jq7 : ∀ r7 : Int32 × Int32, q7 = r7 → ∀ (H : Heap) (locs : List Loc) (ls : Array Slot), va_P D vwCl (List.flatten [w10 cs o_x a_x s_x, w9 cs (a_x 2) a_t s_t, w9 cs (a_x 9) a_t2 q6.2.1, w2 cs (a_x 8) a0n q6.2.2.1, w7 cs (a_x 1) a_g q6.2.2.2]) H → va_D A (List.flatten [w10 cs o_x a_x s_x, w9 cs (a_x 2) a_t s_t, w9 cs (a_x 9) a_t2 q6.2.1, w2 cs (a_x 8) a0n q6.2.2.1, w7 cs (a_x 1) a_g q6.2.2.2]) → va_S A s.heap H locs → lv_has ls 6 [(0, .ref o_x), (1, .int x1), (2, .int r7.1), (3, .int r7.2), (4, .int v5.2.2.1)] → W p l e R s m args below meth c H locs 0 0 Q (F0 m 53 ls []) := by
          intro r7 eq7 H locs ls hP hD hS hl
          subst eq7
          refine lv_iinc (v := (v5.2.2.1 + 1)) (lv' := [(4, .int (v5.2.2.1 + 1)), (0, .ref o_x), (1, .int x1), (2, .int q7.1), (3, .int q7.2)]) hx hb dX10_treaty_53 hl (k := 4) rfl rfl (by decide) rfl (fun ls hl => ?_)
          refine lv_goto (tgt := 25) hx hb dX10_treaty_56 (by decide) ?_
          cases hf
          exact ih4 _ hn4 _ _ _ hP hD hS (lv_sub hl [1, 2, 3, 4, 0] rfl)
        clear hf
        have hf := hq7
        refine lv_icmp_ge (tgt := 53) hx hb dX10_treaty_44 (by decide) (fun hc => ?_) (fun hc => ?_)
        · have hf := ifp hc hf
          exact Jq7 _ (Option.some.inj hf).symm _ _ _ hP hD hS (lv_sub hl [1, 2, 3, 4, 5] rfl)
        · have hf := ifn hc hf
          refine lv_iload hx hb dX10_treaty_47 (lv_at hl 0 rfl) ?_
          refine lv_istore_n (lv' := [(2, .int q6.1), (5, .int q6.1), (0, .ref o_x), (1, .int x1), (3, .int v5.2.1), (4, .int v5.2.2.1)]) hx hb dX10_treaty_49 rfl hl (by decide) rfl (fun ls hl => ?_)
          refine lv_iload hx hb dX10_treaty_50 (lv_at hl 5 rfl) ?_
          refine lv_istore_n (lv' := [(3, .int v5.2.2.1), (2, .int q6.1), (5, .int q6.1), (0, .ref o_x), (1, .int x1), (4, .int v5.2.2.1)]) hx hb dX10_treaty_52 rfl hl (by decide) rfl (fun ls hl => ?_)
          exact Jq7 _ (Option.some.inj hf).symm _ _ _ hP hD hS (lv_sub hl [3, 4, 1, 0, 5] rfl)
  exact L4 _ _ hq4 _ _ _ hP hD hS (lv_sub hl [3, 4, 2, 1, 0] rfl)
set_option maxHeartbeats 4000000 in
set_option maxRecDepth 100000 in
theorem c10x_treaty (l : Launch) (D : va_G) (cs : xE) (hl0 : l.stackTraces = false) (o_x : Nat) (a_x : Nat → Nat) (a_t : Nat → Nat) (a_t2 : Nat → Nat) (a_g : Nat → Nat) (s_x : St) (s_t : St) (s_t2 : St) (s_e : St) (s_g : St) (sz : Nat) (x1 : Int32) (k : Nat) (hf : f10_treaty s_x s_t s_t2 s_e s_g x1 = some (.inr k)) : vx_Met l yX10_treaty (Cond.code yX10_treaty cX10_treaty 6 (some .int) :: WG) { frames := 7, cells := 1, slots := 6, locals := 116 } (va_Pc [.ref o_x, .int x1] (mP D cs (List.flatten [w10 cs o_x a_x s_x, w9 cs (a_x 2) a_t s_t, w9 cs (a_x 9) a_t2 s_t2, w2 cs (a_x 8) a0n s_e, w7 cs (a_x 1) a_g s_g]) sz)) (fun _ _ _ _ => False) (qX D cs k (List.flatten [w10 cs o_x a_x s_x, w9 cs (a_x 2) a_t s_t, w9 cs (a_x 9) a_t2 s_t2, w2 cs (a_x 8) a0n s_e, w7 cs (a_x 1) a_g s_g]) (va_A (List.flatten [w10 cs o_x a_x s_x, w9 cs (a_x 2) a_t s_t, w9 cs (a_x 9) a_t2 s_t2, w2 cs (a_x 8) a0n s_e, w7 cs (a_x 1) a_g s_g]) sz)) 1 6 (va_A (List.flatten [w10 cs o_x a_x s_x, w9 cs (a_x 2) a_t s_t, w9 cs (a_x 9) a_t2 s_t2, w2 cs (a_x 8) a0n s_e, w7 cs (a_x 1) a_g s_g]) sz) := by
  refine mgoX (cc := cX10_treaty) (maxL := 6) (ret := (some .int)) (by decide) rfl (Nat.le_of_ble_eq_true rfl) ?_
  intro p e s m below meth c ls A R Q args H hR hQ hno hx hb hml hr hlocks hown hts hP hK hD hA hS hG hl
  have hown : s.vm.findClass RX10 = some m.cls := hown
  have hl : lv_has ls 6 [(0, .ref o_x), (1, .int x1)] := hl
  have hW : ∀ w ∈ WG, w.before args s = true := fun w h => hts w (List.mem_cons_of_mem _ h)
  have htX10 : ∀ w ∈ u_ws RX10 TX10 14, w.before args s = true := fun w h => hW w (inW_X10 w h)
  have htX9 : ∀ w ∈ u_ws RX9 TX9 11, w.before args s = true := fun w h => hW w (inW_X9 w h)
  unfold f10_treaty at hf
  refine lv_aload_n hx hb dX10_treaty_0 rfl (lv_at hl 0 rfl) ?_
  refine lv_iload_n hx hb dX10_treaty_1 rfl (lv_at hl 1 rfl) ?_
  rcases xB_r hf with xq1 | ⟨q1, eq1, hf⟩
  · exact mxV (rest := []) (isR := [2, 3, 4]) (isC := [0, 1]) (i0 := 0) ⟨hx, hb, hml, hown, hts⟩ hK hP hD hS hA hG (c10x_needHouse l D cs hl0 o_x a_x a_t s_x s_t H.size x1 _ xq1) (cwV 1 hts (gV wd937 wd939 wd25 wd105 wd940) rfl rfl rfl (by decide +kernel) ⟨by rw [hR]; exact Nat.le_of_ble_eq_true rfl, by rw [hR]; exact Nat.le_of_ble_eq_true rfl⟩) 5 (by decide) rfl rfl rfl rfl e10 rfl rfl rfl hl.1 rfl (Nat.le_of_ble_eq_true rfl) ⟨by rw [hR]; exact Nat.le_of_ble_eq_true rfl, by rw [hR]; exact Nat.le_of_ble_eq_true rfl⟩ dX10_treaty_2 hno hlocks hQ
  refine mcVv (rest := []) (Bn := [w10 cs o_x a_x s_x, w9 cs (a_x 2) a_t s_t, w9 cs (a_x 9) a_t2 s_t2, w2 cs (a_x 8) a0n s_e, w7 cs (a_x 1) a_g s_g]) (isR := [2, 3, 4]) (isC := [0, 1]) (i0 := 0) ⟨hx, hb, hml, hown, hts⟩ hK hP hD hS hA hG (c10_needHouse l D cs o_x a_x a_t s_x s_t H.size x1 _ eq1) (cwV 1 hts (gV wd937 wd939 wd25 wd105 wd940) rfl rfl rfl (by decide +kernel) ⟨by rw [hR]; exact Nat.le_of_ble_eq_true rfl, by rw [hR]; exact Nat.le_of_ble_eq_true rfl⟩) 5 (by decide) rfl rfl rfl rfl rfl rfl rfl e10 rfl rfl rfl hl.1 rfl (Nat.le_of_ble_eq_true rfl) ⟨Nat.zero_le _, Nat.zero_le _⟩ dX10_treaty_2 (fun H locs hP hD hS => ?_)
  exact (wI_r hf).elim
/-! TwinLamps.fund -/
noncomputable def f10_fund_L4 (s_t : St) (q3 : St) (v5 : Int32 × Int32) : Option ((Int32 × Int32) ⊕ (Int32)) :=
  if (s_t.1 0) ≤ v5.2 then some (.inr v5.1) else (f9_hasSoundLamp s_t v5.2).bind fun q6 =>
  ((if (zB q6) = 0 then some v5.1 else (f9_hasSoundLamp q3 v5.2).bind fun q8 =>
  if (zB q8) = 0 then some (v5.1 ||| ((1 : Int32) <<< (v5.2 &&& 31))) else some v5.1 : Option (Int32))).bind fun q7 =>
  some (.inl (q7, (v5.2 + 1)))
noncomputable def f10_fund (s_x : St) (s_t : St) (s_t2 : St) (x1 : Int32) : Option ((Int32 × St) ⊕ Nat) :=
  xB (f10_needLamp s_x s_t x1) fun q1 =>
  wI ((f9_copyFrom s_t2 s_t).bind fun q2 =>
  (f9_shatter q2 x1).bind fun q3 =>
  (lpw (f10_fund_L4 s_t q3) (0, 0)).bind fun q4 =>
  some (q4, q3))
set_option maxHeartbeats 4000000 in
set_option maxRecDepth 100000 in
theorem c10_fund (l : Launch) (D : va_G) (cs : xE) (o_x : Nat) (a_x : Nat → Nat) (a_t : Nat → Nat) (a_t2 : Nat → Nat) (s_x : St) (s_t : St) (s_t2 : St) (sz : Nat) (x1 : Int32) (res : Int32 × St) (hf : f10_fund s_x s_t s_t2 x1 = some (.inl res)) : Met l yX10_fund (Cond.code yX10_fund cX10_fund 4 (some .int) :: WG) { frames := 7, cells := 0, slots := 0, locals := 111 } (va_Pc [.ref o_x, .int x1] (mP D cs (List.flatten [w10 cs o_x a_x s_x, w9 cs (a_x 2) a_t s_t, w9 cs (a_x 9) a_t2 s_t2]) sz)) (qI D cs res.1 (List.flatten [w10 cs o_x a_x s_x, w9 cs (a_x 2) a_t s_t, w9 cs (a_x 9) a_t2 res.2]) (va_A (List.flatten [w10 cs o_x a_x s_x, w9 cs (a_x 2) a_t s_t, w9 cs (a_x 9) a_t2 s_t2]) sz)) 0 0 (va_A (List.flatten [w10 cs o_x a_x s_x, w9 cs (a_x 2) a_t s_t, w9 cs (a_x 9) a_t2 s_t2]) sz) := by
  refine mgo (Qc := qI D cs res.1 (List.flatten [w10 cs o_x a_x s_x, w9 cs (a_x 2) a_t s_t, w9 cs (a_x 9) a_t2 res.2])) (cc := cX10_fund) (maxL := 4) (ret := (some .int)) (by decide) rfl (Nat.le_of_ble_eq_true rfl) ?_
  intro p e s m below meth c ls A R Q args H hR hQ hx hb hml hr hlocks hown hts hP hK hD hA hS hG hl
  have hown : s.vm.findClass RX10 = some m.cls := hown
  have hl : lv_has ls 4 [(0, .ref o_x), (1, .int x1)] := hl
  have hW : ∀ w ∈ WG, w.before args s = true := fun w h => hts w (List.mem_cons_of_mem _ h)
  have htX10 : ∀ w ∈ u_ws RX10 TX10 14, w.before args s = true := fun w h => hW w (inW_X10 w h)
  have htX9 : ∀ w ∈ u_ws RX9 TX9 11, w.before args s = true := fun w h => hW w (inW_X9 w h)
  unfold f10_fund at hf
  refine lv_aload_n hx hb dX10_fund_0 rfl (lv_at hl 0 rfl) ?_
  refine lv_iload_n hx hb dX10_fund_1 rfl (lv_at hl 1 rfl) ?_
  obtain ⟨q1, eq1, hf⟩ := xB_l hf
  refine mcVv (rest := []) (Bn := [w10 cs o_x a_x s_x, w9 cs (a_x 2) a_t s_t, w9 cs (a_x 9) a_t2 s_t2]) (isR := [2]) (isC := [0, 1]) (i0 := 0) ⟨hx, hb, hml, hown, hts⟩ hK hP hD hS hA hG (c10_needLamp l D cs o_x a_x a_t s_x s_t H.size x1 _ eq1) (cwV 1 hts (gV wd952 wd954 wd26 wd105 wd955) rfl rfl rfl (by decide +kernel) ⟨by rw [hR]; exact Nat.le_of_ble_eq_true rfl, by rw [hR]; exact Nat.le_of_ble_eq_true rfl⟩) 3 (by decide) rfl rfl rfl rfl rfl rfl rfl e10 rfl rfl rfl hl.1 rfl (Nat.le_of_ble_eq_true rfl) ⟨Nat.zero_le _, Nat.zero_le _⟩ dX10_fund_2 (fun H locs hP hD hS => ?_)
  have hf := wI_l hf
  refine lv_aload_n hx hb dX10_fund_5 rfl (lv_at hl 0 rfl) ?_
  refine gfB (i0 := 0) (own := RX10) (T := TX10) (k := 9) (v := .ref (a_x 9)) hx hb htX10 hown hK hP rfl e10 rfl (by decide) (hW _ wd437) rfl dX10_fund_6 ?_
  refine lv_aload_n hx hb dX10_fund_9 rfl (lv_at hl 0 rfl) ?_
  refine gfB (i0 := 0) (own := RX10) (T := TX10) (k := 2) (v := .ref (a_x 2)) hx hb htX10 hown hK hP rfl e10 rfl (by decide) (hW _ wd430) rfl dX10_fund_10 ?_
  obtain ⟨q2, eq2, hf⟩ := bnd hf
  refine mcVv (rest := []) (Bn := [w10 cs o_x a_x s_x, w9 cs (a_x 2) a_t s_t, w9 cs (a_x 9) a_t2 q2]) (isR := [0]) (isC := [2, 1]) (i0 := 2) ⟨hx, hb, hml, hown, hts⟩ hK hP hD hS hA hG (c9_copyFrom l D cs (a_x 9) a_t2 (a_x 2) a_t s_t2 s_t H.size _ eq2) (cwV 1 hts (gV wd599 wd500 wd501 wd107 wd502) rfl rfl rfl (by decide +kernel) ⟨by rw [hR]; exact Nat.le_of_ble_eq_true rfl, by rw [hR]; exact Nat.le_of_ble_eq_true rfl⟩) 3 (by decide) rfl rfl rfl rfl rfl rfl rfl e9 rfl rfl rfl hl.1 rfl (Nat.le_of_ble_eq_true rfl) ⟨Nat.zero_le _, Nat.zero_le _⟩ dX10_fund_13 (fun H locs hP hD hS => ?_)
  refine lv_aload_n hx hb dX10_fund_16 rfl (lv_at hl 0 rfl) ?_
  refine gfB (i0 := 0) (own := RX10) (T := TX10) (k := 9) (v := .ref (a_x 9)) hx hb htX10 hown hK hP rfl e10 rfl (by decide) (hW _ wd437) rfl dX10_fund_17 ?_
  refine lv_iload_n hx hb dX10_fund_20 rfl (lv_at hl 1 rfl) ?_
  obtain ⟨q3, eq3, hf⟩ := bnd hf
  refine mcVv (rest := []) (Bn := [w10 cs o_x a_x s_x, w9 cs (a_x 2) a_t s_t, w9 cs (a_x 9) a_t2 q3]) (isR := [0, 1]) (isC := [2]) (i0 := 2) ⟨hx, hb, hml, hown, hts⟩ hK hP hD hS hA hG (c9_shatter l D cs (a_x 9) a_t2 q2 H.size x1 _ eq3) (cwV 1 hts (gV wd1000 wd1001 wd1002 wd107 wd1003) rfl rfl rfl (by decide +kernel) ⟨by rw [hR]; exact Nat.le_of_ble_eq_true rfl, by rw [hR]; exact Nat.le_of_ble_eq_true rfl⟩) 3 (by decide) rfl rfl rfl rfl rfl rfl rfl e9 rfl rfl rfl hl.1 rfl (Nat.le_of_ble_eq_true rfl) ⟨Nat.zero_le _, Nat.zero_le _⟩ dX10_fund_21 (fun H locs hP hD hS => ?_)
  refine lv_iconst (v := 0) hx hb dX10_fund_24 (by decide) ?_
  refine lv_istore_n (lv' := [(2, .int 0), (0, .ref o_x), (1, .int x1)]) hx hb dX10_fund_25 rfl hl (by decide) rfl (fun ls hl => ?_)
  refine lv_iconst (v := 0) hx hb dX10_fund_26 (by decide) ?_
  refine lv_istore_n (lv' := [(3, .int 0), (2, .int 0), (0, .ref o_x), (1, .int x1)]) hx hb dX10_fund_27 rfl hl (by decide) rfl (fun ls hl => ?_)
  obtain ⟨q4, hq4, hf⟩ := bnd hf
  obtain ⟨n4, hq4⟩ := lpw_ex hq4
  have Jq4_0 : ∀ rr4_0 : Int32, q4 = rr4_0 → ∀ (H : Heap) (locs : List Loc) (ls : Array Slot), va_P D vwCl (List.flatten [w10 cs o_x a_x s_x, w9 cs (a_x 2) a_t s_t, w9 cs (a_x 9) a_t2 q3]) H → va_D A (List.flatten [w10 cs o_x a_x s_x, w9 cs (a_x 2) a_t s_t, w9 cs (a_x 9) a_t2 q3]) → va_S A s.heap H locs → lv_has ls 4 [(2, .int rr4_0)] → W p l e R s m args below meth c H locs 0 0 Q (F0 m 73 ls []) := by
    intro rr4_0 eq4 H locs ls hP hD hS hl
    subst eq4
    refine lv_iload_n hx hb dX10_fund_73 rfl (lv_at hl 0 rfl) ?_
    obtain rfl := Option.some.inj hf
    exact mretI hx hb hr hlocks hK hP hD hS rfl hQ dX10_fund_74
  clear hf
  have L4 : ∀ n4, ∀ v5 : Int32 × Int32, lp n4 (f10_fund_L4 s_t q3) v5 = some q4 → ∀ (H : Heap) (locs : List Loc) (ls : Array Slot), va_P D vwCl (List.flatten [w10 cs o_x a_x s_x, w9 cs (a_x 2) a_t s_t, w9 cs (a_x 9) a_t2 q3]) H → va_D A (List.flatten [w10 cs o_x a_x s_x, w9 cs (a_x 2) a_t s_t, w9 cs (a_x 9) a_t2 q3]) → va_S A s.heap H locs → lv_has ls 4 [(0, .ref o_x), (2, .int v5.1), (3, .int v5.2)] → W p l e R s m args below meth c H locs 0 0 Q (F0 m 28 ls []) := by
    intro n4
    induction n4 with
    | zero => intro v5 hn; cases hn
    | succ n4 ih4 =>
      intro v5 hn4 H locs ls hP hD hS hl
      obtain ⟨y4, hf, hn4⟩ := lp_succ hn4
      unfold f10_fund_L4 at hf
      refine lv_iload_n hx hb dX10_fund_28 rfl (lv_at hl 2 rfl) ?_
      refine lv_aload_n hx hb dX10_fund_29 rfl (lv_at hl 0 rfl) ?_
      refine gfB (i0 := 0) (own := RX10) (T := TX10) (k := 2) (v := .ref (a_x 2)) hx hb htX10 hown hK hP rfl e10 rfl (by decide) (hW _ wd430) rfl dX10_fund_30 ?_
      refine gfB (i0 := 1) (own := RX10) (T := TX9) (k := 0) (v := .int (s_t.1 0)) hx hb htX9 hown hK hP rfl e9 rfl (by decide) (hW _ wd150) rfl dX10_fund_33 ?_
      refine lv_icmp_ge (tgt := 73) hx hb dX10_fund_36 (by decide) (fun hc => ?_) (fun hc => ?_)
      · have hf := ifp hc hf
        cases hf
        exact Jq4_0 _ (Option.some.inj hn4).symm _ _ _ hP hD hS (lv_sub hl [1] rfl)
      · have hf := ifn hc hf
        refine lv_aload_n hx hb dX10_fund_39 rfl (lv_at hl 0 rfl) ?_
        refine gfB (i0 := 0) (own := RX10) (T := TX10) (k := 2) (v := .ref (a_x 2)) hx hb htX10 hown hK hP rfl e10 rfl (by decide) (hW _ wd430) rfl dX10_fund_40 ?_
        refine lv_iload_n hx hb dX10_fund_43 rfl (lv_at hl 2 rfl) ?_
        obtain ⟨q6, eq6, hf⟩ := bnd hf
        refine mcVi (v := (zB q6)) (rest := []) (Bn := [w10 cs o_x a_x s_x, w9 cs (a_x 2) a_t s_t, w9 cs (a_x 9) a_t2 q3]) (isR := [0, 2]) (isC := [1]) (i0 := 1) ⟨hx, hb, hml, hown, hts⟩ hK hP hD hS hA hG (c9_hasSoundLamp l D cs (a_x 2) a_t s_t H.size v5.2 _ eq6) (cwV 1 hts (gV wd1184 wd1185 wd1186 wd107 wd1187) rfl rfl rfl (by decide +kernel) ⟨by rw [hR]; exact Nat.le_of_ble_eq_true rfl, by rw [hR]; exact Nat.le_of_ble_eq_true rfl⟩) 3 (by decide) rfl rfl rfl rfl rfl rfl rfl e9 rfl rfl rfl hl.1 rfl (Nat.le_of_ble_eq_true rfl) ⟨Nat.zero_le _, Nat.zero_le _⟩ dX10_fund_44 (fun H locs hP hD hS => ?_)
        obtain ⟨q7, hq7, hf⟩ := bnd hf
        have Jq7 : ∀ r7 : Int32, q7 = r7 → ∀ (H : Heap) (locs : List Loc) (ls : Array Slot), va_P D vwCl (List.flatten [w10 cs o_x a_x s_x, w9 cs (a_x 2) a_t s_t, w9 cs (a_x 9) a_t2 q3]) H → va_D A (List.flatten [w10 cs o_x a_x s_x, w9 cs (a_x 2) a_t s_t, w9 cs (a_x 9) a_t2 q3]) → va_S A s.heap H locs → lv_has ls 4 [(0, .ref o_x), (2, .int r7), (3, .int v5.2)] → W p l e R s m args below meth c H locs 0 0 Q (F0 m 67 ls []) := by
          intro r7 eq7 H locs ls hP hD hS hl
          subst eq7
          refine lv_iinc (v := (v5.2 + 1)) (lv' := [(3, .int (v5.2 + 1)), (0, .ref o_x), (2, .int q7)]) hx hb dX10_fund_67 hl (k := 2) rfl rfl (by decide) rfl (fun ls hl => ?_)
          refine lv_goto (tgt := 28) hx hb dX10_fund_70 (by decide) ?_
          cases hf
          exact ih4 _ hn4 _ _ _ hP hD hS (lv_sub hl [1, 2, 0] rfl)
        clear hf
        have hf := hq7
        refine lv_if_eq (tgt := 67) hx hb dX10_fund_47 (by decide) (fun hc => ?_) (fun hc => ?_)
        · have hf := ifp hc hf
          exact Jq7 _ (Option.some.inj hf).symm _ _ _ hP hD hS (lv_sub hl [0, 1, 2] rfl)
        · have hf := ifn hc hf
          refine lv_aload_n hx hb dX10_fund_50 rfl (lv_at hl 0 rfl) ?_
          refine gfB (i0 := 0) (own := RX10) (T := TX10) (k := 9) (v := .ref (a_x 9)) hx hb htX10 hown hK hP rfl e10 rfl (by decide) (hW _ wd437) rfl dX10_fund_51 ?_
          refine lv_iload_n hx hb dX10_fund_54 rfl (lv_at hl 2 rfl) ?_
          obtain ⟨q8, eq8, hf⟩ := bnd hf
          refine mcVi (v := (zB q8)) (rest := []) (Bn := [w10 cs o_x a_x s_x, w9 cs (a_x 2) a_t s_t, w9 cs (a_x 9) a_t2 q3]) (isR := [0, 1]) (isC := [2]) (i0 := 2) ⟨hx, hb, hml, hown, hts⟩ hK hP hD hS hA hG (c9_hasSoundLamp l D cs (a_x 9) a_t2 q3 H.size v5.2 _ eq8) (cwV 1 hts (gV wd1184 wd1185 wd1186 wd107 wd1187) rfl rfl rfl (by decide +kernel) ⟨by rw [hR]; exact Nat.le_of_ble_eq_true rfl, by rw [hR]; exact Nat.le_of_ble_eq_true rfl⟩) 3 (by decide) rfl rfl rfl rfl rfl rfl rfl e9 rfl rfl rfl hl.1 rfl (Nat.le_of_ble_eq_true rfl) ⟨Nat.zero_le _, Nat.zero_le _⟩ dX10_fund_55 (fun H locs hP hD hS => ?_)
          refine lv_if_ne (tgt := 67) hx hb dX10_fund_58 (by decide) (fun hc => ?_) (fun hc => ?_)
          · have hf := ifn hc hf
            exact Jq7 _ (Option.some.inj hf).symm _ _ _ hP hD hS (lv_sub hl [0, 1, 2] rfl)
          · have hf := ifp hc hf
            refine lv_iload_n hx hb dX10_fund_61 rfl (lv_at hl 1 rfl) ?_
            refine lv_iconst (v := 1) hx hb dX10_fund_62 (by decide) ?_
            refine lv_iload_n hx hb dX10_fund_63 rfl (lv_at hl 2 rfl) ?_
            refine lv_ishl hx hb dX10_fund_64 ?_
            refine lv_ior hx hb dX10_fund_65 ?_
            refine lv_istore_n (lv' := [(2, .int (v5.1 ||| ((1 : Int32) <<< (v5.2 &&& 31)))), (0, .ref o_x), (3, .int v5.2)]) hx hb dX10_fund_66 rfl hl (by decide) rfl (fun ls hl => ?_)
            exact Jq7 _ (Option.some.inj hf).symm _ _ _ hP hD hS (lv_sub hl [1, 0, 2] rfl)
  exact L4 _ _ hq4 _ _ _ hP hD hS (lv_sub hl [2, 1, 0] rfl)
set_option maxHeartbeats 4000000 in
set_option maxRecDepth 100000 in
theorem c10x_fund (l : Launch) (D : va_G) (cs : xE) (hl0 : l.stackTraces = false) (o_x : Nat) (a_x : Nat → Nat) (a_t : Nat → Nat) (a_t2 : Nat → Nat) (s_x : St) (s_t : St) (s_t2 : St) (sz : Nat) (x1 : Int32) (k : Nat) (hf : f10_fund s_x s_t s_t2 x1 = some (.inr k)) : vx_Met l yX10_fund (Cond.code yX10_fund cX10_fund 4 (some .int) :: WG) { frames := 7, cells := 1, slots := 6, locals := 111 } (va_Pc [.ref o_x, .int x1] (mP D cs (List.flatten [w10 cs o_x a_x s_x, w9 cs (a_x 2) a_t s_t, w9 cs (a_x 9) a_t2 s_t2]) sz)) (fun _ _ _ _ => False) (qX D cs k (List.flatten [w10 cs o_x a_x s_x, w9 cs (a_x 2) a_t s_t, w9 cs (a_x 9) a_t2 s_t2]) (va_A (List.flatten [w10 cs o_x a_x s_x, w9 cs (a_x 2) a_t s_t, w9 cs (a_x 9) a_t2 s_t2]) sz)) 1 6 (va_A (List.flatten [w10 cs o_x a_x s_x, w9 cs (a_x 2) a_t s_t, w9 cs (a_x 9) a_t2 s_t2]) sz) := by
  refine mgoX (cc := cX10_fund) (maxL := 4) (ret := (some .int)) (by decide) rfl (Nat.le_of_ble_eq_true rfl) ?_
  intro p e s m below meth c ls A R Q args H hR hQ hno hx hb hml hr hlocks hown hts hP hK hD hA hS hG hl
  have hown : s.vm.findClass RX10 = some m.cls := hown
  have hl : lv_has ls 4 [(0, .ref o_x), (1, .int x1)] := hl
  have hW : ∀ w ∈ WG, w.before args s = true := fun w h => hts w (List.mem_cons_of_mem _ h)
  have htX10 : ∀ w ∈ u_ws RX10 TX10 14, w.before args s = true := fun w h => hW w (inW_X10 w h)
  have htX9 : ∀ w ∈ u_ws RX9 TX9 11, w.before args s = true := fun w h => hW w (inW_X9 w h)
  unfold f10_fund at hf
  refine lv_aload_n hx hb dX10_fund_0 rfl (lv_at hl 0 rfl) ?_
  refine lv_iload_n hx hb dX10_fund_1 rfl (lv_at hl 1 rfl) ?_
  rcases xB_r hf with xq1 | ⟨q1, eq1, hf⟩
  · exact mxV (rest := []) (isR := [2]) (isC := [0, 1]) (i0 := 0) ⟨hx, hb, hml, hown, hts⟩ hK hP hD hS hA hG (c10x_needLamp l D cs hl0 o_x a_x a_t s_x s_t H.size x1 _ xq1) (cwV 1 hts (gV wd952 wd954 wd26 wd105 wd955) rfl rfl rfl (by decide +kernel) ⟨by rw [hR]; exact Nat.le_of_ble_eq_true rfl, by rw [hR]; exact Nat.le_of_ble_eq_true rfl⟩) 3 (by decide) rfl rfl rfl rfl e10 rfl rfl rfl hl.1 rfl (Nat.le_of_ble_eq_true rfl) ⟨by rw [hR]; exact Nat.le_of_ble_eq_true rfl, by rw [hR]; exact Nat.le_of_ble_eq_true rfl⟩ dX10_fund_2 hno hlocks hQ
  refine mcVv (rest := []) (Bn := [w10 cs o_x a_x s_x, w9 cs (a_x 2) a_t s_t, w9 cs (a_x 9) a_t2 s_t2]) (isR := [2]) (isC := [0, 1]) (i0 := 0) ⟨hx, hb, hml, hown, hts⟩ hK hP hD hS hA hG (c10_needLamp l D cs o_x a_x a_t s_x s_t H.size x1 _ eq1) (cwV 1 hts (gV wd952 wd954 wd26 wd105 wd955) rfl rfl rfl (by decide +kernel) ⟨by rw [hR]; exact Nat.le_of_ble_eq_true rfl, by rw [hR]; exact Nat.le_of_ble_eq_true rfl⟩) 3 (by decide) rfl rfl rfl rfl rfl rfl rfl e10 rfl rfl rfl hl.1 rfl (Nat.le_of_ble_eq_true rfl) ⟨Nat.zero_le _, Nat.zero_le _⟩ dX10_fund_2 (fun H locs hP hD hS => ?_)
  exact (wI_r hf).elim
/-! TwinLamps.signals -/
noncomputable def f10_signals_L3 (q2 : Int32) (v4 : Int32 × Int32) : Option ((Int32 × Int32) ⊕ (Int32)) :=
  if q2 ≤ v4.2 then some (.inr v4.1) else some (.inl ((v4.1 + 1), (v4.2 * 2)))
noncomputable def f10_signals (s_x : St) (s_t : St) (x1 : Int32) : Option ((Int32) ⊕ Nat) :=
  (f9_allLamps s_t).bind fun q1 =>
  if (x1 &&& (q1 ^^^ (-1))) = 0 then (wI ((fJ6_bitCount x1).bind fun q2 =>
  (lpw (f10_signals_L3 q2) (0, 1)).bind fun q3 =>
  some q3))
  else some (.inr 0)
set_option maxHeartbeats 4000000 in
set_option maxRecDepth 100000 in
theorem c10_signals (l : Launch) (D : va_G) (cs : xE) (o_x : Nat) (a_x : Nat → Nat) (a_t : Nat → Nat) (s_x : St) (s_t : St) (sz : Nat) (x1 : Int32) (res : Int32) (hf : f10_signals s_x s_t x1 = some (.inl res)) : Met l yX10_signals (Cond.code yX10_signals cX10_signals 5 (some .int) :: WG) { frames := 6, cells := 0, slots := 0, locals := 90 } (va_Pc [.ref o_x, .int x1] (mP D cs (List.flatten [w10 cs o_x a_x s_x, w9 cs (a_x 2) a_t s_t]) sz)) (qI D cs res (List.flatten [w10 cs o_x a_x s_x, w9 cs (a_x 2) a_t s_t]) (va_A (List.flatten [w10 cs o_x a_x s_x, w9 cs (a_x 2) a_t s_t]) sz)) 0 0 (va_A (List.flatten [w10 cs o_x a_x s_x, w9 cs (a_x 2) a_t s_t]) sz) := by
  refine mgo (Qc := qI D cs res (List.flatten [w10 cs o_x a_x s_x, w9 cs (a_x 2) a_t s_t])) (cc := cX10_signals) (maxL := 5) (ret := (some .int)) (by decide) rfl (Nat.le_of_ble_eq_true rfl) ?_
  intro p e s m below meth c ls A R Q args H hR hQ hx hb hml hr hlocks hown hts hP hK hD hA hS hG hl
  have hown : s.vm.findClass RX10 = some m.cls := hown
  have hl : lv_has ls 5 [(0, .ref o_x), (1, .int x1)] := hl
  have hW : ∀ w ∈ WG, w.before args s = true := fun w h => hts w (List.mem_cons_of_mem _ h)
  have htX10 : ∀ w ∈ u_ws RX10 TX10 14, w.before args s = true := fun w h => hW w (inW_X10 w h)
  unfold f10_signals at hf
  refine lv_iload_n hx hb dX10_signals_0 rfl (lv_at hl 1 rfl) ?_
  refine lv_aload_n hx hb dX10_signals_1 rfl (lv_at hl 0 rfl) ?_
  refine gfB (i0 := 0) (own := RX10) (T := TX10) (k := 2) (v := .ref (a_x 2)) hx hb htX10 hown hK hP rfl e10 rfl (by decide) (hW _ wd430) rfl dX10_signals_2 ?_
  obtain ⟨q1, eq1, hf⟩ := bnd hf
  refine mcVi (v := q1) (rest := [.int x1]) (Bn := [w10 cs o_x a_x s_x, w9 cs (a_x 2) a_t s_t]) (isR := [0]) (isC := [1]) (i0 := 1) ⟨hx, hb, hml, hown, hts⟩ hK hP hD hS hA hG (c9_allLamps l D cs (a_x 2) a_t s_t H.size _ eq1) (cwV 0 hts (gV wd1195 wd1196 wd1197 wd107 wd1198) rfl rfl rfl (by decide +kernel) ⟨by rw [hR]; exact Nat.le_of_ble_eq_true rfl, by rw [hR]; exact Nat.le_of_ble_eq_true rfl⟩) 2 (by decide) rfl rfl rfl rfl rfl rfl rfl e9 rfl rfl rfl hl.1 rfl (Nat.le_of_ble_eq_true rfl) ⟨Nat.zero_le _, Nat.zero_le _⟩ dX10_signals_5 (fun H locs hP hD hS => ?_)
  refine lv_iconst (v := (-1)) hx hb dX10_signals_8 (by decide) ?_
  refine lv_ixor hx hb dX10_signals_9 ?_
  refine lv_iand hx hb dX10_signals_10 ?_
  refine lv_if_eq (tgt := 25) hx hb dX10_signals_11 (by decide) (fun hc => ?_) (fun hc => ?_)
  · have hf := ifp hc hf
    have hf := wI_l hf
    refine lv_iload_n hx hb dX10_signals_25 rfl (lv_at hl 1 rfl) ?_
    obtain ⟨q2, eq2, hf⟩ := bnd hf
    refine mcSi0 (v := q2) (As := [.int x1]) (rest := []) ⟨hx, hb, hml, hown, hts⟩ hK hP hS hA hG (cJ6_bitCount l D cs H.size x1 _ eq2) (va_cwS 1 hts (gS wd885 wd535 wd127 wd536) rfl rfl rfl (by decide +kernel) ⟨by rw [hR]; exact Nat.le_of_ble_eq_true rfl, by rw [hR]; exact Nat.le_of_ble_eq_true rfl⟩) rfl hl.1 rfl (Nat.le_of_ble_eq_true rfl) ⟨Nat.zero_le _, Nat.zero_le _⟩ dX10_signals_26 (fun H locs hP hS => ?_)
    refine lv_istore_n (lv' := [(2, .int q2), (0, .ref o_x), (1, .int x1)]) hx hb dX10_signals_29 rfl hl (by decide) rfl (fun ls hl => ?_)
    refine lv_iconst (v := 0) hx hb dX10_signals_30 (by decide) ?_
    refine lv_istore_n (lv' := [(3, .int 0), (2, .int q2), (0, .ref o_x), (1, .int x1)]) hx hb dX10_signals_31 rfl hl (by decide) rfl (fun ls hl => ?_)
    refine lv_iconst (v := 1) hx hb dX10_signals_32 (by decide) ?_
    refine lv_istore (lv' := [(4, .int 1), (3, .int 0), (2, .int q2), (0, .ref o_x), (1, .int x1)]) hx hb dX10_signals_33 hl (by decide) rfl (fun ls hl => ?_)
    obtain ⟨q3, hq3, hf⟩ := bnd hf
    obtain ⟨n3, hq3⟩ := lpw_ex hq3
    have Jq3_0 : ∀ rr3_0 : Int32, q3 = rr3_0 → ∀ (H : Heap) (locs : List Loc) (ls : Array Slot), va_P D vwCl (List.flatten [w10 cs o_x a_x s_x, w9 cs (a_x 2) a_t s_t]) H → va_D A (List.flatten [w10 cs o_x a_x s_x, w9 cs (a_x 2) a_t s_t]) → va_S A s.heap H locs → lv_has ls 5 [(3, .int rr3_0)] → W p l e R s m args below meth c H locs 0 0 Q (F0 m 53 ls []) := by
      intro rr3_0 eq3 H locs ls hP hD hS hl
      subst eq3
      refine lv_iload_n hx hb dX10_signals_53 rfl (lv_at hl 0 rfl) ?_
      obtain rfl := Option.some.inj hf
      exact mretI hx hb hr hlocks hK hP hD hS rfl hQ dX10_signals_54
    clear hf
    have L3 : ∀ n3, ∀ v4 : Int32 × Int32, lp n3 (f10_signals_L3 q2) v4 = some q3 → ∀ (H : Heap) (locs : List Loc) (ls : Array Slot), va_P D vwCl (List.flatten [w10 cs o_x a_x s_x, w9 cs (a_x 2) a_t s_t]) H → va_D A (List.flatten [w10 cs o_x a_x s_x, w9 cs (a_x 2) a_t s_t]) → va_S A s.heap H locs → lv_has ls 5 [(2, .int q2), (3, .int v4.1), (4, .int v4.2)] → W p l e R s m args below meth c H locs 0 0 Q (F0 m 35 ls []) := by
      intro n3
      induction n3 with
      | zero => intro v4 hn; cases hn
      | succ n3 ih3 =>
        intro v4 hn3 H locs ls hP hD hS hl
        obtain ⟨y3, hf, hn3⟩ := lp_succ hn3
        unfold f10_signals_L3 at hf
        refine lv_iload hx hb dX10_signals_35 (lv_at hl 2 rfl) ?_
        refine lv_iload_n hx hb dX10_signals_37 rfl (lv_at hl 0 rfl) ?_
        refine lv_icmp_ge (tgt := 53) hx hb dX10_signals_38 (by decide) (fun hc => ?_) (fun hc => ?_)
        · have hf := ifp hc hf
          cases hf
          exact Jq3_0 _ (Option.some.inj hn3).symm _ _ _ hP hD hS (lv_sub hl [1] rfl)
        · have hf := ifn hc hf
          refine lv_iinc (v := (v4.1 + 1)) (lv' := [(3, .int (v4.1 + 1)), (2, .int q2), (4, .int v4.2)]) hx hb dX10_signals_41 hl (k := 1) rfl rfl (by decide) rfl (fun ls hl => ?_)
          refine lv_iload hx hb dX10_signals_44 (lv_at hl 2 rfl) ?_
          refine lv_iconst (v := 2) hx hb dX10_signals_46 (by decide) ?_
          refine lv_imul hx hb dX10_signals_47 ?_
          refine lv_istore (lv' := [(4, .int (v4.2 * 2)), (3, .int (v4.1 + 1)), (2, .int q2)]) hx hb dX10_signals_48 hl (by decide) rfl (fun ls hl => ?_)
          refine lv_goto (tgt := 35) hx hb dX10_signals_50 (by decide) ?_
          cases hf
          exact ih3 _ hn3 _ _ _ hP hD hS (lv_sub hl [2, 1, 0] rfl)
    exact L3 _ _ hq3 _ _ _ hP hD hS (lv_sub hl [2, 1, 0] rfl)
  · have hf := ifn hc hf
    cases hf
set_option maxHeartbeats 4000000 in
set_option maxRecDepth 100000 in
theorem c10x_signals (l : Launch) (D : va_G) (cs : xE) (hl0 : l.stackTraces = false) (o_x : Nat) (a_x : Nat → Nat) (a_t : Nat → Nat) (s_x : St) (s_t : St) (sz : Nat) (x1 : Int32) (k : Nat) (hf : f10_signals s_x s_t x1 = some (.inr k)) : vx_Met l yX10_signals (Cond.code yX10_signals cX10_signals 5 (some .int) :: WG) { frames := 6, cells := 1, slots := 6, locals := 90 } (va_Pc [.ref o_x, .int x1] (mP D cs (List.flatten [w10 cs o_x a_x s_x, w9 cs (a_x 2) a_t s_t]) sz)) (fun _ _ _ _ => False) (qX D cs k (List.flatten [w10 cs o_x a_x s_x, w9 cs (a_x 2) a_t s_t]) (va_A (List.flatten [w10 cs o_x a_x s_x, w9 cs (a_x 2) a_t s_t]) sz)) 1 6 (va_A (List.flatten [w10 cs o_x a_x s_x, w9 cs (a_x 2) a_t s_t]) sz) := by
  refine mgoX (cc := cX10_signals) (maxL := 5) (ret := (some .int)) (by decide) rfl (Nat.le_of_ble_eq_true rfl) ?_
  intro p e s m below meth c ls A R Q args H hR hQ hno hx hb hml hr hlocks hown hts hP hK hD hA hS hG hl
  have hown : s.vm.findClass RX10 = some m.cls := hown
  have hl : lv_has ls 5 [(0, .ref o_x), (1, .int x1)] := hl
  have hW : ∀ w ∈ WG, w.before args s = true := fun w h => hts w (List.mem_cons_of_mem _ h)
  have htX10 : ∀ w ∈ u_ws RX10 TX10 14, w.before args s = true := fun w h => hW w (inW_X10 w h)
  unfold f10_signals at hf
  refine lv_iload_n hx hb dX10_signals_0 rfl (lv_at hl 1 rfl) ?_
  refine lv_aload_n hx hb dX10_signals_1 rfl (lv_at hl 0 rfl) ?_
  refine gfB (i0 := 0) (own := RX10) (T := TX10) (k := 2) (v := .ref (a_x 2)) hx hb htX10 hown hK hP rfl e10 rfl (by decide) (hW _ wd430) rfl dX10_signals_2 ?_
  obtain ⟨q1, eq1, hf⟩ := bnd hf
  refine mcVi (v := q1) (rest := [.int x1]) (Bn := [w10 cs o_x a_x s_x, w9 cs (a_x 2) a_t s_t]) (isR := [0]) (isC := [1]) (i0 := 1) ⟨hx, hb, hml, hown, hts⟩ hK hP hD hS hA hG (c9_allLamps l D cs (a_x 2) a_t s_t H.size _ eq1) (cwV 0 hts (gV wd1195 wd1196 wd1197 wd107 wd1198) rfl rfl rfl (by decide +kernel) ⟨by rw [hR]; exact Nat.le_of_ble_eq_true rfl, by rw [hR]; exact Nat.le_of_ble_eq_true rfl⟩) 2 (by decide) rfl rfl rfl rfl rfl rfl rfl e9 rfl rfl rfl hl.1 rfl (Nat.le_of_ble_eq_true rfl) ⟨Nat.zero_le _, Nat.zero_le _⟩ dX10_signals_5 (fun H locs hP hD hS => ?_)
  refine lv_iconst (v := (-1)) hx hb dX10_signals_8 (by decide) ?_
  refine lv_ixor hx hb dX10_signals_9 ?_
  refine lv_iand hx hb dX10_signals_10 ?_
  refine lv_if_eq (tgt := 25) hx hb dX10_signals_11 (by decide) (fun hc => ?_) (fun hc => ?_)
  · have hf := ifp hc hf
    exact (wI_r hf).elim
  · have hf := ifn hc hf
    obtain rfl := Sum.inr.inj (Option.some.inj hf)
    exact thIW (text := "there are no such lamps") hx hb hl0 (hl.1.trans hml.symm) hlocks hno hown hW hG hK hP hD hS (hG.1 ("TwinLamps", 312, "there are no such lamps", 21) (by decide +kernel)) dX10_signals_14 dX10_signals_17 dX10_signals_18 dX10_signals_21 dX10_signals_24 (by rw [hR]; exact Nat.le_of_ble_eq_true rfl) (by rw [hR]; exact Nat.le_of_ble_eq_true rfl) (by rw [hR]; exact Nat.le_of_ble_eq_true rfl) (by rw [hR]; exact Nat.le_of_ble_eq_true rfl) hQ
/-! TwinLamps.see -/
noncomputable def f10_see (s_x : St) (s_t : St) (s_v : St) (x1 : Int32) (x2 : Int32) (x3 : Bool) : Option ((Int32 × St × St) ⊕ Nat) :=
  xB (f10_needLamp s_x s_t x1) fun q1 =>
  wI (if x2 < 1 then ((f10_refuse s_x (2 : Int32)).bind fun q2 =>
  some (q2.1, q2.2, s_v))
  else if (48 : Int32) < x2 then ((f10_refuse s_x (2 : Int32)).bind fun q3 =>
  some (q3.1, q3.2, s_v))
  else if (s_v.1 0) < 8 then ((f8_add s_v x1 x2 x3).bind fun q4 =>
  some ((q4.1 0), s_x, q4))
  else (f10_refuse s_x (2 : Int32)).bind fun q5 =>
  some (q5.1, q5.2, s_v))
set_option maxHeartbeats 4000000 in
set_option maxRecDepth 100000 in
theorem c10_see (l : Launch) (D : va_G) (cs : xE) (o_x : Nat) (a_x : Nat → Nat) (a_t : Nat → Nat) (a_v : Nat → Nat) (s_x : St) (s_t : St) (s_v : St) (sz : Nat) (x1 : Int32) (x2 : Int32) (x3 : Bool) (res : Int32 × St × St) (hf : f10_see s_x s_t s_v x1 x2 x3 = some (.inl res)) : Met l yX10_see (Cond.code yX10_see cX10_see 4 (some .int) :: WG) { frames := 7, cells := 0, slots := 0, locals := 111 } (va_Pc [.ref o_x, .int x1, .int x2, .int (zB x3)] (mP D cs (List.flatten [w10 cs o_x a_x s_x, w9 cs (a_x 2) a_t s_t, w8 cs (a_x 4) a_v s_v]) sz)) (qI D cs res.1 (List.flatten [w10 cs o_x a_x res.2.1, w9 cs (a_x 2) a_t s_t, w8 cs (a_x 4) a_v res.2.2]) (va_A (List.flatten [w10 cs o_x a_x s_x, w9 cs (a_x 2) a_t s_t, w8 cs (a_x 4) a_v s_v]) sz)) 0 0 (va_A (List.flatten [w10 cs o_x a_x s_x, w9 cs (a_x 2) a_t s_t, w8 cs (a_x 4) a_v s_v]) sz) := by
  refine mgo (Qc := qI D cs res.1 (List.flatten [w10 cs o_x a_x res.2.1, w9 cs (a_x 2) a_t s_t, w8 cs (a_x 4) a_v res.2.2])) (cc := cX10_see) (maxL := 4) (ret := (some .int)) (by decide) rfl (Nat.le_of_ble_eq_true rfl) ?_
  intro p e s m below meth c ls A R Q args H hR hQ hx hb hml hr hlocks hown hts hP hK hD hA hS hG hl
  have hown : s.vm.findClass RX10 = some m.cls := hown
  have hl : lv_has ls 4 [(0, .ref o_x), (1, .int x1), (2, .int x2), (3, .int (zB x3))] := hl
  have hW : ∀ w ∈ WG, w.before args s = true := fun w h => hts w (List.mem_cons_of_mem _ h)
  have htX10 : ∀ w ∈ u_ws RX10 TX10 14, w.before args s = true := fun w h => hW w (inW_X10 w h)
  have htX8 : ∀ w ∈ u_ws RX8 TX8 4, w.before args s = true := fun w h => hW w (inW_X8 w h)
  unfold f10_see at hf
  refine lv_aload_n hx hb dX10_see_0 rfl (lv_at hl 0 rfl) ?_
  refine lv_iload_n hx hb dX10_see_1 rfl (lv_at hl 1 rfl) ?_
  obtain ⟨q1, eq1, hf⟩ := xB_l hf
  refine mcVv (rest := []) (Bn := [w10 cs o_x a_x s_x, w9 cs (a_x 2) a_t s_t, w8 cs (a_x 4) a_v s_v]) (isR := [2]) (isC := [0, 1]) (i0 := 0) ⟨hx, hb, hml, hown, hts⟩ hK hP hD hS hA hG (c10_needLamp l D cs o_x a_x a_t s_x s_t H.size x1 _ eq1) (cwV 1 hts (gV wd952 wd954 wd26 wd105 wd955) rfl rfl rfl (by decide +kernel) ⟨by rw [hR]; exact Nat.le_of_ble_eq_true rfl, by rw [hR]; exact Nat.le_of_ble_eq_true rfl⟩) 3 (by decide) rfl rfl rfl rfl rfl rfl rfl e10 rfl rfl rfl hl.1 rfl (Nat.le_of_ble_eq_true rfl) ⟨Nat.zero_le _, Nat.zero_le _⟩ dX10_see_2 (fun H locs hP hD hS => ?_)
  have hf := wI_l hf
  refine lv_iload_n hx hb dX10_see_5 rfl (lv_at hl 2 rfl) ?_
  refine lv_iconst (v := 1) hx hb dX10_see_6 (by decide) ?_
  refine lv_icmp_lt (tgt := 28) hx hb dX10_see_7 (by decide) (fun hc => ?_) (fun hc => ?_)
  · have hf := ifp hc hf
    refine lv_aload_n hx hb dX10_see_28 rfl (lv_at hl 0 rfl) ?_
    refine lv_iconst (v := 2) hx hb dX10_see_29 (by decide) ?_
    obtain ⟨q2, eq2, hf⟩ := bnd hf
    refine mcVi (v := q2.1) (rest := []) (Bn := [w10 cs o_x a_x q2.2, w9 cs (a_x 2) a_t s_t, w8 cs (a_x 4) a_v s_v]) (isR := [1, 2]) (isC := [0]) (i0 := 0) ⟨hx, hb, hml, hown, hts⟩ hK hP hD hS hA hG (c10_refuse l D cs o_x a_x s_x H.size (2 : Int32) _ eq2) (cwV 1 hts (gV wd487 wd489 wd0 wd105 wd490) rfl rfl rfl (by decide +kernel) ⟨by rw [hR]; exact Nat.le_of_ble_eq_true rfl, by rw [hR]; exact Nat.le_of_ble_eq_true rfl⟩) 3 (by decide) rfl rfl rfl rfl rfl rfl rfl e10 rfl rfl rfl hl.1 rfl (Nat.le_of_ble_eq_true rfl) ⟨Nat.zero_le _, Nat.zero_le _⟩ dX10_see_30 (fun H locs hP hD hS => ?_)
    obtain rfl := Option.some.inj hf
    exact mretI hx hb hr hlocks hK hP hD hS rfl hQ dX10_see_33
  · have hf := ifn hc hf
    refine lv_iload_n hx hb dX10_see_10 rfl (lv_at hl 2 rfl) ?_
    refine lv_bipush (v := 48) hx hb dX10_see_11 (by decide) ?_
    refine lv_icmp_gt (tgt := 28) hx hb dX10_see_13 (by decide) (fun hc => ?_) (fun hc => ?_)
    · have hf := ifp hc hf
      refine lv_aload_n hx hb dX10_see_28 rfl (lv_at hl 0 rfl) ?_
      refine lv_iconst (v := 2) hx hb dX10_see_29 (by decide) ?_
      obtain ⟨q3, eq3, hf⟩ := bnd hf
      refine mcVi (v := q3.1) (rest := []) (Bn := [w10 cs o_x a_x q3.2, w9 cs (a_x 2) a_t s_t, w8 cs (a_x 4) a_v s_v]) (isR := [1, 2]) (isC := [0]) (i0 := 0) ⟨hx, hb, hml, hown, hts⟩ hK hP hD hS hA hG (c10_refuse l D cs o_x a_x s_x H.size (2 : Int32) _ eq3) (cwV 1 hts (gV wd487 wd489 wd0 wd105 wd490) rfl rfl rfl (by decide +kernel) ⟨by rw [hR]; exact Nat.le_of_ble_eq_true rfl, by rw [hR]; exact Nat.le_of_ble_eq_true rfl⟩) 3 (by decide) rfl rfl rfl rfl rfl rfl rfl e10 rfl rfl rfl hl.1 rfl (Nat.le_of_ble_eq_true rfl) ⟨Nat.zero_le _, Nat.zero_le _⟩ dX10_see_30 (fun H locs hP hD hS => ?_)
      obtain rfl := Option.some.inj hf
      exact mretI hx hb hr hlocks hK hP hD hS rfl hQ dX10_see_33
    · have hf := ifn hc hf
      refine lv_aload_n hx hb dX10_see_16 rfl (lv_at hl 0 rfl) ?_
      refine gfB (i0 := 0) (own := RX10) (T := TX10) (k := 4) (v := .ref (a_x 4)) hx hb htX10 hown hK hP rfl e10 rfl (by decide) (hW _ wd432) rfl dX10_see_17 ?_
      refine gfB (i0 := 2) (own := RX10) (T := TX8) (k := 0) (v := .int (s_v.1 0)) hx hb htX8 hown hK hP rfl e8 rfl (by decide) (hW _ wd296) rfl dX10_see_20 ?_
      refine lv_bipush (v := 8) hx hb dX10_see_23 (by decide) ?_
      refine lv_icmp_lt (tgt := 34) hx hb dX10_see_25 (by decide) (fun hc => ?_) (fun hc => ?_)
      · have hf := ifp hc hf
        refine lv_aload_n hx hb dX10_see_34 rfl (lv_at hl 0 rfl) ?_
        refine gfB (i0 := 0) (own := RX10) (T := TX10) (k := 4) (v := .ref (a_x 4)) hx hb htX10 hown hK hP rfl e10 rfl (by decide) (hW _ wd432) rfl dX10_see_35 ?_
        refine lv_iload_n hx hb dX10_see_38 rfl (lv_at hl 1 rfl) ?_
        refine lv_iload_n hx hb dX10_see_39 rfl (lv_at hl 2 rfl) ?_
        refine lv_iload_n hx hb dX10_see_40 rfl (lv_at hl 3 rfl) ?_
        obtain ⟨q4, eq4, hf⟩ := bnd hf
        refine mcVv (rest := []) (Bn := [w10 cs o_x a_x s_x, w9 cs (a_x 2) a_t s_t, w8 cs (a_x 4) a_v q4]) (isR := [0, 1]) (isC := [2]) (i0 := 2) ⟨hx, hb, hml, hown, hts⟩ hK hP hD hS hA hG (c8_add l D cs (a_x 4) a_v s_v H.size x1 x2 x3 _ eq4) (cwV 3 hts (gV wd1207 wd1208 wd1209 wd110 wd1210) rfl rfl rfl (by decide +kernel) ⟨by rw [hR]; exact Nat.le_of_ble_eq_true rfl, by rw [hR]; exact Nat.le_of_ble_eq_true rfl⟩) 3 (by decide) rfl rfl rfl rfl rfl rfl rfl e8 rfl rfl rfl hl.1 rfl (Nat.le_of_ble_eq_true rfl) ⟨Nat.zero_le _, Nat.zero_le _⟩ dX10_see_41 (fun H locs hP hD hS => ?_)
        refine lv_aload_n hx hb dX10_see_44 rfl (lv_at hl 0 rfl) ?_
        refine gfB (i0 := 0) (own := RX10) (T := TX10) (k := 4) (v := .ref (a_x 4)) hx hb htX10 hown hK hP rfl e10 rfl (by decide) (hW _ wd432) rfl dX10_see_45 ?_
        refine gfB (i0 := 2) (own := RX10) (T := TX8) (k := 0) (v := .int (q4.1 0)) hx hb htX8 hown hK hP rfl e8 rfl (by decide) (hW _ wd296) rfl dX10_see_48 ?_
        obtain rfl := Option.some.inj hf
        exact mretI hx hb hr hlocks hK hP hD hS rfl hQ dX10_see_51
      · have hf := ifn hc hf
        refine lv_aload_n hx hb dX10_see_28 rfl (lv_at hl 0 rfl) ?_
        refine lv_iconst (v := 2) hx hb dX10_see_29 (by decide) ?_
        obtain ⟨q5, eq5, hf⟩ := bnd hf
        refine mcVi (v := q5.1) (rest := []) (Bn := [w10 cs o_x a_x q5.2, w9 cs (a_x 2) a_t s_t, w8 cs (a_x 4) a_v s_v]) (isR := [1, 2]) (isC := [0]) (i0 := 0) ⟨hx, hb, hml, hown, hts⟩ hK hP hD hS hA hG (c10_refuse l D cs o_x a_x s_x H.size (2 : Int32) _ eq5) (cwV 1 hts (gV wd487 wd489 wd0 wd105 wd490) rfl rfl rfl (by decide +kernel) ⟨by rw [hR]; exact Nat.le_of_ble_eq_true rfl, by rw [hR]; exact Nat.le_of_ble_eq_true rfl⟩) 3 (by decide) rfl rfl rfl rfl rfl rfl rfl e10 rfl rfl rfl hl.1 rfl (Nat.le_of_ble_eq_true rfl) ⟨Nat.zero_le _, Nat.zero_le _⟩ dX10_see_30 (fun H locs hP hD hS => ?_)
        obtain rfl := Option.some.inj hf
        exact mretI hx hb hr hlocks hK hP hD hS rfl hQ dX10_see_33
set_option maxHeartbeats 4000000 in
set_option maxRecDepth 100000 in
theorem c10x_see (l : Launch) (D : va_G) (cs : xE) (hl0 : l.stackTraces = false) (o_x : Nat) (a_x : Nat → Nat) (a_t : Nat → Nat) (a_v : Nat → Nat) (s_x : St) (s_t : St) (s_v : St) (sz : Nat) (x1 : Int32) (x2 : Int32) (x3 : Bool) (k : Nat) (hf : f10_see s_x s_t s_v x1 x2 x3 = some (.inr k)) : vx_Met l yX10_see (Cond.code yX10_see cX10_see 4 (some .int) :: WG) { frames := 7, cells := 1, slots := 6, locals := 111 } (va_Pc [.ref o_x, .int x1, .int x2, .int (zB x3)] (mP D cs (List.flatten [w10 cs o_x a_x s_x, w9 cs (a_x 2) a_t s_t, w8 cs (a_x 4) a_v s_v]) sz)) (fun _ _ _ _ => False) (qX D cs k (List.flatten [w10 cs o_x a_x s_x, w9 cs (a_x 2) a_t s_t, w8 cs (a_x 4) a_v s_v]) (va_A (List.flatten [w10 cs o_x a_x s_x, w9 cs (a_x 2) a_t s_t, w8 cs (a_x 4) a_v s_v]) sz)) 1 6 (va_A (List.flatten [w10 cs o_x a_x s_x, w9 cs (a_x 2) a_t s_t, w8 cs (a_x 4) a_v s_v]) sz) := by
  refine mgoX (cc := cX10_see) (maxL := 4) (ret := (some .int)) (by decide) rfl (Nat.le_of_ble_eq_true rfl) ?_
  intro p e s m below meth c ls A R Q args H hR hQ hno hx hb hml hr hlocks hown hts hP hK hD hA hS hG hl
  have hown : s.vm.findClass RX10 = some m.cls := hown
  have hl : lv_has ls 4 [(0, .ref o_x), (1, .int x1), (2, .int x2), (3, .int (zB x3))] := hl
  have hW : ∀ w ∈ WG, w.before args s = true := fun w h => hts w (List.mem_cons_of_mem _ h)
  have htX10 : ∀ w ∈ u_ws RX10 TX10 14, w.before args s = true := fun w h => hW w (inW_X10 w h)
  have htX8 : ∀ w ∈ u_ws RX8 TX8 4, w.before args s = true := fun w h => hW w (inW_X8 w h)
  unfold f10_see at hf
  refine lv_aload_n hx hb dX10_see_0 rfl (lv_at hl 0 rfl) ?_
  refine lv_iload_n hx hb dX10_see_1 rfl (lv_at hl 1 rfl) ?_
  rcases xB_r hf with xq1 | ⟨q1, eq1, hf⟩
  · exact mxV (rest := []) (isR := [2]) (isC := [0, 1]) (i0 := 0) ⟨hx, hb, hml, hown, hts⟩ hK hP hD hS hA hG (c10x_needLamp l D cs hl0 o_x a_x a_t s_x s_t H.size x1 _ xq1) (cwV 1 hts (gV wd952 wd954 wd26 wd105 wd955) rfl rfl rfl (by decide +kernel) ⟨by rw [hR]; exact Nat.le_of_ble_eq_true rfl, by rw [hR]; exact Nat.le_of_ble_eq_true rfl⟩) 3 (by decide) rfl rfl rfl rfl e10 rfl rfl rfl hl.1 rfl (Nat.le_of_ble_eq_true rfl) ⟨by rw [hR]; exact Nat.le_of_ble_eq_true rfl, by rw [hR]; exact Nat.le_of_ble_eq_true rfl⟩ dX10_see_2 hno hlocks hQ
  refine mcVv (rest := []) (Bn := [w10 cs o_x a_x s_x, w9 cs (a_x 2) a_t s_t, w8 cs (a_x 4) a_v s_v]) (isR := [2]) (isC := [0, 1]) (i0 := 0) ⟨hx, hb, hml, hown, hts⟩ hK hP hD hS hA hG (c10_needLamp l D cs o_x a_x a_t s_x s_t H.size x1 _ eq1) (cwV 1 hts (gV wd952 wd954 wd26 wd105 wd955) rfl rfl rfl (by decide +kernel) ⟨by rw [hR]; exact Nat.le_of_ble_eq_true rfl, by rw [hR]; exact Nat.le_of_ble_eq_true rfl⟩) 3 (by decide) rfl rfl rfl rfl rfl rfl rfl e10 rfl rfl rfl hl.1 rfl (Nat.le_of_ble_eq_true rfl) ⟨Nat.zero_le _, Nat.zero_le _⟩ dX10_see_2 (fun H locs hP hD hS => ?_)
  exact (wI_r hf).elim
/-! TwinLamps.isAllSeenSo -/
noncomputable def f10_isAllSeenSo_L2 (s_v : St) (q1 : Int32) (v3 : Int32 × St × St × St) : Option ((Int32 × St × St × St) ⊕ ((St × St × St) ⊕ (St × St × St))) :=
  if q1 < v3.1 then some (.inr (.inr (v3.2.1, v3.2.2.1, v3.2.2.2))) else (f2_passHour v3.2.2.1 v3.2.2.2 v3.2.1).bind fun q4 =>
  (f8_agree s_v v3.1 (q4.1.1 0)).bind fun q5 =>
  if (zB q5) = 0 then some (.inr (.inl (q4.2.2, q4.1, q4.2.1))) else some (.inl ((v3.1 + 1), q4.2.2, q4.1, q4.2.1))
noncomputable def f10_isAllSeenSo (s_x : St) (s_t2 : St) (s_e : St) (s_g : St) (s_v : St) : Option (Bool × St × St × St) :=
  (f8_lastHour s_v).bind fun q1 =>
  (lpw (f10_isAllSeenSo_L2 s_v q1) (1, s_t2, s_e, s_g)).bind fun q2 =>
  match q2 with
  | .inl r2_0 => (some (false, r2_0.1, r2_0.2.1, r2_0.2.2))
  | .inr r2_1 => (some (true, r2_1.1, r2_1.2.1, r2_1.2.2))
set_option maxHeartbeats 4000000 in
set_option maxRecDepth 100000 in
theorem c10_isAllSeenSo (l : Launch) (D : va_G) (cs : xE) (o_x : Nat) (a_x : Nat → Nat) (a_t2 : Nat → Nat) (a_g : Nat → Nat) (a_v : Nat → Nat) (s_x : St) (s_t2 : St) (s_e : St) (s_g : St) (s_v : St) (sz : Nat) (res : Bool × St × St × St) (hf : f10_isAllSeenSo s_x s_t2 s_e s_g s_v = some res) : Met l yX10_isAllSeenSo (Cond.code yX10_isAllSeenSo cX10_isAllSeenSo 3 (some .boolean) :: WG) { frames := 4, cells := 0, slots := 0, locals := 92 } (va_Pc [.ref o_x] (mP D cs (List.flatten [w10 cs o_x a_x s_x, w9 cs (a_x 9) a_t2 s_t2, w2 cs (a_x 8) a0n s_e, w7 cs (a_x 1) a_g s_g, w8 cs (a_x 4) a_v s_v]) sz)) (qI D cs (zB res.1) (List.flatten [w10 cs o_x a_x s_x, w9 cs (a_x 9) a_t2 res.2.1, w2 cs (a_x 8) a0n res.2.2.1, w7 cs (a_x 1) a_g res.2.2.2, w8 cs (a_x 4) a_v s_v]) (va_A (List.flatten [w10 cs o_x a_x s_x, w9 cs (a_x 9) a_t2 s_t2, w2 cs (a_x 8) a0n s_e, w7 cs (a_x 1) a_g s_g, w8 cs (a_x 4) a_v s_v]) sz)) 0 0 (va_A (List.flatten [w10 cs o_x a_x s_x, w9 cs (a_x 9) a_t2 s_t2, w2 cs (a_x 8) a0n s_e, w7 cs (a_x 1) a_g s_g, w8 cs (a_x 4) a_v s_v]) sz) := by
  refine mgo (Qc := qI D cs (zB res.1) (List.flatten [w10 cs o_x a_x s_x, w9 cs (a_x 9) a_t2 res.2.1, w2 cs (a_x 8) a0n res.2.2.1, w7 cs (a_x 1) a_g res.2.2.2, w8 cs (a_x 4) a_v s_v])) (cc := cX10_isAllSeenSo) (maxL := 3) (ret := (some .boolean)) (by decide) rfl (Nat.le_of_ble_eq_true rfl) ?_
  intro p e s m below meth c ls A R Q args H hR hQ hx hb hml hr hlocks hown hts hP hK hD hA hS hG hl
  have hown : s.vm.findClass RX10 = some m.cls := hown
  have hl : lv_has ls 3 [(0, .ref o_x)] := hl
  have hW : ∀ w ∈ WG, w.before args s = true := fun w h => hts w (List.mem_cons_of_mem _ h)
  have htX10 : ∀ w ∈ u_ws RX10 TX10 14, w.before args s = true := fun w h => hW w (inW_X10 w h)
  have htX2 : ∀ w ∈ u_ws RX2 TX2 5, w.before args s = true := fun w h => hW w (inW_X2 w h)
  unfold f10_isAllSeenSo at hf
  refine lv_aload_n hx hb dX10_isAllSeenSo_0 rfl (lv_at hl 0 rfl) ?_
  refine gfB (i0 := 0) (own := RX10) (T := TX10) (k := 4) (v := .ref (a_x 4)) hx hb htX10 hown hK hP rfl e10 rfl (by decide) (hW _ wd432) rfl dX10_isAllSeenSo_1 ?_
  obtain ⟨q1, eq1, hf⟩ := bnd hf
  refine mcVi (v := q1) (rest := []) (Bn := [w10 cs o_x a_x s_x, w9 cs (a_x 9) a_t2 s_t2, w2 cs (a_x 8) a0n s_e, w7 cs (a_x 1) a_g s_g, w8 cs (a_x 4) a_v s_v]) (isR := [0, 1, 2, 3]) (isC := [4]) (i0 := 4) ⟨hx, hb, hml, hown, hts⟩ hK hP hD hS hA hG (c8_lastHour l D cs (a_x 4) a_v s_v H.size _ eq1) (cwV 0 hts (gV wd1222 wd1223 wd1224 wd110 wd1225) rfl rfl rfl (by decide +kernel) ⟨by rw [hR]; exact Nat.le_of_ble_eq_true rfl, by rw [hR]; exact Nat.le_of_ble_eq_true rfl⟩) 5 (by decide) rfl rfl rfl rfl rfl rfl rfl e8 rfl rfl rfl hl.1 rfl (Nat.le_of_ble_eq_true rfl) ⟨Nat.zero_le _, Nat.zero_le _⟩ dX10_isAllSeenSo_4 (fun H locs hP hD hS => ?_)
  refine lv_istore_n (lv' := [(1, .int q1), (0, .ref o_x)]) hx hb dX10_isAllSeenSo_7 rfl hl (by decide) rfl (fun ls hl => ?_)
  refine lv_iconst (v := 1) hx hb dX10_isAllSeenSo_8 (by decide) ?_
  refine lv_istore_n (lv' := [(2, .int 1), (1, .int q1), (0, .ref o_x)]) hx hb dX10_isAllSeenSo_9 rfl hl (by decide) rfl (fun ls hl => ?_)
  obtain ⟨q2, hq2, hf⟩ := bnd hf
  obtain ⟨n2, hq2⟩ := lpw_ex hq2
  have Jq2_0 : ∀ rr2_0 : St × St × St, q2 = (.inl rr2_0) → ∀ (H : Heap) (locs : List Loc) (ls : Array Slot), va_P D vwCl (List.flatten [w10 cs o_x a_x s_x, w9 cs (a_x 9) a_t2 rr2_0.1, w2 cs (a_x 8) a0n rr2_0.2.1, w7 cs (a_x 1) a_g rr2_0.2.2, w8 cs (a_x 4) a_v s_v]) H → va_D A (List.flatten [w10 cs o_x a_x s_x, w9 cs (a_x 9) a_t2 rr2_0.1, w2 cs (a_x 8) a0n rr2_0.2.1, w7 cs (a_x 1) a_g rr2_0.2.2, w8 cs (a_x 4) a_v s_v]) → va_S A s.heap H locs → lv_has ls 3 [] → W p l e R s m args below meth c H locs 0 0 Q (F0 m 48 ls []) := by
    intro r2_0 eq2 H locs ls hP hD hS hl
    subst eq2
    try dsimp only at hf
    refine lv_iconst (v := 0) hx hb dX10_isAllSeenSo_48 (by decide) ?_
    obtain rfl := Option.some.inj hf
    exact mretZ hx hb hr hlocks hK hP hD hS rfl hQ dX10_isAllSeenSo_49
  have Jq2_1 : ∀ rr2_1 : St × St × St, q2 = (.inr rr2_1) → ∀ (H : Heap) (locs : List Loc) (ls : Array Slot), va_P D vwCl (List.flatten [w10 cs o_x a_x s_x, w9 cs (a_x 9) a_t2 rr2_1.1, w2 cs (a_x 8) a0n rr2_1.2.1, w7 cs (a_x 1) a_g rr2_1.2.2, w8 cs (a_x 4) a_v s_v]) H → va_D A (List.flatten [w10 cs o_x a_x s_x, w9 cs (a_x 9) a_t2 rr2_1.1, w2 cs (a_x 8) a0n rr2_1.2.1, w7 cs (a_x 1) a_g rr2_1.2.2, w8 cs (a_x 4) a_v s_v]) → va_S A s.heap H locs → lv_has ls 3 [] → W p l e R s m args below meth c H locs 0 0 Q (F0 m 56 ls []) := by
    intro r2_1 eq2 H locs ls hP hD hS hl
    subst eq2
    try dsimp only at hf
    refine lv_iconst (v := 1) hx hb dX10_isAllSeenSo_56 (by decide) ?_
    obtain rfl := Option.some.inj hf
    exact mretZ hx hb hr hlocks hK hP hD hS rfl hQ dX10_isAllSeenSo_57
  clear hf
  have L2 : ∀ n2, ∀ v3 : Int32 × St × St × St, lp n2 (f10_isAllSeenSo_L2 s_v q1) v3 = some q2 → ∀ (H : Heap) (locs : List Loc) (ls : Array Slot), va_P D vwCl (List.flatten [w10 cs o_x a_x s_x, w9 cs (a_x 9) a_t2 v3.2.1, w2 cs (a_x 8) a0n v3.2.2.1, w7 cs (a_x 1) a_g v3.2.2.2, w8 cs (a_x 4) a_v s_v]) H → va_D A (List.flatten [w10 cs o_x a_x s_x, w9 cs (a_x 9) a_t2 v3.2.1, w2 cs (a_x 8) a0n v3.2.2.1, w7 cs (a_x 1) a_g v3.2.2.2, w8 cs (a_x 4) a_v s_v]) → va_S A s.heap H locs → lv_has ls 3 [(0, .ref o_x), (1, .int q1), (2, .int v3.1)] → W p l e R s m args below meth c H locs 0 0 Q (F0 m 10 ls []) := by
    intro n2
    induction n2 with
    | zero => intro v3 hn; cases hn
    | succ n2 ih2 =>
      intro v3 hn2 H locs ls hP hD hS hl
      obtain ⟨y2, hf, hn2⟩ := lp_succ hn2
      unfold f10_isAllSeenSo_L2 at hf
      refine lv_iload_n hx hb dX10_isAllSeenSo_10 rfl (lv_at hl 2 rfl) ?_
      refine lv_iload_n hx hb dX10_isAllSeenSo_11 rfl (lv_at hl 1 rfl) ?_
      refine lv_icmp_gt (tgt := 56) hx hb dX10_isAllSeenSo_12 (by decide) (fun hc => ?_) (fun hc => ?_)
      · have hf := ifp hc hf
        cases hf
        exact Jq2_1 _ (Option.some.inj hn2).symm _ _ _ hP hD hS (lv_sub hl [] rfl)
      · have hf := ifn hc hf
        refine lv_aload_n hx hb dX10_isAllSeenSo_15 rfl (lv_at hl 0 rfl) ?_
        refine gfB (i0 := 0) (own := RX10) (T := TX10) (k := 8) (v := .ref (a_x 8)) hx hb htX10 hown hK hP rfl e10 rfl (by decide) (hW _ wd436) rfl dX10_isAllSeenSo_16 ?_
        refine lv_aload_n hx hb dX10_isAllSeenSo_19 rfl (lv_at hl 0 rfl) ?_
        refine gfB (i0 := 0) (own := RX10) (T := TX10) (k := 1) (v := .ref (a_x 1)) hx hb htX10 hown hK hP rfl e10 rfl (by decide) (hW _ wd429) rfl dX10_isAllSeenSo_20 ?_
        refine lv_aload_n hx hb dX10_isAllSeenSo_23 rfl (lv_at hl 0 rfl) ?_
        refine gfB (i0 := 0) (own := RX10) (T := TX10) (k := 9) (v := .ref (a_x 9)) hx hb htX10 hown hK hP rfl e10 rfl (by decide) (hW _ wd437) rfl dX10_isAllSeenSo_24 ?_
        obtain ⟨q4, eq4, hf⟩ := bnd hf
        refine mcVv (rest := []) (Bn := [w10 cs o_x a_x s_x, w9 cs (a_x 9) a_t2 q4.2.2, w2 cs (a_x 8) a0n q4.1, w7 cs (a_x 1) a_g q4.2.1, w8 cs (a_x 4) a_v s_v]) (isR := [0, 4]) (isC := [2, 3, 1]) (i0 := 2) ⟨hx, hb, hml, hown, hts⟩ hK hP hD hS hA hG (c2_passHour l D cs (a_x 8) (a_x 1) a_g (a_x 9) a_t2 v3.2.2.1 v3.2.2.2 v3.2.1 H.size _ eq4) (cwV 2 hts (gV wd506 wd507 wd508 wd112 wd509) rfl rfl rfl (by decide +kernel) ⟨by rw [hR]; exact Nat.le_of_ble_eq_true rfl, by rw [hR]; exact Nat.le_of_ble_eq_true rfl⟩) 5 (by decide) rfl rfl rfl rfl rfl rfl rfl e2 rfl rfl rfl hl.1 rfl (Nat.le_of_ble_eq_true rfl) ⟨Nat.zero_le _, Nat.zero_le _⟩ dX10_isAllSeenSo_27 (fun H locs hP hD hS => ?_)
        refine lv_aload_n hx hb dX10_isAllSeenSo_30 rfl (lv_at hl 0 rfl) ?_
        refine gfB (i0 := 0) (own := RX10) (T := TX10) (k := 4) (v := .ref (a_x 4)) hx hb htX10 hown hK hP rfl e10 rfl (by decide) (hW _ wd432) rfl dX10_isAllSeenSo_31 ?_
        refine lv_iload_n hx hb dX10_isAllSeenSo_34 rfl (lv_at hl 2 rfl) ?_
        refine lv_aload_n hx hb dX10_isAllSeenSo_35 rfl (lv_at hl 0 rfl) ?_
        refine gfB (i0 := 0) (own := RX10) (T := TX10) (k := 8) (v := .ref (a_x 8)) hx hb htX10 hown hK hP rfl e10 rfl (by decide) (hW _ wd436) rfl dX10_isAllSeenSo_36 ?_
        refine gfB (i0 := 2) (own := RX10) (T := TX2) (k := 0) (v := .int (q4.1.1 0)) hx hb htX2 hown hK hP rfl e2 rfl (by decide) (hW _ wd348) rfl dX10_isAllSeenSo_39 ?_
        obtain ⟨q5, eq5, hf⟩ := bnd hf
        refine mcVi (v := (zB q5)) (rest := []) (Bn := [w10 cs o_x a_x s_x, w9 cs (a_x 9) a_t2 q4.2.2, w2 cs (a_x 8) a0n q4.1, w7 cs (a_x 1) a_g q4.2.1, w8 cs (a_x 4) a_v s_v]) (isR := [0, 1, 2, 3]) (isC := [4]) (i0 := 4) ⟨hx, hb, hml, hown, hts⟩ hK hP hD hS hA hG (c8_agree l D cs (a_x 4) a_v s_v H.size v3.1 (q4.1.1 0) _ eq5) (cwV 2 hts (gV wd1229 wd1230 wd1231 wd110 wd1232) rfl rfl rfl (by decide +kernel) ⟨by rw [hR]; exact Nat.le_of_ble_eq_true rfl, by rw [hR]; exact Nat.le_of_ble_eq_true rfl⟩) 5 (by decide) rfl rfl rfl rfl rfl rfl rfl e8 rfl rfl rfl hl.1 rfl (Nat.le_of_ble_eq_true rfl) ⟨Nat.zero_le _, Nat.zero_le _⟩ dX10_isAllSeenSo_42 (fun H locs hP hD hS => ?_)
        refine lv_if_ne (tgt := 50) hx hb dX10_isAllSeenSo_45 (by decide) (fun hc => ?_) (fun hc => ?_)
        · have hf := ifn hc hf
          refine lv_iinc (v := (v3.1 + 1)) (lv' := [(2, .int (v3.1 + 1)), (0, .ref o_x), (1, .int q1)]) hx hb dX10_isAllSeenSo_50 hl (k := 2) rfl rfl (by decide) rfl (fun ls hl => ?_)
          refine lv_goto (tgt := 10) hx hb dX10_isAllSeenSo_53 (by decide) ?_
          cases hf
          exact ih2 _ hn2 _ _ _ hP hD hS (lv_sub hl [1, 2, 0] rfl)
        · have hf := ifp hc hf
          cases hf
          exact Jq2_0 _ (Option.some.inj hn2).symm _ _ _ hP hD hS (lv_sub hl [] rfl)
  exact L2 _ _ hq2 _ _ _ hP hD hS (lv_sub hl [2, 1, 0] rfl)
/-! TwinLamps.changesThatFit -/
noncomputable def f10_changesThatFit_L1 (s_x : St) (s_t : St) (s_v : St) (x1 : Int32) (v2 : Int32 × Int32 × St × St × St) : Option ((Int32 × Int32 × St × St × St) ⊕ (Int32 × St × St × St)) :=
  if (s_t.1 1) ≤ v2.2.1 then some (.inr (v2.1, v2.2.2.1, v2.2.2.2.1, v2.2.2.2.2)) else (f9_canChangeTwins s_t x1 v2.2.1).bind fun q3 =>
  ((if (zB q3) = 0 then some (v2.1, v2.2.2.1, v2.2.2.2.1, v2.2.2.2.2) else (f9_copyFrom v2.2.2.1 s_t).bind fun q5 =>
  (f9_changeTwins q5 x1 v2.2.1).bind fun q6 =>
  (f10_isAllSeenSo s_x q6 v2.2.2.2.1 v2.2.2.2.2 s_v).bind fun q7 =>
  if (zB q7.1) = 0 then some (v2.1, q7.2.1, q7.2.2.1, q7.2.2.2) else some ((v2.1 ||| ((1 : Int32) <<< (v2.2.1 &&& 31))), q7.2.1, q7.2.2.1, q7.2.2.2) : Option (Int32 × St × St × St))).bind fun q4 =>
  some (.inl (q4.1, (v2.2.1 + 1), q4.2.1, q4.2.2.1, q4.2.2.2))
noncomputable def f10_changesThatFit (s_x : St) (s_t : St) (s_t2 : St) (s_e : St) (s_g : St) (s_v : St) (x1 : Int32) : Option (Int32 × St × St × St) :=
  (lpw (f10_changesThatFit_L1 s_x s_t s_v x1) (0, 0, s_t2, s_e, s_g)).bind fun q1 =>
  some (q1.1, q1.2.1, q1.2.2.1, q1.2.2.2)
set_option maxHeartbeats 4000000 in
set_option maxRecDepth 100000 in
theorem c10_changesThatFit (l : Launch) (D : va_G) (cs : xE) (o_x : Nat) (a_x : Nat → Nat) (a_t : Nat → Nat) (a_t2 : Nat → Nat) (a_g : Nat → Nat) (a_v : Nat → Nat) (s_x : St) (s_t : St) (s_t2 : St) (s_e : St) (s_g : St) (s_v : St) (sz : Nat) (x1 : Int32) (res : Int32 × St × St × St) (hf : f10_changesThatFit s_x s_t s_t2 s_e s_g s_v x1 = some res) : Met l yX10_changesThatFit (Cond.code yX10_changesThatFit cX10_changesThatFit 4 (some .int) :: WG) { frames := 5, cells := 0, slots := 0, locals := 114 } (va_Pc [.ref o_x, .int x1] (mP D cs (List.flatten [w10 cs o_x a_x s_x, w9 cs (a_x 2) a_t s_t, w9 cs (a_x 9) a_t2 s_t2, w2 cs (a_x 8) a0n s_e, w7 cs (a_x 1) a_g s_g, w8 cs (a_x 4) a_v s_v]) sz)) (qI D cs res.1 (List.flatten [w10 cs o_x a_x s_x, w9 cs (a_x 2) a_t s_t, w9 cs (a_x 9) a_t2 res.2.1, w2 cs (a_x 8) a0n res.2.2.1, w7 cs (a_x 1) a_g res.2.2.2, w8 cs (a_x 4) a_v s_v]) (va_A (List.flatten [w10 cs o_x a_x s_x, w9 cs (a_x 2) a_t s_t, w9 cs (a_x 9) a_t2 s_t2, w2 cs (a_x 8) a0n s_e, w7 cs (a_x 1) a_g s_g, w8 cs (a_x 4) a_v s_v]) sz)) 0 0 (va_A (List.flatten [w10 cs o_x a_x s_x, w9 cs (a_x 2) a_t s_t, w9 cs (a_x 9) a_t2 s_t2, w2 cs (a_x 8) a0n s_e, w7 cs (a_x 1) a_g s_g, w8 cs (a_x 4) a_v s_v]) sz) := by
  refine mgo (Qc := qI D cs res.1 (List.flatten [w10 cs o_x a_x s_x, w9 cs (a_x 2) a_t s_t, w9 cs (a_x 9) a_t2 res.2.1, w2 cs (a_x 8) a0n res.2.2.1, w7 cs (a_x 1) a_g res.2.2.2, w8 cs (a_x 4) a_v s_v])) (cc := cX10_changesThatFit) (maxL := 4) (ret := (some .int)) (by decide) rfl (Nat.le_of_ble_eq_true rfl) ?_
  intro p e s m below meth c ls A R Q args H hR hQ hx hb hml hr hlocks hown hts hP hK hD hA hS hG hl
  have hown : s.vm.findClass RX10 = some m.cls := hown
  have hl : lv_has ls 4 [(0, .ref o_x), (1, .int x1)] := hl
  have hW : ∀ w ∈ WG, w.before args s = true := fun w h => hts w (List.mem_cons_of_mem _ h)
  have htX10 : ∀ w ∈ u_ws RX10 TX10 14, w.before args s = true := fun w h => hW w (inW_X10 w h)
  have htX9 : ∀ w ∈ u_ws RX9 TX9 11, w.before args s = true := fun w h => hW w (inW_X9 w h)
  unfold f10_changesThatFit at hf
  refine lv_iconst (v := 0) hx hb dX10_changesThatFit_0 (by decide) ?_
  refine lv_istore_n (lv' := [(2, .int 0), (0, .ref o_x), (1, .int x1)]) hx hb dX10_changesThatFit_1 rfl hl (by decide) rfl (fun ls hl => ?_)
  refine lv_iconst (v := 0) hx hb dX10_changesThatFit_2 (by decide) ?_
  refine lv_istore_n (lv' := [(3, .int 0), (2, .int 0), (0, .ref o_x), (1, .int x1)]) hx hb dX10_changesThatFit_3 rfl hl (by decide) rfl (fun ls hl => ?_)
  obtain ⟨q1, hq1, hf⟩ := bnd hf
  obtain ⟨n1, hq1⟩ := lpw_ex hq1
  have Jq1_0 : ∀ rr1_0 : Int32 × St × St × St, q1 = rr1_0 → ∀ (H : Heap) (locs : List Loc) (ls : Array Slot), va_P D vwCl (List.flatten [w10 cs o_x a_x s_x, w9 cs (a_x 2) a_t s_t, w9 cs (a_x 9) a_t2 rr1_0.2.1, w2 cs (a_x 8) a0n rr1_0.2.2.1, w7 cs (a_x 1) a_g rr1_0.2.2.2, w8 cs (a_x 4) a_v s_v]) H → va_D A (List.flatten [w10 cs o_x a_x s_x, w9 cs (a_x 2) a_t s_t, w9 cs (a_x 9) a_t2 rr1_0.2.1, w2 cs (a_x 8) a0n rr1_0.2.2.1, w7 cs (a_x 1) a_g rr1_0.2.2.2, w8 cs (a_x 4) a_v s_v]) → va_S A s.heap H locs → lv_has ls 4 [(2, .int rr1_0.1)] → W p l e R s m args below meth c H locs 0 0 Q (F0 m 66 ls []) := by
    intro rr1_0 eq1 H locs ls hP hD hS hl
    subst eq1
    refine lv_iload_n hx hb dX10_changesThatFit_66 rfl (lv_at hl 0 rfl) ?_
    obtain rfl := Option.some.inj hf
    exact mretI hx hb hr hlocks hK hP hD hS rfl hQ dX10_changesThatFit_67
  clear hf
  have L1 : ∀ n1, ∀ v2 : Int32 × Int32 × St × St × St, lp n1 (f10_changesThatFit_L1 s_x s_t s_v x1) v2 = some q1 → ∀ (H : Heap) (locs : List Loc) (ls : Array Slot), va_P D vwCl (List.flatten [w10 cs o_x a_x s_x, w9 cs (a_x 2) a_t s_t, w9 cs (a_x 9) a_t2 v2.2.2.1, w2 cs (a_x 8) a0n v2.2.2.2.1, w7 cs (a_x 1) a_g v2.2.2.2.2, w8 cs (a_x 4) a_v s_v]) H → va_D A (List.flatten [w10 cs o_x a_x s_x, w9 cs (a_x 2) a_t s_t, w9 cs (a_x 9) a_t2 v2.2.2.1, w2 cs (a_x 8) a0n v2.2.2.2.1, w7 cs (a_x 1) a_g v2.2.2.2.2, w8 cs (a_x 4) a_v s_v]) → va_S A s.heap H locs → lv_has ls 4 [(0, .ref o_x), (1, .int x1), (2, .int v2.1), (3, .int v2.2.1)] → W p l e R s m args below meth c H locs 0 0 Q (F0 m 4 ls []) := by
    intro n1
    induction n1 with
    | zero => intro v2 hn; cases hn
    | succ n1 ih1 =>
      intro v2 hn1 H locs ls hP hD hS hl
      obtain ⟨y1, hf, hn1⟩ := lp_succ hn1
      unfold f10_changesThatFit_L1 at hf
      refine lv_iload_n hx hb dX10_changesThatFit_4 rfl (lv_at hl 3 rfl) ?_
      refine lv_aload_n hx hb dX10_changesThatFit_5 rfl (lv_at hl 0 rfl) ?_
      refine gfB (i0 := 0) (own := RX10) (T := TX10) (k := 2) (v := .ref (a_x 2)) hx hb htX10 hown hK hP rfl e10 rfl (by decide) (hW _ wd430) rfl dX10_changesThatFit_6 ?_
      refine gfB (i0 := 1) (own := RX10) (T := TX9) (k := 1) (v := .int (s_t.1 1)) hx hb htX9 hown hK hP rfl e9 rfl (by decide) (hW _ wd155) rfl dX10_changesThatFit_9 ?_
      refine lv_icmp_ge (tgt := 66) hx hb dX10_changesThatFit_12 (by decide) (fun hc => ?_) (fun hc => ?_)
      · have hf := ifp hc hf
        cases hf
        exact Jq1_0 _ (Option.some.inj hn1).symm _ _ _ hP hD hS (lv_sub hl [2] rfl)
      · have hf := ifn hc hf
        refine lv_aload_n hx hb dX10_changesThatFit_15 rfl (lv_at hl 0 rfl) ?_
        refine gfB (i0 := 0) (own := RX10) (T := TX10) (k := 2) (v := .ref (a_x 2)) hx hb htX10 hown hK hP rfl e10 rfl (by decide) (hW _ wd430) rfl dX10_changesThatFit_16 ?_
        refine lv_iload_n hx hb dX10_changesThatFit_19 rfl (lv_at hl 1 rfl) ?_
        refine lv_iload_n hx hb dX10_changesThatFit_20 rfl (lv_at hl 3 rfl) ?_
        obtain ⟨q3, eq3, hf⟩ := bnd hf
        refine mcVi (v := (zB q3)) (rest := []) (Bn := [w10 cs o_x a_x s_x, w9 cs (a_x 2) a_t s_t, w9 cs (a_x 9) a_t2 v2.2.2.1, w2 cs (a_x 8) a0n v2.2.2.2.1, w7 cs (a_x 1) a_g v2.2.2.2.2, w8 cs (a_x 4) a_v s_v]) (isR := [0, 2, 3, 4, 5]) (isC := [1]) (i0 := 1) ⟨hx, hb, hml, hown, hts⟩ hK hP hD hS hA hG (c9_canChangeTwins l D cs (a_x 2) a_t s_t H.size x1 v2.2.1 _ eq3) (cwV 2 hts (gV wd1237 wd1238 wd1239 wd107 wd1240) rfl rfl rfl (by decide +kernel) ⟨by rw [hR]; exact Nat.le_of_ble_eq_true rfl, by rw [hR]; exact Nat.le_of_ble_eq_true rfl⟩) 6 (by decide) rfl rfl rfl rfl rfl rfl rfl e9 rfl rfl rfl hl.1 rfl (Nat.le_of_ble_eq_true rfl) ⟨Nat.zero_le _, Nat.zero_le _⟩ dX10_changesThatFit_21 (fun H locs hP hD hS => ?_)
        obtain ⟨q4, hq4, hf⟩ := bnd hf
        have Jq4 : ∀ r4 : Int32 × St × St × St, q4 = r4 → ∀ (H : Heap) (locs : List Loc) (ls : Array Slot), va_P D vwCl (List.flatten [w10 cs o_x a_x s_x, w9 cs (a_x 2) a_t s_t, w9 cs (a_x 9) a_t2 r4.2.1, w2 cs (a_x 8) a0n r4.2.2.1, w7 cs (a_x 1) a_g r4.2.2.2, w8 cs (a_x 4) a_v s_v]) H → va_D A (List.flatten [w10 cs o_x a_x s_x, w9 cs (a_x 2) a_t s_t, w9 cs (a_x 9) a_t2 r4.2.1, w2 cs (a_x 8) a0n r4.2.2.1, w7 cs (a_x 1) a_g r4.2.2.2, w8 cs (a_x 4) a_v s_v]) → va_S A s.heap H locs → lv_has ls 4 [(0, .ref o_x), (1, .int x1), (2, .int r4.1), (3, .int v2.2.1)] → W p l e R s m args below meth c H locs 0 0 Q (F0 m 60 ls []) := by
          intro r4 eq4 H locs ls hP hD hS hl
          subst eq4
          refine lv_iinc (v := (v2.2.1 + 1)) (lv' := [(3, .int (v2.2.1 + 1)), (0, .ref o_x), (1, .int x1), (2, .int q4.1)]) hx hb dX10_changesThatFit_60 hl (k := 3) rfl rfl (by decide) rfl (fun ls hl => ?_)
          refine lv_goto (tgt := 4) hx hb dX10_changesThatFit_63 (by decide) ?_
          cases hf
          exact ih1 _ hn1 _ _ _ hP hD hS (lv_sub hl [1, 2, 3, 0] rfl)
        clear hf
        have hf := hq4
        refine lv_if_eq (tgt := 60) hx hb dX10_changesThatFit_24 (by decide) (fun hc => ?_) (fun hc => ?_)
        · have hf := ifp hc hf
          exact Jq4 _ (Option.some.inj hf).symm _ _ _ hP hD hS (lv_sub hl [0, 1, 2, 3] rfl)
        · have hf := ifn hc hf
          refine lv_aload_n hx hb dX10_changesThatFit_27 rfl (lv_at hl 0 rfl) ?_
          refine gfB (i0 := 0) (own := RX10) (T := TX10) (k := 9) (v := .ref (a_x 9)) hx hb htX10 hown hK hP rfl e10 rfl (by decide) (hW _ wd437) rfl dX10_changesThatFit_28 ?_
          refine lv_aload_n hx hb dX10_changesThatFit_31 rfl (lv_at hl 0 rfl) ?_
          refine gfB (i0 := 0) (own := RX10) (T := TX10) (k := 2) (v := .ref (a_x 2)) hx hb htX10 hown hK hP rfl e10 rfl (by decide) (hW _ wd430) rfl dX10_changesThatFit_32 ?_
          obtain ⟨q5, eq5, hf⟩ := bnd hf
          refine mcVv (rest := []) (Bn := [w10 cs o_x a_x s_x, w9 cs (a_x 2) a_t s_t, w9 cs (a_x 9) a_t2 q5, w2 cs (a_x 8) a0n v2.2.2.2.1, w7 cs (a_x 1) a_g v2.2.2.2.2, w8 cs (a_x 4) a_v s_v]) (isR := [0, 3, 4, 5]) (isC := [2, 1]) (i0 := 2) ⟨hx, hb, hml, hown, hts⟩ hK hP hD hS hA hG (c9_copyFrom l D cs (a_x 9) a_t2 (a_x 2) a_t v2.2.2.1 s_t H.size _ eq5) (cwV 1 hts (gV wd599 wd500 wd501 wd107 wd502) rfl rfl rfl (by decide +kernel) ⟨by rw [hR]; exact Nat.le_of_ble_eq_true rfl, by rw [hR]; exact Nat.le_of_ble_eq_true rfl⟩) 6 (by decide) rfl rfl rfl rfl rfl rfl rfl e9 rfl rfl rfl hl.1 rfl (Nat.le_of_ble_eq_true rfl) ⟨Nat.zero_le _, Nat.zero_le _⟩ dX10_changesThatFit_35 (fun H locs hP hD hS => ?_)
          refine lv_aload_n hx hb dX10_changesThatFit_38 rfl (lv_at hl 0 rfl) ?_
          refine gfB (i0 := 0) (own := RX10) (T := TX10) (k := 9) (v := .ref (a_x 9)) hx hb htX10 hown hK hP rfl e10 rfl (by decide) (hW _ wd437) rfl dX10_changesThatFit_39 ?_
          refine lv_iload_n hx hb dX10_changesThatFit_42 rfl (lv_at hl 1 rfl) ?_
          refine lv_iload_n hx hb dX10_changesThatFit_43 rfl (lv_at hl 3 rfl) ?_
          obtain ⟨q6, eq6, hf⟩ := bnd hf
          refine mcVv (rest := []) (Bn := [w10 cs o_x a_x s_x, w9 cs (a_x 2) a_t s_t, w9 cs (a_x 9) a_t2 q6, w2 cs (a_x 8) a0n v2.2.2.2.1, w7 cs (a_x 1) a_g v2.2.2.2.2, w8 cs (a_x 4) a_v s_v]) (isR := [0, 1, 3, 4, 5]) (isC := [2]) (i0 := 2) ⟨hx, hb, hml, hown, hts⟩ hK hP hD hS hA hG (c9_changeTwins l D cs (a_x 9) a_t2 q5 H.size x1 v2.2.1 _ eq6) (cwV 2 hts (gV wd1241 wd1242 wd1243 wd107 wd1244) rfl rfl rfl (by decide +kernel) ⟨by rw [hR]; exact Nat.le_of_ble_eq_true rfl, by rw [hR]; exact Nat.le_of_ble_eq_true rfl⟩) 6 (by decide) rfl rfl rfl rfl rfl rfl rfl e9 rfl rfl rfl hl.1 rfl (Nat.le_of_ble_eq_true rfl) ⟨Nat.zero_le _, Nat.zero_le _⟩ dX10_changesThatFit_44 (fun H locs hP hD hS => ?_)
          refine lv_aload_n hx hb dX10_changesThatFit_47 rfl (lv_at hl 0 rfl) ?_
          obtain ⟨q7, eq7, hf⟩ := bnd hf
          refine mcVi (v := (zB q7.1)) (rest := []) (Bn := [w10 cs o_x a_x s_x, w9 cs (a_x 2) a_t s_t, w9 cs (a_x 9) a_t2 q7.2.1, w2 cs (a_x 8) a0n q7.2.2.1, w7 cs (a_x 1) a_g q7.2.2.2, w8 cs (a_x 4) a_v s_v]) (isR := [1]) (isC := [0, 2, 3, 4, 5]) (i0 := 0) ⟨hx, hb, hml, hown, hts⟩ hK hP hD hS hA hG (c10_isAllSeenSo l D cs o_x a_x a_t2 a_g a_v s_x q6 v2.2.2.2.1 v2.2.2.2.2 s_v H.size _ eq7) (cwV 0 hts (gV wd1218 wd1220 wd32 wd105 wd1221) rfl rfl rfl (by decide +kernel) ⟨by rw [hR]; exact Nat.le_of_ble_eq_true rfl, by rw [hR]; exact Nat.le_of_ble_eq_true rfl⟩) 6 (by decide) rfl rfl rfl rfl rfl rfl rfl e10 rfl rfl rfl hl.1 rfl (Nat.le_of_ble_eq_true rfl) ⟨Nat.zero_le _, Nat.zero_le _⟩ dX10_changesThatFit_48 (fun H locs hP hD hS => ?_)
          refine lv_if_eq (tgt := 60) hx hb dX10_changesThatFit_51 (by decide) (fun hc => ?_) (fun hc => ?_)
          · have hf := ifp hc hf
            exact Jq4 _ (Option.some.inj hf).symm _ _ _ hP hD hS (lv_sub hl [0, 1, 2, 3] rfl)
          · have hf := ifn hc hf
            refine lv_iload_n hx hb dX10_changesThatFit_54 rfl (lv_at hl 2 rfl) ?_
            refine lv_iconst (v := 1) hx hb dX10_changesThatFit_55 (by decide) ?_
            refine lv_iload_n hx hb dX10_changesThatFit_56 rfl (lv_at hl 3 rfl) ?_
            refine lv_ishl hx hb dX10_changesThatFit_57 ?_
            refine lv_ior hx hb dX10_changesThatFit_58 ?_
            refine lv_istore_n (lv' := [(2, .int (v2.1 ||| ((1 : Int32) <<< (v2.2.1 &&& 31)))), (0, .ref o_x), (1, .int x1), (3, .int v2.2.1)]) hx hb dX10_changesThatFit_59 rfl hl (by decide) rfl (fun ls hl => ?_)
            exact Jq4 _ (Option.some.inj hf).symm _ _ _ hP hD hS (lv_sub hl [1, 2, 0, 3] rfl)
  exact L1 _ _ hq1 _ _ _ hP hD hS (lv_sub hl [2, 3, 1, 0] rfl)
/-! TwinLamps.whose -/
noncomputable def f10_whose (s_x : St) (s_t : St) (s_t2 : St) (s_e : St) (s_g : St) (s_v : St) (x1 : Int32) : Option ((Int32 × St × St × St) ⊕ Nat) :=
  xB (f10_needLamp s_x s_t x1) fun q1 =>
  wI ((f9_copyFrom s_t2 s_t).bind fun q2 =>
  (f10_isAllSeenSo s_x q2 s_e s_g s_v).bind fun q3 =>
  ((if (zB q3.1) = 0 then some 0 else some 4096 : Option (Int32))).bind fun q4 =>
  (f10_changesThatFit s_x s_t q3.2.1 q3.2.2.1 q3.2.2.2 s_v x1).bind fun q5 =>
  some ((q4 ||| q5.1), q5.2.1, q5.2.2.1, q5.2.2.2))
set_option maxHeartbeats 4000000 in
set_option maxRecDepth 100000 in
theorem c10_whose (l : Launch) (D : va_G) (cs : xE) (o_x : Nat) (a_x : Nat → Nat) (a_t : Nat → Nat) (a_t2 : Nat → Nat) (a_g : Nat → Nat) (a_v : Nat → Nat) (s_x : St) (s_t : St) (s_t2 : St) (s_e : St) (s_g : St) (s_v : St) (sz : Nat) (x1 : Int32) (res : Int32 × St × St × St) (hf : f10_whose s_x s_t s_t2 s_e s_g s_v x1 = some (.inl res)) : Met l yX10_whose (Cond.code yX10_whose cX10_whose 3 (some .int) :: WG) { frames := 7, cells := 0, slots := 0, locals := 137 } (va_Pc [.ref o_x, .int x1] (mP D cs (List.flatten [w10 cs o_x a_x s_x, w9 cs (a_x 2) a_t s_t, w9 cs (a_x 9) a_t2 s_t2, w2 cs (a_x 8) a0n s_e, w7 cs (a_x 1) a_g s_g, w8 cs (a_x 4) a_v s_v]) sz)) (qI D cs res.1 (List.flatten [w10 cs o_x a_x s_x, w9 cs (a_x 2) a_t s_t, w9 cs (a_x 9) a_t2 res.2.1, w2 cs (a_x 8) a0n res.2.2.1, w7 cs (a_x 1) a_g res.2.2.2, w8 cs (a_x 4) a_v s_v]) (va_A (List.flatten [w10 cs o_x a_x s_x, w9 cs (a_x 2) a_t s_t, w9 cs (a_x 9) a_t2 s_t2, w2 cs (a_x 8) a0n s_e, w7 cs (a_x 1) a_g s_g, w8 cs (a_x 4) a_v s_v]) sz)) 0 0 (va_A (List.flatten [w10 cs o_x a_x s_x, w9 cs (a_x 2) a_t s_t, w9 cs (a_x 9) a_t2 s_t2, w2 cs (a_x 8) a0n s_e, w7 cs (a_x 1) a_g s_g, w8 cs (a_x 4) a_v s_v]) sz) := by
  refine mgo (Qc := qI D cs res.1 (List.flatten [w10 cs o_x a_x s_x, w9 cs (a_x 2) a_t s_t, w9 cs (a_x 9) a_t2 res.2.1, w2 cs (a_x 8) a0n res.2.2.1, w7 cs (a_x 1) a_g res.2.2.2, w8 cs (a_x 4) a_v s_v])) (cc := cX10_whose) (maxL := 3) (ret := (some .int)) (by decide) rfl (Nat.le_of_ble_eq_true rfl) ?_
  intro p e s m below meth c ls A R Q args H hR hQ hx hb hml hr hlocks hown hts hP hK hD hA hS hG hl
  have hown : s.vm.findClass RX10 = some m.cls := hown
  have hl : lv_has ls 3 [(0, .ref o_x), (1, .int x1)] := hl
  have hW : ∀ w ∈ WG, w.before args s = true := fun w h => hts w (List.mem_cons_of_mem _ h)
  have htX10 : ∀ w ∈ u_ws RX10 TX10 14, w.before args s = true := fun w h => hW w (inW_X10 w h)
  unfold f10_whose at hf
  refine lv_aload_n hx hb dX10_whose_0 rfl (lv_at hl 0 rfl) ?_
  refine lv_iload_n hx hb dX10_whose_1 rfl (lv_at hl 1 rfl) ?_
  obtain ⟨q1, eq1, hf⟩ := xB_l hf
  refine mcVv (rest := []) (Bn := [w10 cs o_x a_x s_x, w9 cs (a_x 2) a_t s_t, w9 cs (a_x 9) a_t2 s_t2, w2 cs (a_x 8) a0n s_e, w7 cs (a_x 1) a_g s_g, w8 cs (a_x 4) a_v s_v]) (isR := [2, 3, 4, 5]) (isC := [0, 1]) (i0 := 0) ⟨hx, hb, hml, hown, hts⟩ hK hP hD hS hA hG (c10_needLamp l D cs o_x a_x a_t s_x s_t H.size x1 _ eq1) (cwV 1 hts (gV wd952 wd954 wd26 wd105 wd955) rfl rfl rfl (by decide +kernel) ⟨by rw [hR]; exact Nat.le_of_ble_eq_true rfl, by rw [hR]; exact Nat.le_of_ble_eq_true rfl⟩) 6 (by decide) rfl rfl rfl rfl rfl rfl rfl e10 rfl rfl rfl hl.1 rfl (Nat.le_of_ble_eq_true rfl) ⟨Nat.zero_le _, Nat.zero_le _⟩ dX10_whose_2 (fun H locs hP hD hS => ?_)
  have hf := wI_l hf
  refine lv_aload_n hx hb dX10_whose_5 rfl (lv_at hl 0 rfl) ?_
  refine gfB (i0 := 0) (own := RX10) (T := TX10) (k := 9) (v := .ref (a_x 9)) hx hb htX10 hown hK hP rfl e10 rfl (by decide) (hW _ wd437) rfl dX10_whose_6 ?_
  refine lv_aload_n hx hb dX10_whose_9 rfl (lv_at hl 0 rfl) ?_
  refine gfB (i0 := 0) (own := RX10) (T := TX10) (k := 2) (v := .ref (a_x 2)) hx hb htX10 hown hK hP rfl e10 rfl (by decide) (hW _ wd430) rfl dX10_whose_10 ?_
  obtain ⟨q2, eq2, hf⟩ := bnd hf
  refine mcVv (rest := []) (Bn := [w10 cs o_x a_x s_x, w9 cs (a_x 2) a_t s_t, w9 cs (a_x 9) a_t2 q2, w2 cs (a_x 8) a0n s_e, w7 cs (a_x 1) a_g s_g, w8 cs (a_x 4) a_v s_v]) (isR := [0, 3, 4, 5]) (isC := [2, 1]) (i0 := 2) ⟨hx, hb, hml, hown, hts⟩ hK hP hD hS hA hG (c9_copyFrom l D cs (a_x 9) a_t2 (a_x 2) a_t s_t2 s_t H.size _ eq2) (cwV 1 hts (gV wd599 wd500 wd501 wd107 wd502) rfl rfl rfl (by decide +kernel) ⟨by rw [hR]; exact Nat.le_of_ble_eq_true rfl, by rw [hR]; exact Nat.le_of_ble_eq_true rfl⟩) 6 (by decide) rfl rfl rfl rfl rfl rfl rfl e9 rfl rfl rfl hl.1 rfl (Nat.le_of_ble_eq_true rfl) ⟨Nat.zero_le _, Nat.zero_le _⟩ dX10_whose_13 (fun H locs hP hD hS => ?_)
  refine lv_aload_n hx hb dX10_whose_16 rfl (lv_at hl 0 rfl) ?_
  obtain ⟨q3, eq3, hf⟩ := bnd hf
  refine mcVi (v := (zB q3.1)) (rest := []) (Bn := [w10 cs o_x a_x s_x, w9 cs (a_x 2) a_t s_t, w9 cs (a_x 9) a_t2 q3.2.1, w2 cs (a_x 8) a0n q3.2.2.1, w7 cs (a_x 1) a_g q3.2.2.2, w8 cs (a_x 4) a_v s_v]) (isR := [1]) (isC := [0, 2, 3, 4, 5]) (i0 := 0) ⟨hx, hb, hml, hown, hts⟩ hK hP hD hS hA hG (c10_isAllSeenSo l D cs o_x a_x a_t2 a_g a_v s_x q2 s_e s_g s_v H.size _ eq3) (cwV 0 hts (gV wd1218 wd1220 wd32 wd105 wd1221) rfl rfl rfl (by decide +kernel) ⟨by rw [hR]; exact Nat.le_of_ble_eq_true rfl, by rw [hR]; exact Nat.le_of_ble_eq_true rfl⟩) 6 (by decide) rfl rfl rfl rfl rfl rfl rfl e10 rfl rfl rfl hl.1 rfl (Nat.le_of_ble_eq_true rfl) ⟨Nat.zero_le _, Nat.zero_le _⟩ dX10_whose_17 (fun H locs hP hD hS => ?_)
  obtain ⟨q4, hq4, hf⟩ := bnd hf
  have Jq4 : ∀ r4 : Int32, q4 = r4 → ∀ (H : Heap) (locs : List Loc) (ls : Array Slot), va_P D vwCl (List.flatten [w10 cs o_x a_x s_x, w9 cs (a_x 2) a_t s_t, w9 cs (a_x 9) a_t2 q3.2.1, w2 cs (a_x 8) a0n q3.2.2.1, w7 cs (a_x 1) a_g q3.2.2.2, w8 cs (a_x 4) a_v s_v]) H → va_D A (List.flatten [w10 cs o_x a_x s_x, w9 cs (a_x 2) a_t s_t, w9 cs (a_x 9) a_t2 q3.2.1, w2 cs (a_x 8) a0n q3.2.2.1, w7 cs (a_x 1) a_g q3.2.2.2, w8 cs (a_x 4) a_v s_v]) → va_S A s.heap H locs → lv_has ls 3 [(0, .ref o_x), (1, .int x1)] → W p l e R s m args below meth c H locs 0 0 Q (F0 m 30 ls [.int r4]) := by
    intro r4 eq4 H locs ls hP hD hS hl
    subst eq4
    refine lv_istore_n (lv' := [(2, .int q4), (0, .ref o_x), (1, .int x1)]) hx hb dX10_whose_30 rfl hl (by decide) rfl (fun ls hl => ?_)
    refine lv_iload_n hx hb dX10_whose_31 rfl (lv_at hl 0 rfl) ?_
    refine lv_aload_n hx hb dX10_whose_32 rfl (lv_at hl 1 rfl) ?_
    refine lv_iload_n hx hb dX10_whose_33 rfl (lv_at hl 2 rfl) ?_
    obtain ⟨q5, eq5, hf⟩ := bnd hf
    refine mcVi (v := q5.1) (rest := [.int q4]) (Bn := [w10 cs o_x a_x s_x, w9 cs (a_x 2) a_t s_t, w9 cs (a_x 9) a_t2 q5.2.1, w2 cs (a_x 8) a0n q5.2.2.1, w7 cs (a_x 1) a_g q5.2.2.2, w8 cs (a_x 4) a_v s_v]) (isR := []) (isC := [0, 1, 2, 3, 4, 5]) (i0 := 0) ⟨hx, hb, hml, hown, hts⟩ hK hP hD hS hA hG (c10_changesThatFit l D cs o_x a_x a_t a_t2 a_g a_v s_x s_t q3.2.1 q3.2.2.1 q3.2.2.2 s_v H.size x1 _ eq5) (cwV 1 hts (gV wd1233 wd1235 wd33 wd105 wd1236) rfl rfl rfl (by decide +kernel) ⟨by rw [hR]; exact Nat.le_of_ble_eq_true rfl, by rw [hR]; exact Nat.le_of_ble_eq_true rfl⟩) 6 (by decide) rfl rfl rfl rfl rfl rfl rfl e10 rfl rfl rfl hl.1 rfl (Nat.le_of_ble_eq_true rfl) ⟨Nat.zero_le _, Nat.zero_le _⟩ dX10_whose_34 (fun H locs hP hD hS => ?_)
    refine lv_ior hx hb dX10_whose_37 ?_
    obtain rfl := Option.some.inj hf
    exact mretI hx hb hr hlocks hK hP hD hS rfl hQ dX10_whose_38
  clear hf
  have hf := hq4
  refine lv_if_eq (tgt := 29) hx hb dX10_whose_20 (by decide) (fun hc => ?_) (fun hc => ?_)
  · have hf := ifp hc hf
    refine lv_iconst (v := 0) hx hb dX10_whose_29 (by decide) ?_
    exact Jq4 _ (Option.some.inj hf).symm _ _ _ hP hD hS (lv_sub hl [0, 1] rfl)
  · have hf := ifn hc hf
    refine lv_sipush (v := 4096) hx hb dX10_whose_23 (by decide) ?_
    refine lv_goto (tgt := 30) hx hb dX10_whose_26 (by decide) ?_
    exact Jq4 _ (Option.some.inj hf).symm _ _ _ hP hD hS (lv_sub hl [0, 1] rfl)
set_option maxHeartbeats 4000000 in
set_option maxRecDepth 100000 in
theorem c10x_whose (l : Launch) (D : va_G) (cs : xE) (hl0 : l.stackTraces = false) (o_x : Nat) (a_x : Nat → Nat) (a_t : Nat → Nat) (a_t2 : Nat → Nat) (a_g : Nat → Nat) (a_v : Nat → Nat) (s_x : St) (s_t : St) (s_t2 : St) (s_e : St) (s_g : St) (s_v : St) (sz : Nat) (x1 : Int32) (k : Nat) (hf : f10_whose s_x s_t s_t2 s_e s_g s_v x1 = some (.inr k)) : vx_Met l yX10_whose (Cond.code yX10_whose cX10_whose 3 (some .int) :: WG) { frames := 7, cells := 1, slots := 6, locals := 137 } (va_Pc [.ref o_x, .int x1] (mP D cs (List.flatten [w10 cs o_x a_x s_x, w9 cs (a_x 2) a_t s_t, w9 cs (a_x 9) a_t2 s_t2, w2 cs (a_x 8) a0n s_e, w7 cs (a_x 1) a_g s_g, w8 cs (a_x 4) a_v s_v]) sz)) (fun _ _ _ _ => False) (qX D cs k (List.flatten [w10 cs o_x a_x s_x, w9 cs (a_x 2) a_t s_t, w9 cs (a_x 9) a_t2 s_t2, w2 cs (a_x 8) a0n s_e, w7 cs (a_x 1) a_g s_g, w8 cs (a_x 4) a_v s_v]) (va_A (List.flatten [w10 cs o_x a_x s_x, w9 cs (a_x 2) a_t s_t, w9 cs (a_x 9) a_t2 s_t2, w2 cs (a_x 8) a0n s_e, w7 cs (a_x 1) a_g s_g, w8 cs (a_x 4) a_v s_v]) sz)) 1 6 (va_A (List.flatten [w10 cs o_x a_x s_x, w9 cs (a_x 2) a_t s_t, w9 cs (a_x 9) a_t2 s_t2, w2 cs (a_x 8) a0n s_e, w7 cs (a_x 1) a_g s_g, w8 cs (a_x 4) a_v s_v]) sz) := by
  refine mgoX (cc := cX10_whose) (maxL := 3) (ret := (some .int)) (by decide) rfl (Nat.le_of_ble_eq_true rfl) ?_
  intro p e s m below meth c ls A R Q args H hR hQ hno hx hb hml hr hlocks hown hts hP hK hD hA hS hG hl
  have hown : s.vm.findClass RX10 = some m.cls := hown
  have hl : lv_has ls 3 [(0, .ref o_x), (1, .int x1)] := hl
  have hW : ∀ w ∈ WG, w.before args s = true := fun w h => hts w (List.mem_cons_of_mem _ h)
  have htX10 : ∀ w ∈ u_ws RX10 TX10 14, w.before args s = true := fun w h => hW w (inW_X10 w h)
  unfold f10_whose at hf
  refine lv_aload_n hx hb dX10_whose_0 rfl (lv_at hl 0 rfl) ?_
  refine lv_iload_n hx hb dX10_whose_1 rfl (lv_at hl 1 rfl) ?_
  rcases xB_r hf with xq1 | ⟨q1, eq1, hf⟩
  · exact mxV (rest := []) (isR := [2, 3, 4, 5]) (isC := [0, 1]) (i0 := 0) ⟨hx, hb, hml, hown, hts⟩ hK hP hD hS hA hG (c10x_needLamp l D cs hl0 o_x a_x a_t s_x s_t H.size x1 _ xq1) (cwV 1 hts (gV wd952 wd954 wd26 wd105 wd955) rfl rfl rfl (by decide +kernel) ⟨by rw [hR]; exact Nat.le_of_ble_eq_true rfl, by rw [hR]; exact Nat.le_of_ble_eq_true rfl⟩) 6 (by decide) rfl rfl rfl rfl e10 rfl rfl rfl hl.1 rfl (Nat.le_of_ble_eq_true rfl) ⟨by rw [hR]; exact Nat.le_of_ble_eq_true rfl, by rw [hR]; exact Nat.le_of_ble_eq_true rfl⟩ dX10_whose_2 hno hlocks hQ
  refine mcVv (rest := []) (Bn := [w10 cs o_x a_x s_x, w9 cs (a_x 2) a_t s_t, w9 cs (a_x 9) a_t2 s_t2, w2 cs (a_x 8) a0n s_e, w7 cs (a_x 1) a_g s_g, w8 cs (a_x 4) a_v s_v]) (isR := [2, 3, 4, 5]) (isC := [0, 1]) (i0 := 0) ⟨hx, hb, hml, hown, hts⟩ hK hP hD hS hA hG (c10_needLamp l D cs o_x a_x a_t s_x s_t H.size x1 _ eq1) (cwV 1 hts (gV wd952 wd954 wd26 wd105 wd955) rfl rfl rfl (by decide +kernel) ⟨by rw [hR]; exact Nat.le_of_ble_eq_true rfl, by rw [hR]; exact Nat.le_of_ble_eq_true rfl⟩) 6 (by decide) rfl rfl rfl rfl rfl rfl rfl e10 rfl rfl rfl hl.1 rfl (Nat.le_of_ble_eq_true rfl) ⟨Nat.zero_le _, Nat.zero_le _⟩ dX10_whose_2 (fun H locs hP hD hS => ?_)
  exact (wI_r hf).elim
/-! TwinLamps.foreseeChanges -/
noncomputable def f10_foreseeChanges_L6 (v2 : Int32 × Int32 × St × St × St × St) (v7 : Int32 × St × St × St × St) : Option ((Int32 × St × St × St × St) ⊕ (St × St × St × St)) :=
  if (48 : Int32) ≤ v7.1 then some (.inr (v7.2.1, v7.2.2.1, v7.2.2.2.1, v7.2.2.2.2)) else (f2_passHour v7.2.2.2.1 v7.2.2.2.2 v7.2.2.1).bind fun q8 =>
  (ckO 12 v2.1).bind fun q9 =>
  (stS 48 v7.2.1 (100 + q9) v7.1 (q8.1.1 0)).bind fun s10 =>
  some (.inl ((v7.1 + 1), s10, q8.2.2, q8.1, q8.2.1))
noncomputable def f10_foreseeChanges_L1 (s_t : St) (x1 : Int32) (x2 : Int32) (v2 : Int32 × Int32 × St × St × St × St) : Option ((Int32 × Int32 × St × St × St × St) ⊕ (Int32 × St × St × St × St)) :=
  if (s_t.1 1) ≤ v2.2.1 then some (.inr (v2.1, v2.2.2.1, v2.2.2.2.1, v2.2.2.2.2.1, v2.2.2.2.2.2)) else ((if ((x2 >>> (v2.2.1 &&& 31)) &&& 1) = 1 then ((f9_copyFrom v2.2.2.2.1 s_t).bind fun q4 =>
  (f9_changeTwins q4 x1 v2.2.1).bind fun q5 =>
  (lpw (f10_foreseeChanges_L6 v2) (0, v2.2.2.1, q5, v2.2.2.2.2.1, v2.2.2.2.2.2)).bind fun q6 =>
  some ((v2.1 + 1), q6.1, q6.2.1, q6.2.2.1, q6.2.2.2))
  else some (v2.1, v2.2.2.1, v2.2.2.2.1, v2.2.2.2.2.1, v2.2.2.2.2.2) : Option (Int32 × St × St × St × St))).bind fun q3 =>
  some (.inl (q3.1, (v2.2.1 + 1), q3.2.1, q3.2.2.1, q3.2.2.2.1, q3.2.2.2.2))
noncomputable def f10_foreseeChanges (s_x : St) (s_t : St) (s_t2 : St) (s_e : St) (s_g : St) (x1 : Int32) (x2 : Int32) : Option (Int32 × St × St × St × St) :=
  (lpw (f10_foreseeChanges_L1 s_t x1 x2) (0, 0, s_x, s_t2, s_e, s_g)).bind fun q1 =>
  some (q1.1, q1.2.1, q1.2.2.1, q1.2.2.2.1, q1.2.2.2.2)
set_option maxHeartbeats 4000000 in
set_option maxRecDepth 100000 in
theorem c10_foreseeChanges (l : Launch) (D : va_G) (cs : xE) (o_x : Nat) (a_x : Nat → Nat) (a_t : Nat → Nat) (a_t2 : Nat → Nat) (a_g : Nat → Nat) (s_x : St) (s_t : St) (s_t2 : St) (s_e : St) (s_g : St) (sz : Nat) (x1 : Int32) (x2 : Int32) (res : Int32 × St × St × St × St) (hf : f10_foreseeChanges s_x s_t s_t2 s_e s_g x1 x2 = some res) : Met l yX10_foreseeChanges (Cond.code yX10_foreseeChanges cX10_foreseeChanges 6 (some .int) :: WG) { frames := 4, cells := 0, slots := 0, locals := 92 } (va_Pc [.ref o_x, .int x1, .int x2] (mP D cs (List.flatten [w10 cs o_x a_x s_x, w9 cs (a_x 2) a_t s_t, w9 cs (a_x 9) a_t2 s_t2, w2 cs (a_x 8) a0n s_e, w7 cs (a_x 1) a_g s_g]) sz)) (qI D cs res.1 (List.flatten [w10 cs o_x a_x res.2.1, w9 cs (a_x 2) a_t s_t, w9 cs (a_x 9) a_t2 res.2.2.1, w2 cs (a_x 8) a0n res.2.2.2.1, w7 cs (a_x 1) a_g res.2.2.2.2]) (va_A (List.flatten [w10 cs o_x a_x s_x, w9 cs (a_x 2) a_t s_t, w9 cs (a_x 9) a_t2 s_t2, w2 cs (a_x 8) a0n s_e, w7 cs (a_x 1) a_g s_g]) sz)) 0 0 (va_A (List.flatten [w10 cs o_x a_x s_x, w9 cs (a_x 2) a_t s_t, w9 cs (a_x 9) a_t2 s_t2, w2 cs (a_x 8) a0n s_e, w7 cs (a_x 1) a_g s_g]) sz) := by
  refine mgo (Qc := qI D cs res.1 (List.flatten [w10 cs o_x a_x res.2.1, w9 cs (a_x 2) a_t s_t, w9 cs (a_x 9) a_t2 res.2.2.1, w2 cs (a_x 8) a0n res.2.2.2.1, w7 cs (a_x 1) a_g res.2.2.2.2])) (cc := cX10_foreseeChanges) (maxL := 6) (ret := (some .int)) (by decide) rfl (Nat.le_of_ble_eq_true rfl) ?_
  intro p e s m below meth c ls A R Q args H hR hQ hx hb hml hr hlocks hown hts hP hK hD hA hS hG hl
  have hown : s.vm.findClass RX10 = some m.cls := hown
  have hl : lv_has ls 6 [(0, .ref o_x), (1, .int x1), (2, .int x2)] := hl
  have hW : ∀ w ∈ WG, w.before args s = true := fun w h => hts w (List.mem_cons_of_mem _ h)
  have htX10 : ∀ w ∈ u_ws RX10 TX10 14, w.before args s = true := fun w h => hW w (inW_X10 w h)
  have htX2 : ∀ w ∈ u_ws RX2 TX2 5, w.before args s = true := fun w h => hW w (inW_X2 w h)
  have htX9 : ∀ w ∈ u_ws RX9 TX9 11, w.before args s = true := fun w h => hW w (inW_X9 w h)
  unfold f10_foreseeChanges at hf
  refine lv_iconst (v := 0) hx hb dX10_foreseeChanges_0 (by decide) ?_
  refine lv_istore_n (lv' := [(3, .int 0), (0, .ref o_x), (1, .int x1), (2, .int x2)]) hx hb dX10_foreseeChanges_1 rfl hl (by decide) rfl (fun ls hl => ?_)
  refine lv_iconst (v := 0) hx hb dX10_foreseeChanges_2 (by decide) ?_
  refine lv_istore (lv' := [(4, .int 0), (3, .int 0), (0, .ref o_x), (1, .int x1), (2, .int x2)]) hx hb dX10_foreseeChanges_3 hl (by decide) rfl (fun ls hl => ?_)
  obtain ⟨q1, hq1, hf⟩ := bnd hf
  obtain ⟨n1, hq1⟩ := lpw_ex hq1
  have Jq1_0 : ∀ rr1_0 : Int32 × St × St × St × St, q1 = rr1_0 → ∀ (H : Heap) (locs : List Loc) (ls : Array Slot), va_P D vwCl (List.flatten [w10 cs o_x a_x rr1_0.2.1, w9 cs (a_x 2) a_t s_t, w9 cs (a_x 9) a_t2 rr1_0.2.2.1, w2 cs (a_x 8) a0n rr1_0.2.2.2.1, w7 cs (a_x 1) a_g rr1_0.2.2.2.2]) H → va_D A (List.flatten [w10 cs o_x a_x rr1_0.2.1, w9 cs (a_x 2) a_t s_t, w9 cs (a_x 9) a_t2 rr1_0.2.2.1, w2 cs (a_x 8) a0n rr1_0.2.2.2.1, w7 cs (a_x 1) a_g rr1_0.2.2.2.2]) → va_S A s.heap H locs → lv_has ls 6 [(3, .int rr1_0.1)] → W p l e R s m args below meth c H locs 0 0 Q (F0 m 104 ls []) := by
    intro rr1_0 eq1 H locs ls hP hD hS hl
    subst eq1
    refine lv_iload_n hx hb dX10_foreseeChanges_104 rfl (lv_at hl 0 rfl) ?_
    obtain rfl := Option.some.inj hf
    exact mretI hx hb hr hlocks hK hP hD hS rfl hQ dX10_foreseeChanges_105
  clear hf
  have L1 : ∀ n1, ∀ v2 : Int32 × Int32 × St × St × St × St, lp n1 (f10_foreseeChanges_L1 s_t x1 x2) v2 = some q1 → ∀ (H : Heap) (locs : List Loc) (ls : Array Slot), va_P D vwCl (List.flatten [w10 cs o_x a_x v2.2.2.1, w9 cs (a_x 2) a_t s_t, w9 cs (a_x 9) a_t2 v2.2.2.2.1, w2 cs (a_x 8) a0n v2.2.2.2.2.1, w7 cs (a_x 1) a_g v2.2.2.2.2.2]) H → va_D A (List.flatten [w10 cs o_x a_x v2.2.2.1, w9 cs (a_x 2) a_t s_t, w9 cs (a_x 9) a_t2 v2.2.2.2.1, w2 cs (a_x 8) a0n v2.2.2.2.2.1, w7 cs (a_x 1) a_g v2.2.2.2.2.2]) → va_S A s.heap H locs → lv_has ls 6 [(0, .ref o_x), (1, .int x1), (2, .int x2), (3, .int v2.1), (4, .int v2.2.1)] → W p l e R s m args below meth c H locs 0 0 Q (F0 m 5 ls []) := by
    intro n1
    induction n1 with
    | zero => intro v2 hn; cases hn
    | succ n1 ih1 =>
      intro v2 hn1 H locs ls hP hD hS hl
      obtain ⟨y1, hf, hn1⟩ := lp_succ hn1
      unfold f10_foreseeChanges_L1 at hf
      refine lv_iload hx hb dX10_foreseeChanges_5 (lv_at hl 4 rfl) ?_
      refine lv_aload_n hx hb dX10_foreseeChanges_7 rfl (lv_at hl 0 rfl) ?_
      refine gfB (i0 := 0) (own := RX10) (T := TX10) (k := 2) (v := .ref (a_x 2)) hx hb htX10 hown hK hP rfl e10 rfl (by decide) (hW _ wd430) rfl dX10_foreseeChanges_8 ?_
      refine gfB (i0 := 1) (own := RX10) (T := TX9) (k := 1) (v := .int (s_t.1 1)) hx hb htX9 hown hK hP rfl e9 rfl (by decide) (hW _ wd155) rfl dX10_foreseeChanges_11 ?_
      refine lv_icmp_ge (tgt := 104) hx hb dX10_foreseeChanges_14 (by decide) (fun hc => ?_) (fun hc => ?_)
      · have hf := ifp hc hf
        cases hf
        exact Jq1_0 _ (Option.some.inj hn1).symm _ _ _ hP hD hS (lv_sub hl [3] rfl)
      · have hf := ifn hc hf
        refine lv_iload_n hx hb dX10_foreseeChanges_17 rfl (lv_at hl 2 rfl) ?_
        refine lv_iload hx hb dX10_foreseeChanges_18 (lv_at hl 4 rfl) ?_
        refine lv_ishr hx hb dX10_foreseeChanges_20 ?_
        refine lv_iconst (v := 1) hx hb dX10_foreseeChanges_21 (by decide) ?_
        refine lv_iand hx hb dX10_foreseeChanges_22 ?_
        refine lv_iconst (v := 1) hx hb dX10_foreseeChanges_23 (by decide) ?_
        obtain ⟨q3, hq3, hf⟩ := bnd hf
        have Jq3 : ∀ r3 : Int32 × St × St × St × St, q3 = r3 → ∀ (H : Heap) (locs : List Loc) (ls : Array Slot), va_P D vwCl (List.flatten [w10 cs o_x a_x r3.2.1, w9 cs (a_x 2) a_t s_t, w9 cs (a_x 9) a_t2 r3.2.2.1, w2 cs (a_x 8) a0n r3.2.2.2.1, w7 cs (a_x 1) a_g r3.2.2.2.2]) H → va_D A (List.flatten [w10 cs o_x a_x r3.2.1, w9 cs (a_x 2) a_t s_t, w9 cs (a_x 9) a_t2 r3.2.2.1, w2 cs (a_x 8) a0n r3.2.2.2.1, w7 cs (a_x 1) a_g r3.2.2.2.2]) → va_S A s.heap H locs → lv_has ls 6 [(0, .ref o_x), (1, .int x1), (2, .int x2), (3, .int r3.1), (4, .int v2.2.1)] → W p l e R s m args below meth c H locs 0 0 Q (F0 m 98 ls []) := by
          intro r3 eq3 H locs ls hP hD hS hl
          subst eq3
          refine lv_iinc (v := (v2.2.1 + 1)) (lv' := [(4, .int (v2.2.1 + 1)), (0, .ref o_x), (1, .int x1), (2, .int x2), (3, .int q3.1)]) hx hb dX10_foreseeChanges_98 hl (k := 4) rfl rfl (by decide) rfl (fun ls hl => ?_)
          refine lv_goto (tgt := 5) hx hb dX10_foreseeChanges_101 (by decide) ?_
          cases hf
          exact ih1 _ hn1 _ _ _ hP hD hS (lv_sub hl [1, 2, 3, 4, 0] rfl)
        clear hf
        have hf := hq3
        refine lv_icmp_ne (tgt := 98) hx hb dX10_foreseeChanges_24 (by decide) (fun hc => ?_) (fun hc => ?_)
        · have hf := ifn hc hf
          exact Jq3 _ (Option.some.inj hf).symm _ _ _ hP hD hS (lv_sub hl [0, 1, 2, 3, 4] rfl)
        · have hf := ifp hc hf
          refine lv_aload_n hx hb dX10_foreseeChanges_27 rfl (lv_at hl 0 rfl) ?_
          refine gfB (i0 := 0) (own := RX10) (T := TX10) (k := 9) (v := .ref (a_x 9)) hx hb htX10 hown hK hP rfl e10 rfl (by decide) (hW _ wd437) rfl dX10_foreseeChanges_28 ?_
          refine lv_aload_n hx hb dX10_foreseeChanges_31 rfl (lv_at hl 0 rfl) ?_
          refine gfB (i0 := 0) (own := RX10) (T := TX10) (k := 2) (v := .ref (a_x 2)) hx hb htX10 hown hK hP rfl e10 rfl (by decide) (hW _ wd430) rfl dX10_foreseeChanges_32 ?_
          obtain ⟨q4, eq4, hf⟩ := bnd hf
          refine mcVv (rest := []) (Bn := [w10 cs o_x a_x v2.2.2.1, w9 cs (a_x 2) a_t s_t, w9 cs (a_x 9) a_t2 q4, w2 cs (a_x 8) a0n v2.2.2.2.2.1, w7 cs (a_x 1) a_g v2.2.2.2.2.2]) (isR := [0, 3, 4]) (isC := [2, 1]) (i0 := 2) ⟨hx, hb, hml, hown, hts⟩ hK hP hD hS hA hG (c9_copyFrom l D cs (a_x 9) a_t2 (a_x 2) a_t v2.2.2.2.1 s_t H.size _ eq4) (cwV 1 hts (gV wd599 wd500 wd501 wd107 wd502) rfl rfl rfl (by decide +kernel) ⟨by rw [hR]; exact Nat.le_of_ble_eq_true rfl, by rw [hR]; exact Nat.le_of_ble_eq_true rfl⟩) 5 (by decide) rfl rfl rfl rfl rfl rfl rfl e9 rfl rfl rfl hl.1 rfl (Nat.le_of_ble_eq_true rfl) ⟨Nat.zero_le _, Nat.zero_le _⟩ dX10_foreseeChanges_35 (fun H locs hP hD hS => ?_)
          refine lv_aload_n hx hb dX10_foreseeChanges_38 rfl (lv_at hl 0 rfl) ?_
          refine gfB (i0 := 0) (own := RX10) (T := TX10) (k := 9) (v := .ref (a_x 9)) hx hb htX10 hown hK hP rfl e10 rfl (by decide) (hW _ wd437) rfl dX10_foreseeChanges_39 ?_
          refine lv_iload_n hx hb dX10_foreseeChanges_42 rfl (lv_at hl 1 rfl) ?_
          refine lv_iload hx hb dX10_foreseeChanges_43 (lv_at hl 4 rfl) ?_
          obtain ⟨q5, eq5, hf⟩ := bnd hf
          refine mcVv (rest := []) (Bn := [w10 cs o_x a_x v2.2.2.1, w9 cs (a_x 2) a_t s_t, w9 cs (a_x 9) a_t2 q5, w2 cs (a_x 8) a0n v2.2.2.2.2.1, w7 cs (a_x 1) a_g v2.2.2.2.2.2]) (isR := [0, 1, 3, 4]) (isC := [2]) (i0 := 2) ⟨hx, hb, hml, hown, hts⟩ hK hP hD hS hA hG (c9_changeTwins l D cs (a_x 9) a_t2 q4 H.size x1 v2.2.1 _ eq5) (cwV 2 hts (gV wd1241 wd1242 wd1243 wd107 wd1244) rfl rfl rfl (by decide +kernel) ⟨by rw [hR]; exact Nat.le_of_ble_eq_true rfl, by rw [hR]; exact Nat.le_of_ble_eq_true rfl⟩) 5 (by decide) rfl rfl rfl rfl rfl rfl rfl e9 rfl rfl rfl hl.1 rfl (Nat.le_of_ble_eq_true rfl) ⟨Nat.zero_le _, Nat.zero_le _⟩ dX10_foreseeChanges_45 (fun H locs hP hD hS => ?_)
          refine lv_iconst (v := 0) hx hb dX10_foreseeChanges_48 (by decide) ?_
          refine lv_istore (lv' := [(5, .int 0), (0, .ref o_x), (1, .int x1), (2, .int x2), (3, .int v2.1), (4, .int v2.2.1)]) hx hb dX10_foreseeChanges_49 hl (by decide) rfl (fun ls hl => ?_)
          obtain ⟨q6, hq6, hf⟩ := bnd hf
          obtain ⟨n6, hq6⟩ := lpw_ex hq6
          have Jq6_0 : ∀ rr6_0 : St × St × St × St, q6 = rr6_0 → ∀ (H : Heap) (locs : List Loc) (ls : Array Slot), va_P D vwCl (List.flatten [w10 cs o_x a_x rr6_0.1, w9 cs (a_x 2) a_t s_t, w9 cs (a_x 9) a_t2 rr6_0.2.1, w2 cs (a_x 8) a0n rr6_0.2.2.1, w7 cs (a_x 1) a_g rr6_0.2.2.2]) H → va_D A (List.flatten [w10 cs o_x a_x rr6_0.1, w9 cs (a_x 2) a_t s_t, w9 cs (a_x 9) a_t2 rr6_0.2.1, w2 cs (a_x 8) a0n rr6_0.2.2.1, w7 cs (a_x 1) a_g rr6_0.2.2.2]) → va_S A s.heap H locs → lv_has ls 6 [(0, .ref o_x), (1, .int x1), (2, .int x2), (3, .int v2.1), (4, .int v2.2.1)] → W p l e R s m args below meth c H locs 0 0 Q (F0 m 95 ls []) := by
            intro rr6_0 eq6 H locs ls hP hD hS hl
            subst eq6
            refine lv_iinc (v := (v2.1 + 1)) (lv' := [(3, .int (v2.1 + 1)), (0, .ref o_x), (1, .int x1), (2, .int x2), (4, .int v2.2.1)]) hx hb dX10_foreseeChanges_95 hl (k := 3) rfl rfl (by decide) rfl (fun ls hl => ?_)
            exact Jq3 _ (Option.some.inj hf).symm _ _ _ hP hD hS (lv_sub hl [1, 2, 3, 0, 4] rfl)
          clear hf
          have L6 : ∀ n6, ∀ v7 : Int32 × St × St × St × St, lp n6 (f10_foreseeChanges_L6 v2) v7 = some q6 → ∀ (H : Heap) (locs : List Loc) (ls : Array Slot), va_P D vwCl (List.flatten [w10 cs o_x a_x v7.2.1, w9 cs (a_x 2) a_t s_t, w9 cs (a_x 9) a_t2 v7.2.2.1, w2 cs (a_x 8) a0n v7.2.2.2.1, w7 cs (a_x 1) a_g v7.2.2.2.2]) H → va_D A (List.flatten [w10 cs o_x a_x v7.2.1, w9 cs (a_x 2) a_t s_t, w9 cs (a_x 9) a_t2 v7.2.2.1, w2 cs (a_x 8) a0n v7.2.2.2.1, w7 cs (a_x 1) a_g v7.2.2.2.2]) → va_S A s.heap H locs → lv_has ls 6 [(0, .ref o_x), (1, .int x1), (2, .int x2), (3, .int v2.1), (4, .int v2.2.1), (5, .int v7.1)] → W p l e R s m args below meth c H locs 0 0 Q (F0 m 51 ls []) := by
            intro n6
            induction n6 with
            | zero => intro v7 hn; cases hn
            | succ n6 ih6 =>
              intro v7 hn6 H locs ls hP hD hS hl
              obtain ⟨y6, hf, hn6⟩ := lp_succ hn6
              unfold f10_foreseeChanges_L6 at hf
              refine lv_iload hx hb dX10_foreseeChanges_51 (lv_at hl 5 rfl) ?_
              refine lv_bipush (v := 48) hx hb dX10_foreseeChanges_53 (by decide) ?_
              refine lv_icmp_ge (tgt := 95) hx hb dX10_foreseeChanges_55 (by decide) (fun hc => ?_) (fun hc => ?_)
              · have hf := ifp hc hf
                cases hf
                exact Jq6_0 _ (Option.some.inj hn6).symm _ _ _ hP hD hS (lv_sub hl [0, 1, 2, 3, 4] rfl)
              · have hf := ifn hc hf
                refine lv_aload_n hx hb dX10_foreseeChanges_58 rfl (lv_at hl 0 rfl) ?_
                refine gfB (i0 := 0) (own := RX10) (T := TX10) (k := 8) (v := .ref (a_x 8)) hx hb htX10 hown hK hP rfl e10 rfl (by decide) (hW _ wd436) rfl dX10_foreseeChanges_59 ?_
                refine lv_aload_n hx hb dX10_foreseeChanges_62 rfl (lv_at hl 0 rfl) ?_
                refine gfB (i0 := 0) (own := RX10) (T := TX10) (k := 1) (v := .ref (a_x 1)) hx hb htX10 hown hK hP rfl e10 rfl (by decide) (hW _ wd429) rfl dX10_foreseeChanges_63 ?_
                refine lv_aload_n hx hb dX10_foreseeChanges_66 rfl (lv_at hl 0 rfl) ?_
                refine gfB (i0 := 0) (own := RX10) (T := TX10) (k := 9) (v := .ref (a_x 9)) hx hb htX10 hown hK hP rfl e10 rfl (by decide) (hW _ wd437) rfl dX10_foreseeChanges_67 ?_
                obtain ⟨q8, eq8, hf⟩ := bnd hf
                refine mcVv (rest := []) (Bn := [w10 cs o_x a_x v7.2.1, w9 cs (a_x 2) a_t s_t, w9 cs (a_x 9) a_t2 q8.2.2, w2 cs (a_x 8) a0n q8.1, w7 cs (a_x 1) a_g q8.2.1]) (isR := [0, 1]) (isC := [3, 4, 2]) (i0 := 3) ⟨hx, hb, hml, hown, hts⟩ hK hP hD hS hA hG (c2_passHour l D cs (a_x 8) (a_x 1) a_g (a_x 9) a_t2 v7.2.2.2.1 v7.2.2.2.2 v7.2.2.1 H.size _ eq8) (cwV 2 hts (gV wd506 wd507 wd508 wd112 wd509) rfl rfl rfl (by decide +kernel) ⟨by rw [hR]; exact Nat.le_of_ble_eq_true rfl, by rw [hR]; exact Nat.le_of_ble_eq_true rfl⟩) 5 (by decide) rfl rfl rfl rfl rfl rfl rfl e2 rfl rfl rfl hl.1 rfl (Nat.le_of_ble_eq_true rfl) ⟨Nat.zero_le _, Nat.zero_le _⟩ dX10_foreseeChanges_70 (fun H locs hP hD hS => ?_)
                refine lv_aload_n hx hb dX10_foreseeChanges_73 rfl (lv_at hl 0 rfl) ?_
                refine gfB (i0 := 0) (own := RX10) (T := TX10) (k := 13) (v := .ref (a_x 13)) hx hb htX10 hown hK hP rfl e10 rfl (by decide) (hW _ wd441) rfl dX10_foreseeChanges_74 ?_
                refine lv_iload_n hx hb dX10_foreseeChanges_77 rfl (lv_at hl 3 rfl) ?_
                obtain ⟨q9, eq9, hf⟩ := bnd hf
                obtain ⟨gq9, eq9, bq9⟩ := ckO_e eq9
                refine qldG (i0 := 0) hx hb hK hP rfl a10_13 gq9 dX10_foreseeChanges_78 ?_
                refine lv_nmr (a := a_x (100 + q9)) (by rw [eq9]; rfl) ?_
                refine lv_iload hx hb dX10_foreseeChanges_79 (lv_at hl 5 rfl) ?_
                refine lv_aload_n hx hb dX10_foreseeChanges_81 rfl (lv_at hl 0 rfl) ?_
                refine gfB (i0 := 0) (own := RX10) (T := TX10) (k := 8) (v := .ref (a_x 8)) hx hb htX10 hown hK hP rfl e10 rfl (by decide) (hW _ wd436) rfl dX10_foreseeChanges_82 ?_
                refine gfB (i0 := 3) (own := RX10) (T := TX2) (k := 0) (v := .int (q8.1.1 0)) hx hb htX2 hown hK hP rfl e2 rfl (by decide) (hW _ wd348) rfl dX10_foreseeChanges_85 ?_
                obtain ⟨s10, es10, hf⟩ := bnd hf
                obtain ⟨gs10, es10⟩ := stS_e es10
                refine astB (i0 := 0) (Bn := [w10 cs o_x a_x s10, w9 cs (a_x 2) a_t s_t, w9 cs (a_x 9) a_t2 q8.2.2, w2 cs (a_x 8) a0n q8.1, w7 cs (a_x 1) a_g q8.2.1]) hx hb hK hP hD hS rfl (r10_13 q9 bq9) gs10 rfl dX10_foreseeChanges_88 (by rw [← es10]; exact (rv10_13 q9 bq9)) rfl (fun H locs hP hD hS => ?_)
                refine lv_iinc (v := (v7.1 + 1)) (lv' := [(5, .int (v7.1 + 1)), (0, .ref o_x), (1, .int x1), (2, .int x2), (3, .int v2.1), (4, .int v2.2.1)]) hx hb dX10_foreseeChanges_89 hl (k := 5) rfl rfl (by decide) rfl (fun ls hl => ?_)
                refine lv_goto (tgt := 51) hx hb dX10_foreseeChanges_92 (by decide) ?_
                cases hf
                exact ih6 _ hn6 _ _ _ hP hD hS (lv_sub hl [1, 2, 3, 4, 5, 0] rfl)
          exact L6 _ _ hq6 _ _ _ hP hD hS (lv_sub hl [1, 2, 3, 4, 5, 0] rfl)
  exact L1 _ _ hq1 _ _ _ hP hD hS (lv_sub hl [2, 3, 4, 1, 0] rfl)
/-! TwinLamps.unlikeSets -/
noncomputable def f10_unlikeSets_L3 (s_x : St) (x2 : Int32) (v2 : Int32 × Int32) (v4 : Int32 × Int32) : Option ((Int32 × Int32) ⊕ (Int32)) :=
  if v2.2 ≤ v4.2 then some (.inr v4.1) else (ckO 12 v4.2).bind fun q5 =>
  (ldO 48 (s_x.2 (100 + q5)) x2).bind fun q6 =>
  (ckO 12 v2.2).bind fun q7 =>
  (ldO 48 (s_x.2 (100 + q7)) x2).bind fun q8 =>
  ((if q6 = q8 then some (v4.1 + 1) else some v4.1 : Option (Int32))).bind fun q9 =>
  some (.inl (q9, (v4.2 + 1)))
noncomputable def f10_unlikeSets_L1 (s_x : St) (x1 : Int32) (x2 : Int32) (v2 : Int32 × Int32) : Option ((Int32 × Int32) ⊕ (Int32)) :=
  if x1 ≤ v2.2 then some (.inr v2.1) else (lpw (f10_unlikeSets_L3 s_x x2 v2) (0, 0)).bind fun q3 =>
  ((if q3 = 0 then some (v2.1 + 1) else some v2.1 : Option (Int32))).bind fun q10 =>
  some (.inl (q10, (v2.2 + 1)))
noncomputable def f10_unlikeSets (s_x : St) (x1 : Int32) (x2 : Int32) : Option (Int32) :=
  (lpw (f10_unlikeSets_L1 s_x x1 x2) (0, 0)).bind fun q1 =>
  some q1
set_option maxHeartbeats 4000000 in
set_option maxRecDepth 100000 in
theorem c10_unlikeSets (l : Launch) (D : va_G) (cs : xE) (o_x : Nat) (a_x : Nat → Nat) (s_x : St) (sz : Nat) (x1 : Int32) (x2 : Int32) (res : Int32) (hf : f10_unlikeSets s_x x1 x2 = some res) : Met l yX10_unlikeSets (Cond.code yX10_unlikeSets cX10_unlikeSets 7 (some .int) :: WG) { frames := 0, cells := 0, slots := 0, locals := 0 } (va_Pc [.ref o_x, .int x1, .int x2] (mP D cs (List.flatten [w10 cs o_x a_x s_x]) sz)) (qI D cs res (List.flatten [w10 cs o_x a_x s_x]) (va_A (List.flatten [w10 cs o_x a_x s_x]) sz)) 0 0 (va_A (List.flatten [w10 cs o_x a_x s_x]) sz) := by
  refine mgo (Qc := qI D cs res (List.flatten [w10 cs o_x a_x s_x])) (cc := cX10_unlikeSets) (maxL := 7) (ret := (some .int)) (by decide) rfl (Nat.le_of_ble_eq_true rfl) ?_
  intro p e s m below meth c ls A R Q args H hR hQ hx hb hml hr hlocks hown hts hP hK hD hA hS hG hl
  have hown : s.vm.findClass RX10 = some m.cls := hown
  have hl : lv_has ls 7 [(0, .ref o_x), (1, .int x1), (2, .int x2)] := hl
  have hW : ∀ w ∈ WG, w.before args s = true := fun w h => hts w (List.mem_cons_of_mem _ h)
  have htX10 : ∀ w ∈ u_ws RX10 TX10 14, w.before args s = true := fun w h => hW w (inW_X10 w h)
  unfold f10_unlikeSets at hf
  refine lv_iconst (v := 0) hx hb dX10_unlikeSets_0 (by decide) ?_
  refine lv_istore_n (lv' := [(3, .int 0), (0, .ref o_x), (1, .int x1), (2, .int x2)]) hx hb dX10_unlikeSets_1 rfl hl (by decide) rfl (fun ls hl => ?_)
  refine lv_iconst (v := 0) hx hb dX10_unlikeSets_2 (by decide) ?_
  refine lv_istore (lv' := [(4, .int 0), (3, .int 0), (0, .ref o_x), (1, .int x1), (2, .int x2)]) hx hb dX10_unlikeSets_3 hl (by decide) rfl (fun ls hl => ?_)
  obtain ⟨q1, hq1, hf⟩ := bnd hf
  obtain ⟨n1, hq1⟩ := lpw_ex hq1
  have Jq1_0 : ∀ rr1_0 : Int32, q1 = rr1_0 → ∀ (H : Heap) (locs : List Loc) (ls : Array Slot), va_P D vwCl (List.flatten [w10 cs o_x a_x s_x]) H → va_D A (List.flatten [w10 cs o_x a_x s_x]) → va_S A s.heap H locs → lv_has ls 7 [(3, .int rr1_0)] → W p l e R s m args below meth c H locs 0 0 Q (F0 m 68 ls []) := by
    intro rr1_0 eq1 H locs ls hP hD hS hl
    subst eq1
    refine lv_iload_n hx hb dX10_unlikeSets_68 rfl (lv_at hl 0 rfl) ?_
    obtain rfl := Option.some.inj hf
    exact mretI hx hb hr hlocks hK hP hD hS rfl hQ dX10_unlikeSets_69
  clear hf
  have L1 : ∀ n1, ∀ v2 : Int32 × Int32, lp n1 (f10_unlikeSets_L1 s_x x1 x2) v2 = some q1 → ∀ (H : Heap) (locs : List Loc) (ls : Array Slot), va_P D vwCl (List.flatten [w10 cs o_x a_x s_x]) H → va_D A (List.flatten [w10 cs o_x a_x s_x]) → va_S A s.heap H locs → lv_has ls 7 [(0, .ref o_x), (1, .int x1), (2, .int x2), (3, .int v2.1), (4, .int v2.2)] → W p l e R s m args below meth c H locs 0 0 Q (F0 m 5 ls []) := by
    intro n1
    induction n1 with
    | zero => intro v2 hn; cases hn
    | succ n1 ih1 =>
      intro v2 hn1 H locs ls hP hD hS hl
      obtain ⟨y1, hf, hn1⟩ := lp_succ hn1
      unfold f10_unlikeSets_L1 at hf
      refine lv_iload hx hb dX10_unlikeSets_5 (lv_at hl 4 rfl) ?_
      refine lv_iload_n hx hb dX10_unlikeSets_7 rfl (lv_at hl 1 rfl) ?_
      refine lv_icmp_ge (tgt := 68) hx hb dX10_unlikeSets_8 (by decide) (fun hc => ?_) (fun hc => ?_)
      · have hf := ifp hc hf
        cases hf
        exact Jq1_0 _ (Option.some.inj hn1).symm _ _ _ hP hD hS (lv_sub hl [3] rfl)
      · have hf := ifn hc hf
        refine lv_iconst (v := 0) hx hb dX10_unlikeSets_11 (by decide) ?_
        refine lv_istore (lv' := [(5, .int 0), (0, .ref o_x), (1, .int x1), (2, .int x2), (3, .int v2.1), (4, .int v2.2)]) hx hb dX10_unlikeSets_12 hl (by decide) rfl (fun ls hl => ?_)
        refine lv_iconst (v := 0) hx hb dX10_unlikeSets_14 (by decide) ?_
        refine lv_istore (lv' := [(6, .int 0), (5, .int 0), (0, .ref o_x), (1, .int x1), (2, .int x2), (3, .int v2.1), (4, .int v2.2)]) hx hb dX10_unlikeSets_15 hl (by decide) rfl (fun ls hl => ?_)
        obtain ⟨q3, hq3, hf⟩ := bnd hf
        obtain ⟨n3, hq3⟩ := lpw_ex hq3
        have Jq3_0 : ∀ rr3_0 : Int32, q3 = rr3_0 → ∀ (H : Heap) (locs : List Loc) (ls : Array Slot), va_P D vwCl (List.flatten [w10 cs o_x a_x s_x]) H → va_D A (List.flatten [w10 cs o_x a_x s_x]) → va_S A s.heap H locs → lv_has ls 7 [(0, .ref o_x), (1, .int x1), (2, .int x2), (3, .int v2.1), (4, .int v2.2), (5, .int rr3_0)] → W p l e R s m args below meth c H locs 0 0 Q (F0 m 54 ls []) := by
          intro rr3_0 eq3 H locs ls hP hD hS hl
          subst eq3
          refine lv_iload hx hb dX10_unlikeSets_54 (lv_at hl 5 rfl) ?_
          obtain ⟨q10, hq10, hf⟩ := bnd hf
          have Jq10 : ∀ r10 : Int32, q10 = r10 → ∀ (H : Heap) (locs : List Loc) (ls : Array Slot), va_P D vwCl (List.flatten [w10 cs o_x a_x s_x]) H → va_D A (List.flatten [w10 cs o_x a_x s_x]) → va_S A s.heap H locs → lv_has ls 7 [(0, .ref o_x), (1, .int x1), (2, .int x2), (3, .int r10), (4, .int v2.2)] → W p l e R s m args below meth c H locs 0 0 Q (F0 m 62 ls []) := by
            intro r10 eq10 H locs ls hP hD hS hl
            subst eq10
            refine lv_iinc (v := (v2.2 + 1)) (lv' := [(4, .int (v2.2 + 1)), (0, .ref o_x), (1, .int x1), (2, .int x2), (3, .int q10)]) hx hb dX10_unlikeSets_62 hl (k := 4) rfl rfl (by decide) rfl (fun ls hl => ?_)
            refine lv_goto (tgt := 5) hx hb dX10_unlikeSets_65 (by decide) ?_
            cases hf
            exact ih1 _ hn1 _ _ _ hP hD hS (lv_sub hl [1, 2, 3, 4, 0] rfl)
          clear hf
          have hf := hq10
          refine lv_if_ne (tgt := 62) hx hb dX10_unlikeSets_56 (by decide) (fun hc => ?_) (fun hc => ?_)
          · have hf := ifn hc hf
            exact Jq10 _ (Option.some.inj hf).symm _ _ _ hP hD hS (lv_sub hl [0, 1, 2, 3, 4] rfl)
          · have hf := ifp hc hf
            refine lv_iinc (v := (v2.1 + 1)) (lv' := [(3, .int (v2.1 + 1)), (0, .ref o_x), (1, .int x1), (2, .int x2), (4, .int v2.2), (5, .int q3)]) hx hb dX10_unlikeSets_59 hl (k := 3) rfl rfl (by decide) rfl (fun ls hl => ?_)
            exact Jq10 _ (Option.some.inj hf).symm _ _ _ hP hD hS (lv_sub hl [1, 2, 3, 0, 4] rfl)
        clear hf
        have L3 : ∀ n3, ∀ v4 : Int32 × Int32, lp n3 (f10_unlikeSets_L3 s_x x2 v2) v4 = some q3 → ∀ (H : Heap) (locs : List Loc) (ls : Array Slot), va_P D vwCl (List.flatten [w10 cs o_x a_x s_x]) H → va_D A (List.flatten [w10 cs o_x a_x s_x]) → va_S A s.heap H locs → lv_has ls 7 [(0, .ref o_x), (1, .int x1), (2, .int x2), (3, .int v2.1), (4, .int v2.2), (5, .int v4.1), (6, .int v4.2)] → W p l e R s m args below meth c H locs 0 0 Q (F0 m 17 ls []) := by
          intro n3
          induction n3 with
          | zero => intro v4 hn; cases hn
          | succ n3 ih3 =>
            intro v4 hn3 H locs ls hP hD hS hl
            obtain ⟨y3, hf, hn3⟩ := lp_succ hn3
            unfold f10_unlikeSets_L3 at hf
            refine lv_iload hx hb dX10_unlikeSets_17 (lv_at hl 6 rfl) ?_
            refine lv_iload hx hb dX10_unlikeSets_19 (lv_at hl 4 rfl) ?_
            refine lv_icmp_ge (tgt := 54) hx hb dX10_unlikeSets_21 (by decide) (fun hc => ?_) (fun hc => ?_)
            · have hf := ifp hc hf
              cases hf
              exact Jq3_0 _ (Option.some.inj hn3).symm _ _ _ hP hD hS (lv_sub hl [0, 1, 2, 3, 4, 5] rfl)
            · have hf := ifn hc hf
              refine lv_aload_n hx hb dX10_unlikeSets_24 rfl (lv_at hl 0 rfl) ?_
              refine gfB (i0 := 0) (own := RX10) (T := TX10) (k := 13) (v := .ref (a_x 13)) hx hb htX10 hown hK hP rfl e10 rfl (by decide) (hW _ wd441) rfl dX10_unlikeSets_25 ?_
              refine lv_iload hx hb dX10_unlikeSets_28 (lv_at hl 6 rfl) ?_
              obtain ⟨q5, eq5, hf⟩ := bnd hf
              obtain ⟨gq5, eq5, bq5⟩ := ckO_e eq5
              refine qldG (i0 := 0) hx hb hK hP rfl a10_13 gq5 dX10_unlikeSets_30 ?_
              refine lv_nmr (a := a_x (100 + q5)) (by rw [eq5]; rfl) ?_
              refine lv_iload_n hx hb dX10_unlikeSets_31 rfl (lv_at hl 2 rfl) ?_
              obtain ⟨q6, eq6, hf⟩ := bnd hf
              obtain ⟨gq6, eq6⟩ := ldO_e eq6
              refine aldB (i0 := 0) hx hb hK hP rfl (r10_13 q5 bq5) gq6 dX10_unlikeSets_32 ?_
              refine lv_nm eq6 ?_
              refine lv_aload_n hx hb dX10_unlikeSets_33 rfl (lv_at hl 0 rfl) ?_
              refine gfB (i0 := 0) (own := RX10) (T := TX10) (k := 13) (v := .ref (a_x 13)) hx hb htX10 hown hK hP rfl e10 rfl (by decide) (hW _ wd441) rfl dX10_unlikeSets_34 ?_
              refine lv_iload hx hb dX10_unlikeSets_37 (lv_at hl 4 rfl) ?_
              obtain ⟨q7, eq7, hf⟩ := bnd hf
              obtain ⟨gq7, eq7, bq7⟩ := ckO_e eq7
              refine qldG (i0 := 0) hx hb hK hP rfl a10_13 gq7 dX10_unlikeSets_39 ?_
              refine lv_nmr (a := a_x (100 + q7)) (by rw [eq7]; rfl) ?_
              refine lv_iload_n hx hb dX10_unlikeSets_40 rfl (lv_at hl 2 rfl) ?_
              obtain ⟨q8, eq8, hf⟩ := bnd hf
              obtain ⟨gq8, eq8⟩ := ldO_e eq8
              refine aldB (i0 := 0) hx hb hK hP rfl (r10_13 q7 bq7) gq8 dX10_unlikeSets_41 ?_
              refine lv_nm eq8 ?_
              obtain ⟨q9, hq9, hf⟩ := bnd hf
              have Jq9 : ∀ r9 : Int32, q9 = r9 → ∀ (H : Heap) (locs : List Loc) (ls : Array Slot), va_P D vwCl (List.flatten [w10 cs o_x a_x s_x]) H → va_D A (List.flatten [w10 cs o_x a_x s_x]) → va_S A s.heap H locs → lv_has ls 7 [(0, .ref o_x), (1, .int x1), (2, .int x2), (3, .int v2.1), (4, .int v2.2), (5, .int r9), (6, .int v4.2)] → W p l e R s m args below meth c H locs 0 0 Q (F0 m 48 ls []) := by
                intro r9 eq9 H locs ls hP hD hS hl
                subst eq9
                refine lv_iinc (v := (v4.2 + 1)) (lv' := [(6, .int (v4.2 + 1)), (0, .ref o_x), (1, .int x1), (2, .int x2), (3, .int v2.1), (4, .int v2.2), (5, .int q9)]) hx hb dX10_unlikeSets_48 hl (k := 6) rfl rfl (by decide) rfl (fun ls hl => ?_)
                refine lv_goto (tgt := 17) hx hb dX10_unlikeSets_51 (by decide) ?_
                cases hf
                exact ih3 _ hn3 _ _ _ hP hD hS (lv_sub hl [1, 2, 3, 4, 5, 6, 0] rfl)
              clear hf
              have hf := hq9
              refine lv_icmp_ne (tgt := 48) hx hb dX10_unlikeSets_42 (by decide) (fun hc => ?_) (fun hc => ?_)
              · have hf := ifn hc hf
                exact Jq9 _ (Option.some.inj hf).symm _ _ _ hP hD hS (lv_sub hl [0, 1, 2, 3, 4, 5, 6] rfl)
              · have hf := ifp hc hf
                refine lv_iinc (v := (v4.1 + 1)) (lv' := [(5, .int (v4.1 + 1)), (0, .ref o_x), (1, .int x1), (2, .int x2), (3, .int v2.1), (4, .int v2.2), (6, .int v4.2)]) hx hb dX10_unlikeSets_45 hl (k := 5) rfl rfl (by decide) rfl (fun ls hl => ?_)
                exact Jq9 _ (Option.some.inj hf).symm _ _ _ hP hD hS (lv_sub hl [1, 2, 3, 4, 5, 0, 6] rfl)
        exact L3 _ _ hq3 _ _ _ hP hD hS (lv_sub hl [2, 3, 4, 5, 6, 1, 0] rfl)
  exact L1 _ _ hq1 _ _ _ hP hD hS (lv_sub hl [2, 3, 4, 1, 0] rfl)
/-! TwinLamps.look -/
noncomputable def f10_look_L5 (q4 : Int32 × St × St × St × St) (v6 : Int32 × Int32 × Int32) : Option ((Int32 × Int32 × Int32) ⊕ (Int32 × Int32)) :=
  if (48 : Int32) ≤ v6.2.2 then some (.inr (v6.1, v6.2.1)) else (f10_unlikeSets q4.2.1 q4.1 v6.2.2).bind fun q7 =>
  ((if q7 ≤ v6.2.1 then some (v6.1, v6.2.1) else some ((v6.2.2 + 1), q7) : Option (Int32 × Int32))).bind fun q8 =>
  some (.inl (q8.1, q8.2, (v6.2.2 + 1)))
noncomputable def f10_look (s_x : St) (s_t : St) (s_t2 : St) (s_e : St) (s_g : St) (s_v : St) (x1 : Int32) (x2 : Int32) : Option ((Int32 × St × St × St × St) ⊕ Nat) :=
  xB (f10_needLamp s_x s_t x1) fun q1 =>
  xB (f10_needHourOrMany x2) fun q2 =>
  wI ((f10_changesThatFit s_x s_t s_t2 s_e s_g s_v x1).bind fun q3 =>
  (f10_foreseeChanges s_x s_t q3.2.1 q3.2.2.1 q3.2.2.2 x1 q3.1).bind fun q4 =>
  (lpw (f10_look_L5 q4) ((-1), 0, 0)).bind fun q5 =>
  if x2 = 0 then some (q5.1, q4.2.1, q4.2.2.1, q4.2.2.2.1, q4.2.2.2.2) else some (q5.2, q4.2.1, q4.2.2.1, q4.2.2.2.1, q4.2.2.2.2))
set_option maxHeartbeats 4000000 in
set_option maxRecDepth 100000 in
theorem c10_look (l : Launch) (D : va_G) (cs : xE) (o_x : Nat) (a_x : Nat → Nat) (a_t : Nat → Nat) (a_t2 : Nat → Nat) (a_g : Nat → Nat) (a_v : Nat → Nat) (s_x : St) (s_t : St) (s_t2 : St) (s_e : St) (s_g : St) (s_v : St) (sz : Nat) (x1 : Int32) (x2 : Int32) (res : Int32 × St × St × St × St) (hf : f10_look s_x s_t s_t2 s_e s_g s_v x1 x2 = some (.inl res)) : Met l yX10_look (Cond.code yX10_look cX10_look 8 (some .int) :: WG) { frames := 7, cells := 0, slots := 0, locals := 137 } (va_Pc [.ref o_x, .int x1, .int x2] (mP D cs (List.flatten [w10 cs o_x a_x s_x, w9 cs (a_x 2) a_t s_t, w9 cs (a_x 9) a_t2 s_t2, w2 cs (a_x 8) a0n s_e, w7 cs (a_x 1) a_g s_g, w8 cs (a_x 4) a_v s_v]) sz)) (qI D cs res.1 (List.flatten [w10 cs o_x a_x res.2.1, w9 cs (a_x 2) a_t s_t, w9 cs (a_x 9) a_t2 res.2.2.1, w2 cs (a_x 8) a0n res.2.2.2.1, w7 cs (a_x 1) a_g res.2.2.2.2, w8 cs (a_x 4) a_v s_v]) (va_A (List.flatten [w10 cs o_x a_x s_x, w9 cs (a_x 2) a_t s_t, w9 cs (a_x 9) a_t2 s_t2, w2 cs (a_x 8) a0n s_e, w7 cs (a_x 1) a_g s_g, w8 cs (a_x 4) a_v s_v]) sz)) 0 0 (va_A (List.flatten [w10 cs o_x a_x s_x, w9 cs (a_x 2) a_t s_t, w9 cs (a_x 9) a_t2 s_t2, w2 cs (a_x 8) a0n s_e, w7 cs (a_x 1) a_g s_g, w8 cs (a_x 4) a_v s_v]) sz) := by
  refine mgo (Qc := qI D cs res.1 (List.flatten [w10 cs o_x a_x res.2.1, w9 cs (a_x 2) a_t s_t, w9 cs (a_x 9) a_t2 res.2.2.1, w2 cs (a_x 8) a0n res.2.2.2.1, w7 cs (a_x 1) a_g res.2.2.2.2, w8 cs (a_x 4) a_v s_v])) (cc := cX10_look) (maxL := 8) (ret := (some .int)) (by decide) rfl (Nat.le_of_ble_eq_true rfl) ?_
  intro p e s m below meth c ls A R Q args H hR hQ hx hb hml hr hlocks hown hts hP hK hD hA hS hG hl
  have hown : s.vm.findClass RX10 = some m.cls := hown
  have hl : lv_has ls 8 [(0, .ref o_x), (1, .int x1), (2, .int x2)] := hl
  have hW : ∀ w ∈ WG, w.before args s = true := fun w h => hts w (List.mem_cons_of_mem _ h)
  unfold f10_look at hf
  refine lv_aload_n hx hb dX10_look_0 rfl (lv_at hl 0 rfl) ?_
  refine lv_iload_n hx hb dX10_look_1 rfl (lv_at hl 1 rfl) ?_
  obtain ⟨q1, eq1, hf⟩ := xB_l hf
  refine mcVv (rest := []) (Bn := [w10 cs o_x a_x s_x, w9 cs (a_x 2) a_t s_t, w9 cs (a_x 9) a_t2 s_t2, w2 cs (a_x 8) a0n s_e, w7 cs (a_x 1) a_g s_g, w8 cs (a_x 4) a_v s_v]) (isR := [2, 3, 4, 5]) (isC := [0, 1]) (i0 := 0) ⟨hx, hb, hml, hown, hts⟩ hK hP hD hS hA hG (c10_needLamp l D cs o_x a_x a_t s_x s_t H.size x1 _ eq1) (cwV 1 hts (gV wd952 wd954 wd26 wd105 wd955) rfl rfl rfl (by decide +kernel) ⟨by rw [hR]; exact Nat.le_of_ble_eq_true rfl, by rw [hR]; exact Nat.le_of_ble_eq_true rfl⟩) 6 (by decide) rfl rfl rfl rfl rfl rfl rfl e10 rfl rfl rfl hl.1 rfl (Nat.le_of_ble_eq_true rfl) ⟨Nat.zero_le _, Nat.zero_le _⟩ dX10_look_2 (fun H locs hP hD hS => ?_)
  refine lv_iload_n hx hb dX10_look_5 rfl (lv_at hl 2 rfl) ?_
  obtain ⟨q2, eq2, hf⟩ := xB_l hf
  refine mcSv0 (As := [.int x2]) (rest := []) ⟨hx, hb, hml, hown, hts⟩ hK hP hS hA hG (c10_needHourOrMany l D cs H.size x2 _ eq2) (va_cwS 1 hts (gS wd1061 wd1062 wd105 wd1063) rfl rfl rfl (by decide +kernel) ⟨by rw [hR]; exact Nat.le_of_ble_eq_true rfl, by rw [hR]; exact Nat.le_of_ble_eq_true rfl⟩) rfl hl.1 rfl (Nat.le_of_ble_eq_true rfl) ⟨Nat.zero_le _, Nat.zero_le _⟩ dX10_look_6 (fun H locs hP hS => ?_)
  have hf := wI_l hf
  refine lv_aload_n hx hb dX10_look_9 rfl (lv_at hl 0 rfl) ?_
  refine lv_iload_n hx hb dX10_look_10 rfl (lv_at hl 1 rfl) ?_
  refine lv_aload_n hx hb dX10_look_11 rfl (lv_at hl 0 rfl) ?_
  refine lv_iload_n hx hb dX10_look_12 rfl (lv_at hl 1 rfl) ?_
  obtain ⟨q3, eq3, hf⟩ := bnd hf
  refine mcVi (v := q3.1) (rest := [.int x1, .ref o_x]) (Bn := [w10 cs o_x a_x s_x, w9 cs (a_x 2) a_t s_t, w9 cs (a_x 9) a_t2 q3.2.1, w2 cs (a_x 8) a0n q3.2.2.1, w7 cs (a_x 1) a_g q3.2.2.2, w8 cs (a_x 4) a_v s_v]) (isR := []) (isC := [0, 1, 2, 3, 4, 5]) (i0 := 0) ⟨hx, hb, hml, hown, hts⟩ hK hP hD hS hA hG (c10_changesThatFit l D cs o_x a_x a_t a_t2 a_g a_v s_x s_t s_t2 s_e s_g s_v H.size x1 _ eq3) (cwV 1 hts (gV wd1233 wd1235 wd33 wd105 wd1236) rfl rfl rfl (by decide +kernel) ⟨by rw [hR]; exact Nat.le_of_ble_eq_true rfl, by rw [hR]; exact Nat.le_of_ble_eq_true rfl⟩) 6 (by decide) rfl rfl rfl rfl rfl rfl rfl e10 rfl rfl rfl hl.1 rfl (Nat.le_of_ble_eq_true rfl) ⟨Nat.zero_le _, Nat.zero_le _⟩ dX10_look_13 (fun H locs hP hD hS => ?_)
  obtain ⟨q4, eq4, hf⟩ := bnd hf
  refine mcVi (v := q4.1) (rest := []) (Bn := [w10 cs o_x a_x q4.2.1, w9 cs (a_x 2) a_t s_t, w9 cs (a_x 9) a_t2 q4.2.2.1, w2 cs (a_x 8) a0n q4.2.2.2.1, w7 cs (a_x 1) a_g q4.2.2.2.2, w8 cs (a_x 4) a_v s_v]) (isR := [5]) (isC := [0, 1, 2, 3, 4]) (i0 := 0) ⟨hx, hb, hml, hown, hts⟩ hK hP hD hS hA hG (c10_foreseeChanges l D cs o_x a_x a_t a_t2 a_g s_x s_t q3.2.1 q3.2.2.1 q3.2.2.2 H.size x1 q3.1 _ eq4) (cwV 2 hts (gV wd1252 wd1254 wd34 wd105 wd1255) rfl rfl rfl (by decide +kernel) ⟨by rw [hR]; exact Nat.le_of_ble_eq_true rfl, by rw [hR]; exact Nat.le_of_ble_eq_true rfl⟩) 6 (by decide) rfl rfl rfl rfl rfl rfl rfl e10 rfl rfl rfl hl.1 rfl (Nat.le_of_ble_eq_true rfl) ⟨Nat.zero_le _, Nat.zero_le _⟩ dX10_look_16 (fun H locs hP hD hS => ?_)
  refine lv_istore_n (lv' := [(3, .int q4.1), (0, .ref o_x), (1, .int x1), (2, .int x2)]) hx hb dX10_look_19 rfl hl (by decide) rfl (fun ls hl => ?_)
  refine lv_iconst (v := (-1)) hx hb dX10_look_20 (by decide) ?_
  refine lv_istore (lv' := [(4, .int (-1)), (3, .int q4.1), (0, .ref o_x), (1, .int x1), (2, .int x2)]) hx hb dX10_look_21 hl (by decide) rfl (fun ls hl => ?_)
  refine lv_iconst (v := 0) hx hb dX10_look_23 (by decide) ?_
  refine lv_istore (lv' := [(5, .int 0), (4, .int (-1)), (3, .int q4.1), (0, .ref o_x), (1, .int x1), (2, .int x2)]) hx hb dX10_look_24 hl (by decide) rfl (fun ls hl => ?_)
  refine lv_iconst (v := 0) hx hb dX10_look_26 (by decide) ?_
  refine lv_istore (lv' := [(6, .int 0), (5, .int 0), (4, .int (-1)), (3, .int q4.1), (0, .ref o_x), (1, .int x1), (2, .int x2)]) hx hb dX10_look_27 hl (by decide) rfl (fun ls hl => ?_)
  obtain ⟨q5, hq5, hf⟩ := bnd hf
  obtain ⟨n5, hq5⟩ := lpw_ex hq5
  have Jq5_0 : ∀ rr5_0 : Int32 × Int32, q5 = rr5_0 → ∀ (H : Heap) (locs : List Loc) (ls : Array Slot), va_P D vwCl (List.flatten [w10 cs o_x a_x q4.2.1, w9 cs (a_x 2) a_t s_t, w9 cs (a_x 9) a_t2 q4.2.2.1, w2 cs (a_x 8) a0n q4.2.2.2.1, w7 cs (a_x 1) a_g q4.2.2.2.2, w8 cs (a_x 4) a_v s_v]) H → va_D A (List.flatten [w10 cs o_x a_x q4.2.1, w9 cs (a_x 2) a_t s_t, w9 cs (a_x 9) a_t2 q4.2.2.1, w2 cs (a_x 8) a0n q4.2.2.2.1, w7 cs (a_x 1) a_g q4.2.2.2.2, w8 cs (a_x 4) a_v s_v]) → va_S A s.heap H locs → lv_has ls 8 [(2, .int x2), (4, .int rr5_0.1), (5, .int rr5_0.2)] → W p l e R s m args below meth c H locs 0 0 Q (F0 m 68 ls []) := by
    intro rr5_0 eq5 H locs ls hP hD hS hl
    subst eq5
    refine lv_iload_n hx hb dX10_look_68 rfl (lv_at hl 0 rfl) ?_
    refine lv_if_ne (tgt := 77) hx hb dX10_look_69 (by decide) (fun hc => ?_) (fun hc => ?_)
    · have hf := ifn hc hf
      refine lv_iload hx hb dX10_look_77 (lv_at hl 2 rfl) ?_
      obtain rfl := Option.some.inj hf
      exact mretI hx hb hr hlocks hK hP hD hS rfl hQ dX10_look_79
    · have hf := ifp hc hf
      refine lv_iload hx hb dX10_look_72 (lv_at hl 1 rfl) ?_
      refine lv_goto (tgt := 79) hx hb dX10_look_74 (by decide) ?_
      obtain rfl := Option.some.inj hf
      exact mretI hx hb hr hlocks hK hP hD hS rfl hQ dX10_look_79
  clear hf
  have L5 : ∀ n5, ∀ v6 : Int32 × Int32 × Int32, lp n5 (f10_look_L5 q4) v6 = some q5 → ∀ (H : Heap) (locs : List Loc) (ls : Array Slot), va_P D vwCl (List.flatten [w10 cs o_x a_x q4.2.1, w9 cs (a_x 2) a_t s_t, w9 cs (a_x 9) a_t2 q4.2.2.1, w2 cs (a_x 8) a0n q4.2.2.2.1, w7 cs (a_x 1) a_g q4.2.2.2.2, w8 cs (a_x 4) a_v s_v]) H → va_D A (List.flatten [w10 cs o_x a_x q4.2.1, w9 cs (a_x 2) a_t s_t, w9 cs (a_x 9) a_t2 q4.2.2.1, w2 cs (a_x 8) a0n q4.2.2.2.1, w7 cs (a_x 1) a_g q4.2.2.2.2, w8 cs (a_x 4) a_v s_v]) → va_S A s.heap H locs → lv_has ls 8 [(0, .ref o_x), (2, .int x2), (3, .int q4.1), (4, .int v6.1), (5, .int v6.2.1), (6, .int v6.2.2)] → W p l e R s m args below meth c H locs 0 0 Q (F0 m 29 ls []) := by
    intro n5
    induction n5 with
    | zero => intro v6 hn; cases hn
    | succ n5 ih5 =>
      intro v6 hn5 H locs ls hP hD hS hl
      obtain ⟨y5, hf, hn5⟩ := lp_succ hn5
      unfold f10_look_L5 at hf
      refine lv_iload hx hb dX10_look_29 (lv_at hl 5 rfl) ?_
      refine lv_bipush (v := 48) hx hb dX10_look_31 (by decide) ?_
      refine lv_icmp_ge (tgt := 68) hx hb dX10_look_33 (by decide) (fun hc => ?_) (fun hc => ?_)
      · have hf := ifp hc hf
        cases hf
        exact Jq5_0 _ (Option.some.inj hn5).symm _ _ _ hP hD hS (lv_sub hl [1, 3, 4] rfl)
      · have hf := ifn hc hf
        refine lv_aload_n hx hb dX10_look_36 rfl (lv_at hl 0 rfl) ?_
        refine lv_iload_n hx hb dX10_look_37 rfl (lv_at hl 2 rfl) ?_
        refine lv_iload hx hb dX10_look_38 (lv_at hl 5 rfl) ?_
        obtain ⟨q7, eq7, hf⟩ := bnd hf
        refine mcVi (v := q7) (rest := []) (Bn := [w10 cs o_x a_x q4.2.1, w9 cs (a_x 2) a_t s_t, w9 cs (a_x 9) a_t2 q4.2.2.1, w2 cs (a_x 8) a0n q4.2.2.2.1, w7 cs (a_x 1) a_g q4.2.2.2.2, w8 cs (a_x 4) a_v s_v]) (isR := [1, 2, 3, 4, 5]) (isC := [0]) (i0 := 0) ⟨hx, hb, hml, hown, hts⟩ hK hP hD hS hA hG (c10_unlikeSets l D cs o_x a_x q4.2.1 H.size q4.1 v6.2.2 _ eq7) (cwV 2 hts (gV wd1256 wd1258 wd35 wd105 wd1259) rfl rfl rfl (by decide +kernel) ⟨by rw [hR]; exact Nat.le_of_ble_eq_true rfl, by rw [hR]; exact Nat.le_of_ble_eq_true rfl⟩) 6 (by decide) rfl rfl rfl rfl rfl rfl rfl e10 rfl rfl rfl hl.1 rfl (Nat.le_of_ble_eq_true rfl) ⟨Nat.zero_le _, Nat.zero_le _⟩ dX10_look_40 (fun H locs hP hD hS => ?_)
        refine lv_istore (lv' := [(7, .int q7), (0, .ref o_x), (2, .int x2), (3, .int q4.1), (4, .int v6.1), (5, .int v6.2.1), (6, .int v6.2.2)]) hx hb dX10_look_43 hl (by decide) rfl (fun ls hl => ?_)
        refine lv_iload hx hb dX10_look_45 (lv_at hl 0 rfl) ?_
        refine lv_iload hx hb dX10_look_47 (lv_at hl 5 rfl) ?_
        obtain ⟨q8, hq8, hf⟩ := bnd hf
        have Jq8 : ∀ r8 : Int32 × Int32, q8 = r8 → ∀ (H : Heap) (locs : List Loc) (ls : Array Slot), va_P D vwCl (List.flatten [w10 cs o_x a_x q4.2.1, w9 cs (a_x 2) a_t s_t, w9 cs (a_x 9) a_t2 q4.2.2.1, w2 cs (a_x 8) a0n q4.2.2.2.1, w7 cs (a_x 1) a_g q4.2.2.2.2, w8 cs (a_x 4) a_v s_v]) H → va_D A (List.flatten [w10 cs o_x a_x q4.2.1, w9 cs (a_x 2) a_t s_t, w9 cs (a_x 9) a_t2 q4.2.2.1, w2 cs (a_x 8) a0n q4.2.2.2.1, w7 cs (a_x 1) a_g q4.2.2.2.2, w8 cs (a_x 4) a_v s_v]) → va_S A s.heap H locs → lv_has ls 8 [(0, .ref o_x), (2, .int x2), (3, .int q4.1), (4, .int r8.1), (5, .int r8.2), (6, .int v6.2.2)] → W p l e R s m args below meth c H locs 0 0 Q (F0 m 62 ls []) := by
          intro r8 eq8 H locs ls hP hD hS hl
          subst eq8
          refine lv_iinc (v := (v6.2.2 + 1)) (lv' := [(6, .int (v6.2.2 + 1)), (0, .ref o_x), (2, .int x2), (3, .int q4.1), (4, .int q8.1), (5, .int q8.2)]) hx hb dX10_look_62 hl (k := 5) rfl rfl (by decide) rfl (fun ls hl => ?_)
          refine lv_goto (tgt := 29) hx hb dX10_look_65 (by decide) ?_
          cases hf
          exact ih5 _ hn5 _ _ _ hP hD hS (lv_sub hl [1, 2, 3, 4, 5, 0] rfl)
        clear hf
        have hf := hq8
        refine lv_icmp_le (tgt := 62) hx hb dX10_look_49 (by decide) (fun hc => ?_) (fun hc => ?_)
        · have hf := ifp hc hf
          exact Jq8 _ (Option.some.inj hf).symm _ _ _ hP hD hS (lv_sub hl [1, 2, 3, 4, 5, 6] rfl)
        · have hf := ifn hc hf
          refine lv_iload hx hb dX10_look_52 (lv_at hl 0 rfl) ?_
          refine lv_istore (lv' := [(5, .int q7), (7, .int q7), (0, .ref o_x), (2, .int x2), (3, .int q4.1), (4, .int v6.1), (6, .int v6.2.2)]) hx hb dX10_look_54 hl (by decide) rfl (fun ls hl => ?_)
          refine lv_iload hx hb dX10_look_56 (lv_at hl 6 rfl) ?_
          refine lv_iconst (v := 1) hx hb dX10_look_58 (by decide) ?_
          refine lv_iadd hx hb dX10_look_59 ?_
          refine lv_istore (lv' := [(4, .int (v6.2.2 + 1)), (5, .int q7), (7, .int q7), (0, .ref o_x), (2, .int x2), (3, .int q4.1), (6, .int v6.2.2)]) hx hb dX10_look_60 hl (by decide) rfl (fun ls hl => ?_)
          exact Jq8 _ (Option.some.inj hf).symm _ _ _ hP hD hS (lv_sub hl [3, 4, 5, 0, 1, 6] rfl)
  exact L5 _ _ hq5 _ _ _ hP hD hS (lv_sub hl [4, 6, 3, 2, 1, 0] rfl)
set_option maxHeartbeats 4000000 in
set_option maxRecDepth 100000 in
theorem c10x_look (l : Launch) (D : va_G) (cs : xE) (hl0 : l.stackTraces = false) (o_x : Nat) (a_x : Nat → Nat) (a_t : Nat → Nat) (a_t2 : Nat → Nat) (a_g : Nat → Nat) (a_v : Nat → Nat) (s_x : St) (s_t : St) (s_t2 : St) (s_e : St) (s_g : St) (s_v : St) (sz : Nat) (x1 : Int32) (x2 : Int32) (k : Nat) (hf : f10_look s_x s_t s_t2 s_e s_g s_v x1 x2 = some (.inr k)) : vx_Met l yX10_look (Cond.code yX10_look cX10_look 8 (some .int) :: WG) { frames := 7, cells := 1, slots := 6, locals := 137 } (va_Pc [.ref o_x, .int x1, .int x2] (mP D cs (List.flatten [w10 cs o_x a_x s_x, w9 cs (a_x 2) a_t s_t, w9 cs (a_x 9) a_t2 s_t2, w2 cs (a_x 8) a0n s_e, w7 cs (a_x 1) a_g s_g, w8 cs (a_x 4) a_v s_v]) sz)) (fun _ _ _ _ => False) (qX D cs k (List.flatten [w10 cs o_x a_x s_x, w9 cs (a_x 2) a_t s_t, w9 cs (a_x 9) a_t2 s_t2, w2 cs (a_x 8) a0n s_e, w7 cs (a_x 1) a_g s_g, w8 cs (a_x 4) a_v s_v]) (va_A (List.flatten [w10 cs o_x a_x s_x, w9 cs (a_x 2) a_t s_t, w9 cs (a_x 9) a_t2 s_t2, w2 cs (a_x 8) a0n s_e, w7 cs (a_x 1) a_g s_g, w8 cs (a_x 4) a_v s_v]) sz)) 1 6 (va_A (List.flatten [w10 cs o_x a_x s_x, w9 cs (a_x 2) a_t s_t, w9 cs (a_x 9) a_t2 s_t2, w2 cs (a_x 8) a0n s_e, w7 cs (a_x 1) a_g s_g, w8 cs (a_x 4) a_v s_v]) sz) := by
  refine mgoX (cc := cX10_look) (maxL := 8) (ret := (some .int)) (by decide) rfl (Nat.le_of_ble_eq_true rfl) ?_
  intro p e s m below meth c ls A R Q args H hR hQ hno hx hb hml hr hlocks hown hts hP hK hD hA hS hG hl
  have hown : s.vm.findClass RX10 = some m.cls := hown
  have hl : lv_has ls 8 [(0, .ref o_x), (1, .int x1), (2, .int x2)] := hl
  have hW : ∀ w ∈ WG, w.before args s = true := fun w h => hts w (List.mem_cons_of_mem _ h)
  unfold f10_look at hf
  refine lv_aload_n hx hb dX10_look_0 rfl (lv_at hl 0 rfl) ?_
  refine lv_iload_n hx hb dX10_look_1 rfl (lv_at hl 1 rfl) ?_
  rcases xB_r hf with xq1 | ⟨q1, eq1, hf⟩
  · exact mxV (rest := []) (isR := [2, 3, 4, 5]) (isC := [0, 1]) (i0 := 0) ⟨hx, hb, hml, hown, hts⟩ hK hP hD hS hA hG (c10x_needLamp l D cs hl0 o_x a_x a_t s_x s_t H.size x1 _ xq1) (cwV 1 hts (gV wd952 wd954 wd26 wd105 wd955) rfl rfl rfl (by decide +kernel) ⟨by rw [hR]; exact Nat.le_of_ble_eq_true rfl, by rw [hR]; exact Nat.le_of_ble_eq_true rfl⟩) 6 (by decide) rfl rfl rfl rfl e10 rfl rfl rfl hl.1 rfl (Nat.le_of_ble_eq_true rfl) ⟨by rw [hR]; exact Nat.le_of_ble_eq_true rfl, by rw [hR]; exact Nat.le_of_ble_eq_true rfl⟩ dX10_look_2 hno hlocks hQ
  refine mcVv (rest := []) (Bn := [w10 cs o_x a_x s_x, w9 cs (a_x 2) a_t s_t, w9 cs (a_x 9) a_t2 s_t2, w2 cs (a_x 8) a0n s_e, w7 cs (a_x 1) a_g s_g, w8 cs (a_x 4) a_v s_v]) (isR := [2, 3, 4, 5]) (isC := [0, 1]) (i0 := 0) ⟨hx, hb, hml, hown, hts⟩ hK hP hD hS hA hG (c10_needLamp l D cs o_x a_x a_t s_x s_t H.size x1 _ eq1) (cwV 1 hts (gV wd952 wd954 wd26 wd105 wd955) rfl rfl rfl (by decide +kernel) ⟨by rw [hR]; exact Nat.le_of_ble_eq_true rfl, by rw [hR]; exact Nat.le_of_ble_eq_true rfl⟩) 6 (by decide) rfl rfl rfl rfl rfl rfl rfl e10 rfl rfl rfl hl.1 rfl (Nat.le_of_ble_eq_true rfl) ⟨Nat.zero_le _, Nat.zero_le _⟩ dX10_look_2 (fun H locs hP hD hS => ?_)
  refine lv_iload_n hx hb dX10_look_5 rfl (lv_at hl 2 rfl) ?_
  rcases xB_r hf with xq2 | ⟨q2, eq2, hf⟩
  · exact mxS0 (As := [.int x2]) (rest := []) ⟨hx, hb, hml, hown, hts⟩ hK hP hD hS hA hG (c10x_needHourOrMany l D cs hl0 H.size x2 _ xq2) (va_cwS 1 hts (gS wd1061 wd1062 wd105 wd1063) rfl rfl rfl (by decide +kernel) ⟨by rw [hR]; exact Nat.le_of_ble_eq_true rfl, by rw [hR]; exact Nat.le_of_ble_eq_true rfl⟩) rfl hl.1 rfl (Nat.le_of_ble_eq_true rfl) ⟨by rw [hR]; exact Nat.le_of_ble_eq_true rfl, by rw [hR]; exact Nat.le_of_ble_eq_true rfl⟩ dX10_look_6 hno hlocks hQ
  refine mcSv0 (As := [.int x2]) (rest := []) ⟨hx, hb, hml, hown, hts⟩ hK hP hS hA hG (c10_needHourOrMany l D cs H.size x2 _ eq2) (va_cwS 1 hts (gS wd1061 wd1062 wd105 wd1063) rfl rfl rfl (by decide +kernel) ⟨by rw [hR]; exact Nat.le_of_ble_eq_true rfl, by rw [hR]; exact Nat.le_of_ble_eq_true rfl⟩) rfl hl.1 rfl (Nat.le_of_ble_eq_true rfl) ⟨Nat.zero_le _, Nat.zero_le _⟩ dX10_look_6 (fun H locs hP hS => ?_)
  exact (wI_r hf).elim
/-! TwinLamps.forget -/
noncomputable def f10_forget (s_x : St) (s_v : St) : Option (St) :=
  (f8_clear s_v).bind fun q1 =>
  some q1
set_option maxHeartbeats 4000000 in
set_option maxRecDepth 100000 in
theorem c10_forget (l : Launch) (D : va_G) (cs : xE) (o_x : Nat) (a_x : Nat → Nat) (a_v : Nat → Nat) (s_x : St) (s_v : St) (sz : Nat) (res : St) (hf : f10_forget s_x s_v = some res) : Met l yX10_forget (Cond.code yX10_forget cX10_forget 1 none :: WG) { frames := 1, cells := 0, slots := 0, locals := 20 } (va_Pc [.ref o_x] (mP D cs (List.flatten [w10 cs o_x a_x s_x, w8 cs (a_x 4) a_v s_v]) sz)) (qV D cs (List.flatten [w10 cs o_x a_x s_x, w8 cs (a_x 4) a_v res]) (va_A (List.flatten [w10 cs o_x a_x s_x, w8 cs (a_x 4) a_v s_v]) sz)) 0 0 (va_A (List.flatten [w10 cs o_x a_x s_x, w8 cs (a_x 4) a_v s_v]) sz) := by
  refine mgo (Qc := qV D cs (List.flatten [w10 cs o_x a_x s_x, w8 cs (a_x 4) a_v res])) (cc := cX10_forget) (maxL := 1) (ret := none) (by decide) rfl (Nat.le_of_ble_eq_true rfl) ?_
  intro p e s m below meth c ls A R Q args H hR hQ hx hb hml hr hlocks hown hts hP hK hD hA hS hG hl
  have hown : s.vm.findClass RX10 = some m.cls := hown
  have hl : lv_has ls 1 [(0, .ref o_x)] := hl
  have hW : ∀ w ∈ WG, w.before args s = true := fun w h => hts w (List.mem_cons_of_mem _ h)
  have htX10 : ∀ w ∈ u_ws RX10 TX10 14, w.before args s = true := fun w h => hW w (inW_X10 w h)
  unfold f10_forget at hf
  refine lv_aload_n hx hb dX10_forget_0 rfl (lv_at hl 0 rfl) ?_
  refine gfB (i0 := 0) (own := RX10) (T := TX10) (k := 4) (v := .ref (a_x 4)) hx hb htX10 hown hK hP rfl e10 rfl (by decide) (hW _ wd432) rfl dX10_forget_1 ?_
  obtain ⟨q1, eq1, hf⟩ := bnd hf
  refine mcVv (rest := []) (Bn := [w10 cs o_x a_x s_x, w8 cs (a_x 4) a_v q1]) (isR := [0]) (isC := [1]) (i0 := 1) ⟨hx, hb, hml, hown, hts⟩ hK hP hD hS hA hG (c8_clear l D cs (a_x 4) a_v s_v H.size _ eq1) (cwV 0 hts (gV wd591 wd592 wd593 wd110 wd594) rfl rfl rfl (by decide +kernel) ⟨by rw [hR]; exact Nat.le_of_ble_eq_true rfl, by rw [hR]; exact Nat.le_of_ble_eq_true rfl⟩) 2 (by decide) rfl rfl rfl rfl rfl rfl rfl e8 rfl rfl rfl hl.1 rfl (Nat.le_of_ble_eq_true rfl) ⟨Nat.zero_le _, Nat.zero_le _⟩ dX10_forget_4 (fun H locs hP hD hS => ?_)
  obtain rfl := Option.some.inj hf
  exact mretV hx hb hr hlocks hK hP hD hS hQ dX10_forget_7
/-! TwinLamps.game -/
noncomputable def f10_game (s_x : St) (s_t : St) (s_g : St) (s_u : St) (x1 : Int32) (x2 : Int32) (x3 : Int32) : Option ((Int32 × St × St) ⊕ Nat) :=
  xB (f10_needLamp s_x s_t x1) fun q1 =>
  xB (f10_needLamp s_x s_t x2) fun q2 =>
  xB (f10_needHourOrMany x3) fun q3 =>
  (ldO 12 (s_t.2 10) x1).bind fun q4 =>
  if q4 = x2 then ((f9_canBeLit s_t x1).bind fun q5 =>
  if (zB q5) = 0 then (some (.inr 0))
  else wI ((f9_isLit s_t x1).bind fun q6 =>
  (some (sS s_u 0 (zB q6))).bind fun s7 =>
  ((if x2 ≤ x1 then some false else some true : Option (Bool))).bind fun q8 =>
  (some (sS s7 1 (zB q8))).bind fun s9 =>
  (f7_wantsLit s_g s_t x1 ((s_t.1 2) - (s_t.1 2) / 24 * 24)).bind fun q10 =>
  (some (sS s9 2 (zB q10.1))).bind fun s11 =>
  (f7_wantsLit q10.2 s_t x2 ((s_t.1 2) - (s_t.1 2) / 24 * 24)).bind fun q12 =>
  (some (sS s11 3 (zB q12.1))).bind fun s13 =>
  if x3 = 0 then ((f1_restingCouples s13).bind fun q15 =>
  some (q15.1, q12.2, q15.2))
  else (f1_firstRestingCouple s13).bind fun q14 =>
  some (q14.1, q12.2, q14.2)))
  else some (.inr 0)
set_option maxHeartbeats 4000000 in
set_option maxRecDepth 100000 in
theorem c10_game (l : Launch) (D : va_G) (cs : xE) (o_x : Nat) (a_x : Nat → Nat) (a_t : Nat → Nat) (a_g : Nat → Nat) (s_x : St) (s_t : St) (s_g : St) (s_u : St) (sz : Nat) (x1 : Int32) (x2 : Int32) (x3 : Int32) (res : Int32 × St × St) (hf : f10_game s_x s_t s_g s_u x1 x2 x3 = some (.inl res)) : Met l yX10_game (Cond.code yX10_game cX10_game 5 (some .int) :: WG) { frames := 7, cells := 0, slots := 0, locals := 111 } (va_Pc [.ref o_x, .int x1, .int x2, .int x3] (mP D cs (List.flatten [w10 cs o_x a_x s_x, w9 cs (a_x 2) a_t s_t, w7 cs (a_x 1) a_g s_g, w1 cs (a_x 12) a0n s_u]) sz)) (qI D cs res.1 (List.flatten [w10 cs o_x a_x s_x, w9 cs (a_x 2) a_t s_t, w7 cs (a_x 1) a_g res.2.1, w1 cs (a_x 12) a0n res.2.2]) (va_A (List.flatten [w10 cs o_x a_x s_x, w9 cs (a_x 2) a_t s_t, w7 cs (a_x 1) a_g s_g, w1 cs (a_x 12) a0n s_u]) sz)) 0 0 (va_A (List.flatten [w10 cs o_x a_x s_x, w9 cs (a_x 2) a_t s_t, w7 cs (a_x 1) a_g s_g, w1 cs (a_x 12) a0n s_u]) sz) := by
  refine mgo (Qc := qI D cs res.1 (List.flatten [w10 cs o_x a_x s_x, w9 cs (a_x 2) a_t s_t, w7 cs (a_x 1) a_g res.2.1, w1 cs (a_x 12) a0n res.2.2])) (cc := cX10_game) (maxL := 5) (ret := (some .int)) (by decide) rfl (Nat.le_of_ble_eq_true rfl) ?_
  intro p e s m below meth c ls A R Q args H hR hQ hx hb hml hr hlocks hown hts hP hK hD hA hS hG hl
  have hown : s.vm.findClass RX10 = some m.cls := hown
  have hl : lv_has ls 5 [(0, .ref o_x), (1, .int x1), (2, .int x2), (3, .int x3)] := hl
  have hW : ∀ w ∈ WG, w.before args s = true := fun w h => hts w (List.mem_cons_of_mem _ h)
  have htX1 : ∀ w ∈ u_ws RX1 TX1 6, w.before args s = true := fun w h => hW w (inW_X1 w h)
  have htX10 : ∀ w ∈ u_ws RX10 TX10 14, w.before args s = true := fun w h => hW w (inW_X10 w h)
  have htX9 : ∀ w ∈ u_ws RX9 TX9 11, w.before args s = true := fun w h => hW w (inW_X9 w h)
  unfold f10_game at hf
  refine lv_aload_n hx hb dX10_game_0 rfl (lv_at hl 0 rfl) ?_
  refine lv_iload_n hx hb dX10_game_1 rfl (lv_at hl 1 rfl) ?_
  obtain ⟨q1, eq1, hf⟩ := xB_l hf
  refine mcVv (rest := []) (Bn := [w10 cs o_x a_x s_x, w9 cs (a_x 2) a_t s_t, w7 cs (a_x 1) a_g s_g, w1 cs (a_x 12) a0n s_u]) (isR := [2, 3]) (isC := [0, 1]) (i0 := 0) ⟨hx, hb, hml, hown, hts⟩ hK hP hD hS hA hG (c10_needLamp l D cs o_x a_x a_t s_x s_t H.size x1 _ eq1) (cwV 1 hts (gV wd952 wd954 wd26 wd105 wd955) rfl rfl rfl (by decide +kernel) ⟨by rw [hR]; exact Nat.le_of_ble_eq_true rfl, by rw [hR]; exact Nat.le_of_ble_eq_true rfl⟩) 4 (by decide) rfl rfl rfl rfl rfl rfl rfl e10 rfl rfl rfl hl.1 rfl (Nat.le_of_ble_eq_true rfl) ⟨Nat.zero_le _, Nat.zero_le _⟩ dX10_game_2 (fun H locs hP hD hS => ?_)
  refine lv_aload_n hx hb dX10_game_5 rfl (lv_at hl 0 rfl) ?_
  refine lv_iload_n hx hb dX10_game_6 rfl (lv_at hl 2 rfl) ?_
  obtain ⟨q2, eq2, hf⟩ := xB_l hf
  refine mcVv (rest := []) (Bn := [w10 cs o_x a_x s_x, w9 cs (a_x 2) a_t s_t, w7 cs (a_x 1) a_g s_g, w1 cs (a_x 12) a0n s_u]) (isR := [2, 3]) (isC := [0, 1]) (i0 := 0) ⟨hx, hb, hml, hown, hts⟩ hK hP hD hS hA hG (c10_needLamp l D cs o_x a_x a_t s_x s_t H.size x2 _ eq2) (cwV 1 hts (gV wd952 wd954 wd26 wd105 wd955) rfl rfl rfl (by decide +kernel) ⟨by rw [hR]; exact Nat.le_of_ble_eq_true rfl, by rw [hR]; exact Nat.le_of_ble_eq_true rfl⟩) 4 (by decide) rfl rfl rfl rfl rfl rfl rfl e10 rfl rfl rfl hl.1 rfl (Nat.le_of_ble_eq_true rfl) ⟨Nat.zero_le _, Nat.zero_le _⟩ dX10_game_7 (fun H locs hP hD hS => ?_)
  refine lv_iload_n hx hb dX10_game_10 rfl (lv_at hl 3 rfl) ?_
  obtain ⟨q3, eq3, hf⟩ := xB_l hf
  refine mcSv0 (As := [.int x3]) (rest := []) ⟨hx, hb, hml, hown, hts⟩ hK hP hS hA hG (c10_needHourOrMany l D cs H.size x3 _ eq3) (va_cwS 1 hts (gS wd1061 wd1062 wd105 wd1063) rfl rfl rfl (by decide +kernel) ⟨by rw [hR]; exact Nat.le_of_ble_eq_true rfl, by rw [hR]; exact Nat.le_of_ble_eq_true rfl⟩) rfl hl.1 rfl (Nat.le_of_ble_eq_true rfl) ⟨Nat.zero_le _, Nat.zero_le _⟩ dX10_game_11 (fun H locs hP hS => ?_)
  refine lv_aload_n hx hb dX10_game_14 rfl (lv_at hl 0 rfl) ?_
  refine gfB (i0 := 0) (own := RX10) (T := TX10) (k := 2) (v := .ref (a_x 2)) hx hb htX10 hown hK hP rfl e10 rfl (by decide) (hW _ wd430) rfl dX10_game_15 ?_
  refine gfB (i0 := 1) (own := RX10) (T := TX9) (k := 10) (v := .ref (a_t 10)) hx hb htX9 hown hK hP rfl e9 rfl (by decide) (hW _ wd181) rfl dX10_game_18 ?_
  refine lv_iload_n hx hb dX10_game_21 rfl (lv_at hl 1 rfl) ?_
  obtain ⟨q4, eq4, hf⟩ := bnd hf
  obtain ⟨gq4, eq4⟩ := ldO_e eq4
  refine aldB (i0 := 1) hx hb hK hP rfl a9_10 gq4 dX10_game_22 ?_
  refine lv_nm eq4 ?_
  refine lv_iload_n hx hb dX10_game_23 rfl (lv_at hl 2 rfl) ?_
  refine lv_icmp_ne (tgt := 38) hx hb dX10_game_24 (by decide) (fun hc => ?_) (fun hc => ?_)
  · have hf := ifn hc hf
    cases hf
  · have hf := ifp hc hf
    refine lv_aload_n hx hb dX10_game_27 rfl (lv_at hl 0 rfl) ?_
    refine gfB (i0 := 0) (own := RX10) (T := TX10) (k := 2) (v := .ref (a_x 2)) hx hb htX10 hown hK hP rfl e10 rfl (by decide) (hW _ wd430) rfl dX10_game_28 ?_
    refine lv_iload_n hx hb dX10_game_31 rfl (lv_at hl 1 rfl) ?_
    obtain ⟨q5, eq5, hf⟩ := bnd hf
    refine mcVi (v := (zB q5)) (rest := []) (Bn := [w10 cs o_x a_x s_x, w9 cs (a_x 2) a_t s_t, w7 cs (a_x 1) a_g s_g, w1 cs (a_x 12) a0n s_u]) (isR := [0, 2, 3]) (isC := [1]) (i0 := 1) ⟨hx, hb, hml, hown, hts⟩ hK hP hD hS hA hG (c9_canBeLit l D cs (a_x 2) a_t s_t H.size x1 _ eq5) (cwV 1 hts (gV wd976 wd560 wd561 wd107 wd562) rfl rfl rfl (by decide +kernel) ⟨by rw [hR]; exact Nat.le_of_ble_eq_true rfl, by rw [hR]; exact Nat.le_of_ble_eq_true rfl⟩) 4 (by decide) rfl rfl rfl rfl rfl rfl rfl e9 rfl rfl rfl hl.1 rfl (Nat.le_of_ble_eq_true rfl) ⟨Nat.zero_le _, Nat.zero_le _⟩ dX10_game_32 (fun H locs hP hD hS => ?_)
    refine lv_if_ne (tgt := 49) hx hb dX10_game_35 (by decide) (fun hc => ?_) (fun hc => ?_)
    · have hf := ifn hc hf
      have hf := wI_l hf
      refine lv_aload_n hx hb dX10_game_49 rfl (lv_at hl 0 rfl) ?_
      refine gfB (i0 := 0) (own := RX10) (T := TX10) (k := 2) (v := .ref (a_x 2)) hx hb htX10 hown hK hP rfl e10 rfl (by decide) (hW _ wd430) rfl dX10_game_50 ?_
      refine gfB (i0 := 1) (own := RX10) (T := TX9) (k := 2) (v := .int (s_t.1 2)) hx hb htX9 hown hK hP rfl e9 rfl (by decide) (hW _ wd159) rfl dX10_game_53 ?_
      refine lv_bipush (v := 24) hx hb dX10_game_56 (by decide) ?_
      refine lv_irem hx hb dX10_game_58 (by decide) ?_
      refine lv_istore (lv' := [(4, .int ((s_t.1 2) - (s_t.1 2) / 24 * 24)), (0, .ref o_x), (1, .int x1), (2, .int x2), (3, .int x3)]) hx hb dX10_game_59 hl (by decide) rfl (fun ls hl => ?_)
      refine lv_aload_n hx hb dX10_game_61 rfl (lv_at hl 1 rfl) ?_
      refine gfB (i0 := 0) (own := RX10) (T := TX10) (k := 12) (v := .ref (a_x 12)) hx hb htX10 hown hK hP rfl e10 rfl (by decide) (hW _ wd440) rfl dX10_game_62 ?_
      refine lv_aload_n hx hb dX10_game_65 rfl (lv_at hl 1 rfl) ?_
      refine gfB (i0 := 0) (own := RX10) (T := TX10) (k := 2) (v := .ref (a_x 2)) hx hb htX10 hown hK hP rfl e10 rfl (by decide) (hW _ wd430) rfl dX10_game_66 ?_
      refine lv_iload_n hx hb dX10_game_69 rfl (lv_at hl 2 rfl) ?_
      obtain ⟨q6, eq6, hf⟩ := bnd hf
      refine mcVi (v := (zB q6)) (rest := [.ref (a_x 12)]) (Bn := [w10 cs o_x a_x s_x, w9 cs (a_x 2) a_t s_t, w7 cs (a_x 1) a_g s_g, w1 cs (a_x 12) a0n s_u]) (isR := [0, 2, 3]) (isC := [1]) (i0 := 1) ⟨hx, hb, hml, hown, hts⟩ hK hP hD hS hA hG (c9_isLit l D cs (a_x 2) a_t s_t H.size x1 _ eq6) (cwV 1 hts (gV wd957 wd556 wd557 wd107 wd558) rfl rfl rfl (by decide +kernel) ⟨by rw [hR]; exact Nat.le_of_ble_eq_true rfl, by rw [hR]; exact Nat.le_of_ble_eq_true rfl⟩) 4 (by decide) rfl rfl rfl rfl rfl rfl rfl e9 rfl rfl rfl hl.1 rfl (Nat.le_of_ble_eq_true rfl) ⟨Nat.zero_le _, Nat.zero_le _⟩ dX10_game_70 (fun H locs hP hD hS => ?_)
      obtain ⟨s7, es7, hf⟩ := bnd hf
      replace es7 := Option.some.inj es7
      refine pfB (i0 := 3) (own := RX10) (T := TX1) (k := 0) (Bn := [w10 cs o_x a_x s_x, w9 cs (a_x 2) a_t s_t, w7 cs (a_x 1) a_g s_g, w1 cs (a_x 12) a0n s7]) tyX1 tyX1_ok nmX1 hx hb htX1 hown hK hP hD hS rfl e1 rfl (by decide) (hW _ wd405) rfl (zB_nar q6) (by generalize q6 = zb; cases zb <;> rfl) (Nat.le_of_ble_eq_true rfl) dX10_game_73 (by rw [← es7]; exact u1_0) rfl (fun H locs hP hD hS => ?_)
      refine lv_aload_n hx hb dX10_game_76 rfl (lv_at hl 1 rfl) ?_
      refine gfB (i0 := 0) (own := RX10) (T := TX10) (k := 12) (v := .ref (a_x 12)) hx hb htX10 hown hK hP rfl e10 rfl (by decide) (hW _ wd440) rfl dX10_game_77 ?_
      refine lv_iload_n hx hb dX10_game_80 rfl (lv_at hl 2 rfl) ?_
      refine lv_iload_n hx hb dX10_game_81 rfl (lv_at hl 3 rfl) ?_
      obtain ⟨q8, hq8, hf⟩ := bnd hf
      have Jq8 : ∀ r8 : Bool, q8 = r8 → ∀ (H : Heap) (locs : List Loc) (ls : Array Slot), va_P D vwCl (List.flatten [w10 cs o_x a_x s_x, w9 cs (a_x 2) a_t s_t, w7 cs (a_x 1) a_g s_g, w1 cs (a_x 12) a0n s7]) H → va_D A (List.flatten [w10 cs o_x a_x s_x, w9 cs (a_x 2) a_t s_t, w7 cs (a_x 1) a_g s_g, w1 cs (a_x 12) a0n s7]) → va_S A s.heap H locs → lv_has ls 5 [(0, .ref o_x), (1, .int x1), (2, .int x2), (3, .int x3), (4, .int ((s_t.1 2) - (s_t.1 2) / 24 * 24))] → W p l e R s m args below meth c H locs 0 0 Q (F0 m 90 ls [.int (zB r8), .ref (a_x 12)]) := by
        intro r8 eq8 H locs ls hP hD hS hl
        subst eq8
        obtain ⟨s9, es9, hf⟩ := bnd hf
        replace es9 := Option.some.inj es9
        refine pfB (i0 := 3) (own := RX10) (T := TX1) (k := 1) (Bn := [w10 cs o_x a_x s_x, w9 cs (a_x 2) a_t s_t, w7 cs (a_x 1) a_g s_g, w1 cs (a_x 12) a0n s9]) tyX1 tyX1_ok nmX1 hx hb htX1 hown hK hP hD hS rfl e1 rfl (by decide) (hW _ wd407) rfl (zB_nar q8) (by generalize q8 = zb; cases zb <;> rfl) (Nat.le_of_ble_eq_true rfl) dX10_game_90 (by rw [← es9]; exact u1_1) rfl (fun H locs hP hD hS => ?_)
        refine lv_aload_n hx hb dX10_game_93 rfl (lv_at hl 0 rfl) ?_
        refine gfB (i0 := 0) (own := RX10) (T := TX10) (k := 12) (v := .ref (a_x 12)) hx hb htX10 hown hK hP rfl e10 rfl (by decide) (hW _ wd440) rfl dX10_game_94 ?_
        refine lv_aload_n hx hb dX10_game_97 rfl (lv_at hl 0 rfl) ?_
        refine gfB (i0 := 0) (own := RX10) (T := TX10) (k := 1) (v := .ref (a_x 1)) hx hb htX10 hown hK hP rfl e10 rfl (by decide) (hW _ wd429) rfl dX10_game_98 ?_
        refine lv_aload_n hx hb dX10_game_101 rfl (lv_at hl 0 rfl) ?_
        refine gfB (i0 := 0) (own := RX10) (T := TX10) (k := 2) (v := .ref (a_x 2)) hx hb htX10 hown hK hP rfl e10 rfl (by decide) (hW _ wd430) rfl dX10_game_102 ?_
        refine lv_iload_n hx hb dX10_game_105 rfl (lv_at hl 1 rfl) ?_
        refine lv_iload hx hb dX10_game_106 (lv_at hl 4 rfl) ?_
        obtain ⟨q10, eq10, hf⟩ := bnd hf
        refine mcVi (v := (zB q10.1)) (rest := [.ref (a_x 12)]) (Bn := [w10 cs o_x a_x s_x, w9 cs (a_x 2) a_t s_t, w7 cs (a_x 1) a_g q10.2, w1 cs (a_x 12) a0n s9]) (isR := [0, 3]) (isC := [2, 1]) (i0 := 2) ⟨hx, hb, hml, hown, hts⟩ hK hP hD hS hA hG (c7_wantsLit l D cs (a_x 1) a_g (a_x 2) a_t s_g s_t H.size x1 ((s_t.1 2) - (s_t.1 2) / 24 * 24) _ eq10) (cwV 3 hts (gV wd962 wd519 wd520 wd108 wd521) rfl rfl rfl (by decide +kernel) ⟨by rw [hR]; exact Nat.le_of_ble_eq_true rfl, by rw [hR]; exact Nat.le_of_ble_eq_true rfl⟩) 4 (by decide) rfl rfl rfl rfl rfl rfl rfl e7 rfl rfl rfl hl.1 rfl (Nat.le_of_ble_eq_true rfl) ⟨Nat.zero_le _, Nat.zero_le _⟩ dX10_game_108 (fun H locs hP hD hS => ?_)
        obtain ⟨s11, es11, hf⟩ := bnd hf
        replace es11 := Option.some.inj es11
        refine pfB (i0 := 3) (own := RX10) (T := TX1) (k := 2) (Bn := [w10 cs o_x a_x s_x, w9 cs (a_x 2) a_t s_t, w7 cs (a_x 1) a_g q10.2, w1 cs (a_x 12) a0n s11]) tyX1 tyX1_ok nmX1 hx hb htX1 hown hK hP hD hS rfl e1 rfl (by decide) (hW _ wd409) rfl (zB_nar q10.1) (by generalize q10.1 = zb; cases zb <;> rfl) (Nat.le_of_ble_eq_true rfl) dX10_game_111 (by rw [← es11]; exact u1_2) rfl (fun H locs hP hD hS => ?_)
        refine lv_aload_n hx hb dX10_game_114 rfl (lv_at hl 0 rfl) ?_
        refine gfB (i0 := 0) (own := RX10) (T := TX10) (k := 12) (v := .ref (a_x 12)) hx hb htX10 hown hK hP rfl e10 rfl (by decide) (hW _ wd440) rfl dX10_game_115 ?_
        refine lv_aload_n hx hb dX10_game_118 rfl (lv_at hl 0 rfl) ?_
        refine gfB (i0 := 0) (own := RX10) (T := TX10) (k := 1) (v := .ref (a_x 1)) hx hb htX10 hown hK hP rfl e10 rfl (by decide) (hW _ wd429) rfl dX10_game_119 ?_
        refine lv_aload_n hx hb dX10_game_122 rfl (lv_at hl 0 rfl) ?_
        refine gfB (i0 := 0) (own := RX10) (T := TX10) (k := 2) (v := .ref (a_x 2)) hx hb htX10 hown hK hP rfl e10 rfl (by decide) (hW _ wd430) rfl dX10_game_123 ?_
        refine lv_iload_n hx hb dX10_game_126 rfl (lv_at hl 2 rfl) ?_
        refine lv_iload hx hb dX10_game_127 (lv_at hl 4 rfl) ?_
        obtain ⟨q12, eq12, hf⟩ := bnd hf
        refine mcVi (v := (zB q12.1)) (rest := [.ref (a_x 12)]) (Bn := [w10 cs o_x a_x s_x, w9 cs (a_x 2) a_t s_t, w7 cs (a_x 1) a_g q12.2, w1 cs (a_x 12) a0n s11]) (isR := [0, 3]) (isC := [2, 1]) (i0 := 2) ⟨hx, hb, hml, hown, hts⟩ hK hP hD hS hA hG (c7_wantsLit l D cs (a_x 1) a_g (a_x 2) a_t q10.2 s_t H.size x2 ((s_t.1 2) - (s_t.1 2) / 24 * 24) _ eq12) (cwV 3 hts (gV wd962 wd519 wd520 wd108 wd521) rfl rfl rfl (by decide +kernel) ⟨by rw [hR]; exact Nat.le_of_ble_eq_true rfl, by rw [hR]; exact Nat.le_of_ble_eq_true rfl⟩) 4 (by decide) rfl rfl rfl rfl rfl rfl rfl e7 rfl rfl rfl hl.1 rfl (Nat.le_of_ble_eq_true rfl) ⟨Nat.zero_le _, Nat.zero_le _⟩ dX10_game_129 (fun H locs hP hD hS => ?_)
        obtain ⟨s13, es13, hf⟩ := bnd hf
        replace es13 := Option.some.inj es13
        refine pfB (i0 := 3) (own := RX10) (T := TX1) (k := 3) (Bn := [w10 cs o_x a_x s_x, w9 cs (a_x 2) a_t s_t, w7 cs (a_x 1) a_g q12.2, w1 cs (a_x 12) a0n s13]) tyX1 tyX1_ok nmX1 hx hb htX1 hown hK hP hD hS rfl e1 rfl (by decide) (hW _ wd411) rfl (zB_nar q12.1) (by generalize q12.1 = zb; cases zb <;> rfl) (Nat.le_of_ble_eq_true rfl) dX10_game_132 (by rw [← es13]; exact u1_3) rfl (fun H locs hP hD hS => ?_)
        refine lv_iload_n hx hb dX10_game_135 rfl (lv_at hl 3 rfl) ?_
        refine lv_if_ne (tgt := 149) hx hb dX10_game_136 (by decide) (fun hc => ?_) (fun hc => ?_)
        · have hf := ifn hc hf
          refine lv_aload_n hx hb dX10_game_149 rfl (lv_at hl 0 rfl) ?_
          refine gfB (i0 := 0) (own := RX10) (T := TX10) (k := 12) (v := .ref (a_x 12)) hx hb htX10 hown hK hP rfl e10 rfl (by decide) (hW _ wd440) rfl dX10_game_150 ?_
          obtain ⟨q14, eq14, hf⟩ := bnd hf
          refine mcVi (v := q14.1) (rest := []) (Bn := [w10 cs o_x a_x s_x, w9 cs (a_x 2) a_t s_t, w7 cs (a_x 1) a_g q12.2, w1 cs (a_x 12) a0n q14.2]) (isR := [0, 1, 2]) (isC := [3]) (i0 := 3) ⟨hx, hb, hml, hown, hts⟩ hK hP hD hS hA hG (c1_firstRestingCouple l D cs (a_x 12) s13 H.size _ eq14) (cwV 0 hts (gV wd1280 wd1281 wd1282 wd115 wd1283) rfl rfl rfl (by decide +kernel) ⟨by rw [hR]; exact Nat.le_of_ble_eq_true rfl, by rw [hR]; exact Nat.le_of_ble_eq_true rfl⟩) 4 (by decide) rfl rfl rfl rfl rfl rfl rfl e1 rfl rfl rfl hl.1 rfl (Nat.le_of_ble_eq_true rfl) ⟨Nat.zero_le _, Nat.zero_le _⟩ dX10_game_153 (fun H locs hP hD hS => ?_)
          obtain rfl := Option.some.inj hf
          exact mretI hx hb hr hlocks hK hP hD hS rfl hQ dX10_game_156
        · have hf := ifp hc hf
          refine lv_aload_n hx hb dX10_game_139 rfl (lv_at hl 0 rfl) ?_
          refine gfB (i0 := 0) (own := RX10) (T := TX10) (k := 12) (v := .ref (a_x 12)) hx hb htX10 hown hK hP rfl e10 rfl (by decide) (hW _ wd440) rfl dX10_game_140 ?_
          obtain ⟨q15, eq15, hf⟩ := bnd hf
          refine mcVi (v := q15.1) (rest := []) (Bn := [w10 cs o_x a_x s_x, w9 cs (a_x 2) a_t s_t, w7 cs (a_x 1) a_g q12.2, w1 cs (a_x 12) a0n q15.2]) (isR := [0, 1, 2]) (isC := [3]) (i0 := 3) ⟨hx, hb, hml, hown, hts⟩ hK hP hD hS hA hG (c1_restingCouples l D cs (a_x 12) s13 H.size _ eq15) (cwV 0 hts (gV wd1268 wd1269 wd1270 wd115 wd1271) rfl rfl rfl (by decide +kernel) ⟨by rw [hR]; exact Nat.le_of_ble_eq_true rfl, by rw [hR]; exact Nat.le_of_ble_eq_true rfl⟩) 4 (by decide) rfl rfl rfl rfl rfl rfl rfl e1 rfl rfl rfl hl.1 rfl (Nat.le_of_ble_eq_true rfl) ⟨Nat.zero_le _, Nat.zero_le _⟩ dX10_game_143 (fun H locs hP hD hS => ?_)
          refine lv_goto (tgt := 156) hx hb dX10_game_146 (by decide) ?_
          obtain rfl := Option.some.inj hf
          exact mretI hx hb hr hlocks hK hP hD hS rfl hQ dX10_game_156
      clear hf
      have hf := hq8
      refine lv_icmp_ge (tgt := 89) hx hb dX10_game_82 (by decide) (fun hc => ?_) (fun hc => ?_)
      · have hf := ifp hc hf
        refine lv_iconst (v := 0) hx hb dX10_game_89 (by decide) ?_
        exact Jq8 _ (Option.some.inj hf).symm _ _ _ hP hD hS (lv_sub hl [1, 2, 3, 4, 0] rfl)
      · have hf := ifn hc hf
        refine lv_iconst (v := 1) hx hb dX10_game_85 (by decide) ?_
        refine lv_goto (tgt := 90) hx hb dX10_game_86 (by decide) ?_
        exact Jq8 _ (Option.some.inj hf).symm _ _ _ hP hD hS (lv_sub hl [1, 2, 3, 4, 0] rfl)
    · have hf := ifp hc hf
      cases hf
set_option maxHeartbeats 4000000 in
set_option maxRecDepth 100000 in
theorem c10x_game (l : Launch) (D : va_G) (cs : xE) (hl0 : l.stackTraces = false) (o_x : Nat) (a_x : Nat → Nat) (a_t : Nat → Nat) (a_g : Nat → Nat) (s_x : St) (s_t : St) (s_g : St) (s_u : St) (sz : Nat) (x1 : Int32) (x2 : Int32) (x3 : Int32) (k : Nat) (hf : f10_game s_x s_t s_g s_u x1 x2 x3 = some (.inr k)) : vx_Met l yX10_game (Cond.code yX10_game cX10_game 5 (some .int) :: WG) { frames := 7, cells := 1, slots := 6, locals := 111 } (va_Pc [.ref o_x, .int x1, .int x2, .int x3] (mP D cs (List.flatten [w10 cs o_x a_x s_x, w9 cs (a_x 2) a_t s_t, w7 cs (a_x 1) a_g s_g, w1 cs (a_x 12) a0n s_u]) sz)) (fun _ _ _ _ => False) (qX D cs k (List.flatten [w10 cs o_x a_x s_x, w9 cs (a_x 2) a_t s_t, w7 cs (a_x 1) a_g s_g, w1 cs (a_x 12) a0n s_u]) (va_A (List.flatten [w10 cs o_x a_x s_x, w9 cs (a_x 2) a_t s_t, w7 cs (a_x 1) a_g s_g, w1 cs (a_x 12) a0n s_u]) sz)) 1 6 (va_A (List.flatten [w10 cs o_x a_x s_x, w9 cs (a_x 2) a_t s_t, w7 cs (a_x 1) a_g s_g, w1 cs (a_x 12) a0n s_u]) sz) := by
  refine mgoX (cc := cX10_game) (maxL := 5) (ret := (some .int)) (by decide) rfl (Nat.le_of_ble_eq_true rfl) ?_
  intro p e s m below meth c ls A R Q args H hR hQ hno hx hb hml hr hlocks hown hts hP hK hD hA hS hG hl
  have hown : s.vm.findClass RX10 = some m.cls := hown
  have hl : lv_has ls 5 [(0, .ref o_x), (1, .int x1), (2, .int x2), (3, .int x3)] := hl
  have hW : ∀ w ∈ WG, w.before args s = true := fun w h => hts w (List.mem_cons_of_mem _ h)
  have htX1 : ∀ w ∈ u_ws RX1 TX1 6, w.before args s = true := fun w h => hW w (inW_X1 w h)
  have htX10 : ∀ w ∈ u_ws RX10 TX10 14, w.before args s = true := fun w h => hW w (inW_X10 w h)
  have htX9 : ∀ w ∈ u_ws RX9 TX9 11, w.before args s = true := fun w h => hW w (inW_X9 w h)
  unfold f10_game at hf
  refine lv_aload_n hx hb dX10_game_0 rfl (lv_at hl 0 rfl) ?_
  refine lv_iload_n hx hb dX10_game_1 rfl (lv_at hl 1 rfl) ?_
  rcases xB_r hf with xq1 | ⟨q1, eq1, hf⟩
  · exact mxV (rest := []) (isR := [2, 3]) (isC := [0, 1]) (i0 := 0) ⟨hx, hb, hml, hown, hts⟩ hK hP hD hS hA hG (c10x_needLamp l D cs hl0 o_x a_x a_t s_x s_t H.size x1 _ xq1) (cwV 1 hts (gV wd952 wd954 wd26 wd105 wd955) rfl rfl rfl (by decide +kernel) ⟨by rw [hR]; exact Nat.le_of_ble_eq_true rfl, by rw [hR]; exact Nat.le_of_ble_eq_true rfl⟩) 4 (by decide) rfl rfl rfl rfl e10 rfl rfl rfl hl.1 rfl (Nat.le_of_ble_eq_true rfl) ⟨by rw [hR]; exact Nat.le_of_ble_eq_true rfl, by rw [hR]; exact Nat.le_of_ble_eq_true rfl⟩ dX10_game_2 hno hlocks hQ
  refine mcVv (rest := []) (Bn := [w10 cs o_x a_x s_x, w9 cs (a_x 2) a_t s_t, w7 cs (a_x 1) a_g s_g, w1 cs (a_x 12) a0n s_u]) (isR := [2, 3]) (isC := [0, 1]) (i0 := 0) ⟨hx, hb, hml, hown, hts⟩ hK hP hD hS hA hG (c10_needLamp l D cs o_x a_x a_t s_x s_t H.size x1 _ eq1) (cwV 1 hts (gV wd952 wd954 wd26 wd105 wd955) rfl rfl rfl (by decide +kernel) ⟨by rw [hR]; exact Nat.le_of_ble_eq_true rfl, by rw [hR]; exact Nat.le_of_ble_eq_true rfl⟩) 4 (by decide) rfl rfl rfl rfl rfl rfl rfl e10 rfl rfl rfl hl.1 rfl (Nat.le_of_ble_eq_true rfl) ⟨Nat.zero_le _, Nat.zero_le _⟩ dX10_game_2 (fun H locs hP hD hS => ?_)
  refine lv_aload_n hx hb dX10_game_5 rfl (lv_at hl 0 rfl) ?_
  refine lv_iload_n hx hb dX10_game_6 rfl (lv_at hl 2 rfl) ?_
  rcases xB_r hf with xq2 | ⟨q2, eq2, hf⟩
  · exact mxV (rest := []) (isR := [2, 3]) (isC := [0, 1]) (i0 := 0) ⟨hx, hb, hml, hown, hts⟩ hK hP hD hS hA hG (c10x_needLamp l D cs hl0 o_x a_x a_t s_x s_t H.size x2 _ xq2) (cwV 1 hts (gV wd952 wd954 wd26 wd105 wd955) rfl rfl rfl (by decide +kernel) ⟨by rw [hR]; exact Nat.le_of_ble_eq_true rfl, by rw [hR]; exact Nat.le_of_ble_eq_true rfl⟩) 4 (by decide) rfl rfl rfl rfl e10 rfl rfl rfl hl.1 rfl (Nat.le_of_ble_eq_true rfl) ⟨by rw [hR]; exact Nat.le_of_ble_eq_true rfl, by rw [hR]; exact Nat.le_of_ble_eq_true rfl⟩ dX10_game_7 hno hlocks hQ
  refine mcVv (rest := []) (Bn := [w10 cs o_x a_x s_x, w9 cs (a_x 2) a_t s_t, w7 cs (a_x 1) a_g s_g, w1 cs (a_x 12) a0n s_u]) (isR := [2, 3]) (isC := [0, 1]) (i0 := 0) ⟨hx, hb, hml, hown, hts⟩ hK hP hD hS hA hG (c10_needLamp l D cs o_x a_x a_t s_x s_t H.size x2 _ eq2) (cwV 1 hts (gV wd952 wd954 wd26 wd105 wd955) rfl rfl rfl (by decide +kernel) ⟨by rw [hR]; exact Nat.le_of_ble_eq_true rfl, by rw [hR]; exact Nat.le_of_ble_eq_true rfl⟩) 4 (by decide) rfl rfl rfl rfl rfl rfl rfl e10 rfl rfl rfl hl.1 rfl (Nat.le_of_ble_eq_true rfl) ⟨Nat.zero_le _, Nat.zero_le _⟩ dX10_game_7 (fun H locs hP hD hS => ?_)
  refine lv_iload_n hx hb dX10_game_10 rfl (lv_at hl 3 rfl) ?_
  rcases xB_r hf with xq3 | ⟨q3, eq3, hf⟩
  · exact mxS0 (As := [.int x3]) (rest := []) ⟨hx, hb, hml, hown, hts⟩ hK hP hD hS hA hG (c10x_needHourOrMany l D cs hl0 H.size x3 _ xq3) (va_cwS 1 hts (gS wd1061 wd1062 wd105 wd1063) rfl rfl rfl (by decide +kernel) ⟨by rw [hR]; exact Nat.le_of_ble_eq_true rfl, by rw [hR]; exact Nat.le_of_ble_eq_true rfl⟩) rfl hl.1 rfl (Nat.le_of_ble_eq_true rfl) ⟨by rw [hR]; exact Nat.le_of_ble_eq_true rfl, by rw [hR]; exact Nat.le_of_ble_eq_true rfl⟩ dX10_game_11 hno hlocks hQ
  refine mcSv0 (As := [.int x3]) (rest := []) ⟨hx, hb, hml, hown, hts⟩ hK hP hS hA hG (c10_needHourOrMany l D cs H.size x3 _ eq3) (va_cwS 1 hts (gS wd1061 wd1062 wd105 wd1063) rfl rfl rfl (by decide +kernel) ⟨by rw [hR]; exact Nat.le_of_ble_eq_true rfl, by rw [hR]; exact Nat.le_of_ble_eq_true rfl⟩) rfl hl.1 rfl (Nat.le_of_ble_eq_true rfl) ⟨Nat.zero_le _, Nat.zero_le _⟩ dX10_game_11 (fun H locs hP hS => ?_)
  refine lv_aload_n hx hb dX10_game_14 rfl (lv_at hl 0 rfl) ?_
  refine gfB (i0 := 0) (own := RX10) (T := TX10) (k := 2) (v := .ref (a_x 2)) hx hb htX10 hown hK hP rfl e10 rfl (by decide) (hW _ wd430) rfl dX10_game_15 ?_
  refine gfB (i0 := 1) (own := RX10) (T := TX9) (k := 10) (v := .ref (a_t 10)) hx hb htX9 hown hK hP rfl e9 rfl (by decide) (hW _ wd181) rfl dX10_game_18 ?_
  refine lv_iload_n hx hb dX10_game_21 rfl (lv_at hl 1 rfl) ?_
  obtain ⟨q4, eq4, hf⟩ := bnd hf
  obtain ⟨gq4, eq4⟩ := ldO_e eq4
  refine aldB (i0 := 1) hx hb hK hP rfl a9_10 gq4 dX10_game_22 ?_
  refine lv_nm eq4 ?_
  refine lv_iload_n hx hb dX10_game_23 rfl (lv_at hl 2 rfl) ?_
  refine lv_icmp_ne (tgt := 38) hx hb dX10_game_24 (by decide) (fun hc => ?_) (fun hc => ?_)
  · have hf := ifn hc hf
    obtain rfl := Sum.inr.inj (Option.some.inj hf)
    exact thIW (text := "they are no twins, or can't be lit") hx hb hl0 (hl.1.trans hml.symm) hlocks hno hown hW hG hK hP hD hS (hG.1 ("TwinLamps", 331, "they are no twins, or can't be lit", 22) (by decide +kernel)) dX10_game_38 dX10_game_41 dX10_game_42 dX10_game_45 dX10_game_48 (by rw [hR]; exact Nat.le_of_ble_eq_true rfl) (by rw [hR]; exact Nat.le_of_ble_eq_true rfl) (by rw [hR]; exact Nat.le_of_ble_eq_true rfl) (by rw [hR]; exact Nat.le_of_ble_eq_true rfl) hQ
  · have hf := ifp hc hf
    refine lv_aload_n hx hb dX10_game_27 rfl (lv_at hl 0 rfl) ?_
    refine gfB (i0 := 0) (own := RX10) (T := TX10) (k := 2) (v := .ref (a_x 2)) hx hb htX10 hown hK hP rfl e10 rfl (by decide) (hW _ wd430) rfl dX10_game_28 ?_
    refine lv_iload_n hx hb dX10_game_31 rfl (lv_at hl 1 rfl) ?_
    obtain ⟨q5, eq5, hf⟩ := bnd hf
    refine mcVi (v := (zB q5)) (rest := []) (Bn := [w10 cs o_x a_x s_x, w9 cs (a_x 2) a_t s_t, w7 cs (a_x 1) a_g s_g, w1 cs (a_x 12) a0n s_u]) (isR := [0, 2, 3]) (isC := [1]) (i0 := 1) ⟨hx, hb, hml, hown, hts⟩ hK hP hD hS hA hG (c9_canBeLit l D cs (a_x 2) a_t s_t H.size x1 _ eq5) (cwV 1 hts (gV wd976 wd560 wd561 wd107 wd562) rfl rfl rfl (by decide +kernel) ⟨by rw [hR]; exact Nat.le_of_ble_eq_true rfl, by rw [hR]; exact Nat.le_of_ble_eq_true rfl⟩) 4 (by decide) rfl rfl rfl rfl rfl rfl rfl e9 rfl rfl rfl hl.1 rfl (Nat.le_of_ble_eq_true rfl) ⟨Nat.zero_le _, Nat.zero_le _⟩ dX10_game_32 (fun H locs hP hD hS => ?_)
    refine lv_if_ne (tgt := 49) hx hb dX10_game_35 (by decide) (fun hc => ?_) (fun hc => ?_)
    · have hf := ifn hc hf
      exact (wI_r hf).elim
    · have hf := ifp hc hf
      obtain rfl := Sum.inr.inj (Option.some.inj hf)
      exact thIW (text := "they are no twins, or can't be lit") hx hb hl0 (hl.1.trans hml.symm) hlocks hno hown hW hG hK hP hD hS (hG.1 ("TwinLamps", 331, "they are no twins, or can't be lit", 22) (by decide +kernel)) dX10_game_38 dX10_game_41 dX10_game_42 dX10_game_45 dX10_game_48 (by rw [hR]; exact Nat.le_of_ble_eq_true rfl) (by rw [hR]; exact Nat.le_of_ble_eq_true rfl) (by rw [hR]; exact Nat.le_of_ble_eq_true rfl) (by rw [hR]; exact Nat.le_of_ble_eq_true rfl) hQ
/-! TwinLamps.winter -/
noncomputable def f10_winter_L4 (x2 : Int32) (v5 : Int32 × Int32 × St × St × St × St) : Option ((Int32 × Int32 × St × St × St × St) ⊕ (Int32 × St × St × St × St)) :=
  if x2 ≤ v5.2.1 then some (.inr (v5.1, v5.2.2.1, v5.2.2.2.1, v5.2.2.2.2.1, v5.2.2.2.2.2)) else (f0_befall v5.2.2.2.2.2 v5.2.2.1).bind fun q6 =>
  (f2_passHour v5.2.2.2.1 v5.2.2.2.2.1 q6.2).bind fun q7 =>
  (fJ6_bitCount (q7.1.1 1)).bind fun q8 =>
  some (.inl ((v5.1 + q8), (v5.2.1 + 1), q7.2.2, q7.1, q7.2.1, q6.1))
noncomputable def f10_winter (s_x : St) (s_t : St) (s_t2 : St) (s_e : St) (s_g : St) (s_d : St) (x1 : Int32) (x2 : Int32) (x3 : Int32) : Option ((Int32 × St × St × St × St) ⊕ Nat) :=
  if x3 < 0 then (some (.inr 1))
  else if x3 ≤ 2 then (xB (f10_needAhead x2) fun q1 =>
  wI ((f9_copyFrom s_t2 s_t).bind fun q2 =>
  (some (sS s_d 0 x1)).bind fun s3 =>
  (lpw (f10_winter_L4 x2) (0, 0, q2, s_e, s_g, s3)).bind fun q4 =>
  if x3 = 0 then some (q4.1, q4.2.1, q4.2.2.1, q4.2.2.2.1, q4.2.2.2.2) else ((if x3 = 1 then some (q4.2.1.1 3) else some (q4.2.1.1 4) : Option (Int32))).bind fun q9 =>
  (fJ6_bitCount q9).bind fun q10 =>
  some (q10, q4.2.1, q4.2.2.1, q4.2.2.2.1, q4.2.2.2.2)))
  else some (.inr 1)
set_option maxHeartbeats 4000000 in
set_option maxRecDepth 100000 in
theorem c10_winter (l : Launch) (D : va_G) (cs : xE) (o_x : Nat) (a_x : Nat → Nat) (a_t : Nat → Nat) (a_t2 : Nat → Nat) (a_g : Nat → Nat) (s_x : St) (s_t : St) (s_t2 : St) (s_e : St) (s_g : St) (s_d : St) (sz : Nat) (x1 : Int32) (x2 : Int32) (x3 : Int32) (res : Int32 × St × St × St × St) (hf : f10_winter s_x s_t s_t2 s_e s_g s_d x1 x2 x3 = some (.inl res)) : Met l yX10_winter (Cond.code yX10_winter cX10_winter 6 (some .int) :: WG) { frames := 7, cells := 0, slots := 0, locals := 110 } (va_Pc [.ref o_x, .int x1, .int x2, .int x3] (mP D cs (List.flatten [w10 cs o_x a_x s_x, w9 cs (a_x 2) a_t s_t, w9 cs (a_x 9) a_t2 s_t2, w2 cs (a_x 8) a0n s_e, w7 cs (a_x 1) a_g s_g, w0 cs (a_x 11) a0n s_d]) sz)) (qI D cs res.1 (List.flatten [w10 cs o_x a_x s_x, w9 cs (a_x 2) a_t s_t, w9 cs (a_x 9) a_t2 res.2.1, w2 cs (a_x 8) a0n res.2.2.1, w7 cs (a_x 1) a_g res.2.2.2.1, w0 cs (a_x 11) a0n res.2.2.2.2]) (va_A (List.flatten [w10 cs o_x a_x s_x, w9 cs (a_x 2) a_t s_t, w9 cs (a_x 9) a_t2 s_t2, w2 cs (a_x 8) a0n s_e, w7 cs (a_x 1) a_g s_g, w0 cs (a_x 11) a0n s_d]) sz)) 0 0 (va_A (List.flatten [w10 cs o_x a_x s_x, w9 cs (a_x 2) a_t s_t, w9 cs (a_x 9) a_t2 s_t2, w2 cs (a_x 8) a0n s_e, w7 cs (a_x 1) a_g s_g, w0 cs (a_x 11) a0n s_d]) sz) := by
  refine mgo (Qc := qI D cs res.1 (List.flatten [w10 cs o_x a_x s_x, w9 cs (a_x 2) a_t s_t, w9 cs (a_x 9) a_t2 res.2.1, w2 cs (a_x 8) a0n res.2.2.1, w7 cs (a_x 1) a_g res.2.2.2.1, w0 cs (a_x 11) a0n res.2.2.2.2])) (cc := cX10_winter) (maxL := 6) (ret := (some .int)) (by decide) rfl (Nat.le_of_ble_eq_true rfl) ?_
  intro p e s m below meth c ls A R Q args H hR hQ hx hb hml hr hlocks hown hts hP hK hD hA hS hG hl
  have hown : s.vm.findClass RX10 = some m.cls := hown
  have hl : lv_has ls 6 [(0, .ref o_x), (1, .int x1), (2, .int x2), (3, .int x3)] := hl
  have hW : ∀ w ∈ WG, w.before args s = true := fun w h => hts w (List.mem_cons_of_mem _ h)
  have htX0 : ∀ w ∈ u_ws RX0 TX0 1, w.before args s = true := fun w h => hW w (inW_X0 w h)
  have htX10 : ∀ w ∈ u_ws RX10 TX10 14, w.before args s = true := fun w h => hW w (inW_X10 w h)
  have htX2 : ∀ w ∈ u_ws RX2 TX2 5, w.before args s = true := fun w h => hW w (inW_X2 w h)
  have htX9 : ∀ w ∈ u_ws RX9 TX9 11, w.before args s = true := fun w h => hW w (inW_X9 w h)
  unfold f10_winter at hf
  refine lv_iload_n hx hb dX10_winter_0 rfl (lv_at hl 3 rfl) ?_
  refine lv_if_lt (tgt := 9) hx hb dX10_winter_1 (by decide) (fun hc => ?_) (fun hc => ?_)
  · have hf := ifp hc hf
    cases hf
  · have hf := ifn hc hf
    refine lv_iload_n hx hb dX10_winter_4 rfl (lv_at hl 3 rfl) ?_
    refine lv_iconst (v := 2) hx hb dX10_winter_5 (by decide) ?_
    refine lv_icmp_le (tgt := 20) hx hb dX10_winter_6 (by decide) (fun hc => ?_) (fun hc => ?_)
    · have hf := ifp hc hf
      refine lv_iload_n hx hb dX10_winter_20 rfl (lv_at hl 2 rfl) ?_
      obtain ⟨q1, eq1, hf⟩ := xB_l hf
      refine mcSv0 (As := [.int x2]) (rest := []) ⟨hx, hb, hml, hown, hts⟩ hK hP hS hA hG (c10_needAhead l D cs H.size x2 _ eq1) (va_cwS 1 hts (gS wd1036 wd1037 wd105 wd1038) rfl rfl rfl (by decide +kernel) ⟨by rw [hR]; exact Nat.le_of_ble_eq_true rfl, by rw [hR]; exact Nat.le_of_ble_eq_true rfl⟩) rfl hl.1 rfl (Nat.le_of_ble_eq_true rfl) ⟨Nat.zero_le _, Nat.zero_le _⟩ dX10_winter_21 (fun H locs hP hS => ?_)
      have hf := wI_l hf
      refine lv_aload_n hx hb dX10_winter_24 rfl (lv_at hl 0 rfl) ?_
      refine gfB (i0 := 0) (own := RX10) (T := TX10) (k := 9) (v := .ref (a_x 9)) hx hb htX10 hown hK hP rfl e10 rfl (by decide) (hW _ wd437) rfl dX10_winter_25 ?_
      refine lv_aload_n hx hb dX10_winter_28 rfl (lv_at hl 0 rfl) ?_
      refine gfB (i0 := 0) (own := RX10) (T := TX10) (k := 2) (v := .ref (a_x 2)) hx hb htX10 hown hK hP rfl e10 rfl (by decide) (hW _ wd430) rfl dX10_winter_29 ?_
      obtain ⟨q2, eq2, hf⟩ := bnd hf
      refine mcVv (rest := []) (Bn := [w10 cs o_x a_x s_x, w9 cs (a_x 2) a_t s_t, w9 cs (a_x 9) a_t2 q2, w2 cs (a_x 8) a0n s_e, w7 cs (a_x 1) a_g s_g, w0 cs (a_x 11) a0n s_d]) (isR := [0, 3, 4, 5]) (isC := [2, 1]) (i0 := 2) ⟨hx, hb, hml, hown, hts⟩ hK hP hD hS hA hG (c9_copyFrom l D cs (a_x 9) a_t2 (a_x 2) a_t s_t2 s_t H.size _ eq2) (cwV 1 hts (gV wd599 wd500 wd501 wd107 wd502) rfl rfl rfl (by decide +kernel) ⟨by rw [hR]; exact Nat.le_of_ble_eq_true rfl, by rw [hR]; exact Nat.le_of_ble_eq_true rfl⟩) 6 (by decide) rfl rfl rfl rfl rfl rfl rfl e9 rfl rfl rfl hl.1 rfl (Nat.le_of_ble_eq_true rfl) ⟨Nat.zero_le _, Nat.zero_le _⟩ dX10_winter_32 (fun H locs hP hD hS => ?_)
      refine lv_aload_n hx hb dX10_winter_35 rfl (lv_at hl 0 rfl) ?_
      refine gfB (i0 := 0) (own := RX10) (T := TX10) (k := 11) (v := .ref (a_x 11)) hx hb htX10 hown hK hP rfl e10 rfl (by decide) (hW _ wd439) rfl dX10_winter_36 ?_
      refine lv_iload_n hx hb dX10_winter_39 rfl (lv_at hl 1 rfl) ?_
      obtain ⟨s3, es3, hf⟩ := bnd hf
      replace es3 := Option.some.inj es3
      refine pfB (i0 := 5) (own := RX10) (T := TX0) (k := 0) (Bn := [w10 cs o_x a_x s_x, w9 cs (a_x 2) a_t s_t, w9 cs (a_x 9) a_t2 q2, w2 cs (a_x 8) a0n s_e, w7 cs (a_x 1) a_g s_g, w0 cs (a_x 11) a0n s3]) tyX0 tyX0_ok nmX0 hx hb htX0 hown hK hP hD hS rfl e0 rfl (by decide) (hW _ wd394) rfl rfl rfl (Nat.le_of_ble_eq_true rfl) dX10_winter_40 (by rw [← es3]; exact u0_0) rfl (fun H locs hP hD hS => ?_)
      refine lv_iconst (v := 0) hx hb dX10_winter_43 (by decide) ?_
      refine lv_istore (lv' := [(4, .int 0), (0, .ref o_x), (1, .int x1), (2, .int x2), (3, .int x3)]) hx hb dX10_winter_44 hl (by decide) rfl (fun ls hl => ?_)
      refine lv_iconst (v := 0) hx hb dX10_winter_46 (by decide) ?_
      refine lv_istore (lv' := [(5, .int 0), (4, .int 0), (0, .ref o_x), (1, .int x1), (2, .int x2), (3, .int x3)]) hx hb dX10_winter_47 hl (by decide) rfl (fun ls hl => ?_)
      obtain ⟨q4, hq4, hf⟩ := bnd hf
      obtain ⟨n4, hq4⟩ := lpw_ex hq4
      have Jq4_0 : ∀ rr4_0 : Int32 × St × St × St × St, q4 = rr4_0 → ∀ (H : Heap) (locs : List Loc) (ls : Array Slot), va_P D vwCl (List.flatten [w10 cs o_x a_x s_x, w9 cs (a_x 2) a_t s_t, w9 cs (a_x 9) a_t2 rr4_0.2.1, w2 cs (a_x 8) a0n rr4_0.2.2.1, w7 cs (a_x 1) a_g rr4_0.2.2.2.1, w0 cs (a_x 11) a0n rr4_0.2.2.2.2]) H → va_D A (List.flatten [w10 cs o_x a_x s_x, w9 cs (a_x 2) a_t s_t, w9 cs (a_x 9) a_t2 rr4_0.2.1, w2 cs (a_x 8) a0n rr4_0.2.2.1, w7 cs (a_x 1) a_g rr4_0.2.2.2.1, w0 cs (a_x 11) a0n rr4_0.2.2.2.2]) → va_S A s.heap H locs → lv_has ls 6 [(0, .ref o_x), (3, .int x3), (4, .int rr4_0.1)] → W p l e R s m args below meth c H locs 0 0 Q (F0 m 102 ls []) := by
        intro rr4_0 eq4 H locs ls hP hD hS hl
        subst eq4
        refine lv_iload_n hx hb dX10_winter_102 rfl (lv_at hl 1 rfl) ?_
        refine lv_if_ne (tgt := 109) hx hb dX10_winter_103 (by decide) (fun hc => ?_) (fun hc => ?_)
        · have hf := ifn hc hf
          refine lv_iload_n hx hb dX10_winter_109 rfl (lv_at hl 1 rfl) ?_
          refine lv_iconst (v := 1) hx hb dX10_winter_110 (by decide) ?_
          obtain ⟨q9, hq9, hf⟩ := bnd hf
          have Jq9 : ∀ r9 : Int32, q9 = r9 → ∀ (H : Heap) (locs : List Loc) (ls : Array Slot), va_P D vwCl (List.flatten [w10 cs o_x a_x s_x, w9 cs (a_x 2) a_t s_t, w9 cs (a_x 9) a_t2 q4.2.1, w2 cs (a_x 8) a0n q4.2.2.1, w7 cs (a_x 1) a_g q4.2.2.2.1, w0 cs (a_x 11) a0n q4.2.2.2.2]) H → va_D A (List.flatten [w10 cs o_x a_x s_x, w9 cs (a_x 2) a_t s_t, w9 cs (a_x 9) a_t2 q4.2.1, w2 cs (a_x 8) a0n q4.2.2.1, w7 cs (a_x 1) a_g q4.2.2.2.1, w0 cs (a_x 11) a0n q4.2.2.2.2]) → va_S A s.heap H locs → lv_has ls 6 [] → W p l e R s m args below meth c H locs 0 0 Q (F0 m 131 ls [.int r9]) := by
            intro r9 eq9 H locs ls hP hD hS hl
            subst eq9
            obtain ⟨q10, eq10, hf⟩ := bnd hf
            refine mcSi0 (v := q10) (As := [.int q9]) (rest := []) ⟨hx, hb, hml, hown, hts⟩ hK hP hS hA hG (cJ6_bitCount l D cs H.size q9 _ eq10) (va_cwS 1 hts (gS wd885 wd535 wd127 wd536) rfl rfl rfl (by decide +kernel) ⟨by rw [hR]; exact Nat.le_of_ble_eq_true rfl, by rw [hR]; exact Nat.le_of_ble_eq_true rfl⟩) rfl hl.1 rfl (Nat.le_of_ble_eq_true rfl) ⟨Nat.zero_le _, Nat.zero_le _⟩ dX10_winter_131 (fun H locs hP hS => ?_)
            obtain rfl := Option.some.inj hf
            exact mretI hx hb hr hlocks hK hP hD hS rfl hQ dX10_winter_134
          clear hf
          have hf := hq9
          refine lv_icmp_ne (tgt := 124) hx hb dX10_winter_111 (by decide) (fun hc => ?_) (fun hc => ?_)
          · have hf := ifn hc hf
            refine lv_aload_n hx hb dX10_winter_124 rfl (lv_at hl 0 rfl) ?_
            refine gfB (i0 := 0) (own := RX10) (T := TX10) (k := 9) (v := .ref (a_x 9)) hx hb htX10 hown hK hP rfl e10 rfl (by decide) (hW _ wd437) rfl dX10_winter_125 ?_
            refine gfB (i0 := 2) (own := RX10) (T := TX9) (k := 4) (v := .int (q4.2.1.1 4)) hx hb htX9 hown hK hP rfl e9 rfl (by decide) (hW _ wd164) rfl dX10_winter_128 ?_
            exact Jq9 _ (Option.some.inj hf).symm _ _ _ hP hD hS (lv_sub hl [] rfl)
          · have hf := ifp hc hf
            refine lv_aload_n hx hb dX10_winter_114 rfl (lv_at hl 0 rfl) ?_
            refine gfB (i0 := 0) (own := RX10) (T := TX10) (k := 9) (v := .ref (a_x 9)) hx hb htX10 hown hK hP rfl e10 rfl (by decide) (hW _ wd437) rfl dX10_winter_115 ?_
            refine gfB (i0 := 2) (own := RX10) (T := TX9) (k := 3) (v := .int (q4.2.1.1 3)) hx hb htX9 hown hK hP rfl e9 rfl (by decide) (hW _ wd162) rfl dX10_winter_118 ?_
            refine lv_goto (tgt := 131) hx hb dX10_winter_121 (by decide) ?_
            exact Jq9 _ (Option.some.inj hf).symm _ _ _ hP hD hS (lv_sub hl [] rfl)
        · have hf := ifp hc hf
          refine lv_iload hx hb dX10_winter_106 (lv_at hl 2 rfl) ?_
          obtain rfl := Option.some.inj hf
          exact mretI hx hb hr hlocks hK hP hD hS rfl hQ dX10_winter_108
      clear hf
      have L4 : ∀ n4, ∀ v5 : Int32 × Int32 × St × St × St × St, lp n4 (f10_winter_L4 x2) v5 = some q4 → ∀ (H : Heap) (locs : List Loc) (ls : Array Slot), va_P D vwCl (List.flatten [w10 cs o_x a_x s_x, w9 cs (a_x 2) a_t s_t, w9 cs (a_x 9) a_t2 v5.2.2.1, w2 cs (a_x 8) a0n v5.2.2.2.1, w7 cs (a_x 1) a_g v5.2.2.2.2.1, w0 cs (a_x 11) a0n v5.2.2.2.2.2]) H → va_D A (List.flatten [w10 cs o_x a_x s_x, w9 cs (a_x 2) a_t s_t, w9 cs (a_x 9) a_t2 v5.2.2.1, w2 cs (a_x 8) a0n v5.2.2.2.1, w7 cs (a_x 1) a_g v5.2.2.2.2.1, w0 cs (a_x 11) a0n v5.2.2.2.2.2]) → va_S A s.heap H locs → lv_has ls 6 [(0, .ref o_x), (2, .int x2), (3, .int x3), (4, .int v5.1), (5, .int v5.2.1)] → W p l e R s m args below meth c H locs 0 0 Q (F0 m 49 ls []) := by
        intro n4
        induction n4 with
        | zero => intro v5 hn; cases hn
        | succ n4 ih4 =>
          intro v5 hn4 H locs ls hP hD hS hl
          obtain ⟨y4, hf, hn4⟩ := lp_succ hn4
          unfold f10_winter_L4 at hf
          refine lv_iload hx hb dX10_winter_49 (lv_at hl 4 rfl) ?_
          refine lv_iload_n hx hb dX10_winter_51 rfl (lv_at hl 1 rfl) ?_
          refine lv_icmp_ge (tgt := 102) hx hb dX10_winter_52 (by decide) (fun hc => ?_) (fun hc => ?_)
          · have hf := ifp hc hf
            cases hf
            exact Jq4_0 _ (Option.some.inj hn4).symm _ _ _ hP hD hS (lv_sub hl [0, 2, 3] rfl)
          · have hf := ifn hc hf
            refine lv_aload_n hx hb dX10_winter_55 rfl (lv_at hl 0 rfl) ?_
            refine gfB (i0 := 0) (own := RX10) (T := TX10) (k := 11) (v := .ref (a_x 11)) hx hb htX10 hown hK hP rfl e10 rfl (by decide) (hW _ wd439) rfl dX10_winter_56 ?_
            refine lv_aload_n hx hb dX10_winter_59 rfl (lv_at hl 0 rfl) ?_
            refine gfB (i0 := 0) (own := RX10) (T := TX10) (k := 9) (v := .ref (a_x 9)) hx hb htX10 hown hK hP rfl e10 rfl (by decide) (hW _ wd437) rfl dX10_winter_60 ?_
            obtain ⟨q6, eq6, hf⟩ := bnd hf
            refine mcVv (rest := []) (Bn := [w10 cs o_x a_x s_x, w9 cs (a_x 2) a_t s_t, w9 cs (a_x 9) a_t2 q6.2, w2 cs (a_x 8) a0n v5.2.2.2.1, w7 cs (a_x 1) a_g v5.2.2.2.2.1, w0 cs (a_x 11) a0n q6.1]) (isR := [0, 1, 3, 4]) (isC := [5, 2]) (i0 := 5) ⟨hx, hb, hml, hown, hts⟩ hK hP hD hS hA hG (c0_befall l D cs (a_x 11) (a_x 9) a_t2 v5.2.2.2.2.2 v5.2.2.1 H.size _ eq6) (cwV 1 hts (gV wd1292 wd1293 wd1294 wd114 wd1295) rfl rfl rfl (by decide +kernel) ⟨by rw [hR]; exact Nat.le_of_ble_eq_true rfl, by rw [hR]; exact Nat.le_of_ble_eq_true rfl⟩) 6 (by decide) rfl rfl rfl rfl rfl rfl rfl e0 rfl rfl rfl hl.1 rfl (Nat.le_of_ble_eq_true rfl) ⟨Nat.zero_le _, Nat.zero_le _⟩ dX10_winter_63 (fun H locs hP hD hS => ?_)
            refine lv_aload_n hx hb dX10_winter_66 rfl (lv_at hl 0 rfl) ?_
            refine gfB (i0 := 0) (own := RX10) (T := TX10) (k := 8) (v := .ref (a_x 8)) hx hb htX10 hown hK hP rfl e10 rfl (by decide) (hW _ wd436) rfl dX10_winter_67 ?_
            refine lv_aload_n hx hb dX10_winter_70 rfl (lv_at hl 0 rfl) ?_
            refine gfB (i0 := 0) (own := RX10) (T := TX10) (k := 1) (v := .ref (a_x 1)) hx hb htX10 hown hK hP rfl e10 rfl (by decide) (hW _ wd429) rfl dX10_winter_71 ?_
            refine lv_aload_n hx hb dX10_winter_74 rfl (lv_at hl 0 rfl) ?_
            refine gfB (i0 := 0) (own := RX10) (T := TX10) (k := 9) (v := .ref (a_x 9)) hx hb htX10 hown hK hP rfl e10 rfl (by decide) (hW _ wd437) rfl dX10_winter_75 ?_
            obtain ⟨q7, eq7, hf⟩ := bnd hf
            refine mcVv (rest := []) (Bn := [w10 cs o_x a_x s_x, w9 cs (a_x 2) a_t s_t, w9 cs (a_x 9) a_t2 q7.2.2, w2 cs (a_x 8) a0n q7.1, w7 cs (a_x 1) a_g q7.2.1, w0 cs (a_x 11) a0n q6.1]) (isR := [0, 1, 5]) (isC := [3, 4, 2]) (i0 := 3) ⟨hx, hb, hml, hown, hts⟩ hK hP hD hS hA hG (c2_passHour l D cs (a_x 8) (a_x 1) a_g (a_x 9) a_t2 v5.2.2.2.1 v5.2.2.2.2.1 q6.2 H.size _ eq7) (cwV 2 hts (gV wd506 wd507 wd508 wd112 wd509) rfl rfl rfl (by decide +kernel) ⟨by rw [hR]; exact Nat.le_of_ble_eq_true rfl, by rw [hR]; exact Nat.le_of_ble_eq_true rfl⟩) 6 (by decide) rfl rfl rfl rfl rfl rfl rfl e2 rfl rfl rfl hl.1 rfl (Nat.le_of_ble_eq_true rfl) ⟨Nat.zero_le _, Nat.zero_le _⟩ dX10_winter_78 (fun H locs hP hD hS => ?_)
            refine lv_iload hx hb dX10_winter_81 (lv_at hl 3 rfl) ?_
            refine lv_aload_n hx hb dX10_winter_83 rfl (lv_at hl 0 rfl) ?_
            refine gfB (i0 := 0) (own := RX10) (T := TX10) (k := 8) (v := .ref (a_x 8)) hx hb htX10 hown hK hP rfl e10 rfl (by decide) (hW _ wd436) rfl dX10_winter_84 ?_
            refine gfB (i0 := 3) (own := RX10) (T := TX2) (k := 1) (v := .int (q7.1.1 1)) hx hb htX2 hown hK hP rfl e2 rfl (by decide) (hW _ wd350) rfl dX10_winter_87 ?_
            obtain ⟨q8, eq8, hf⟩ := bnd hf
            refine mcSi0 (v := q8) (As := [.int (q7.1.1 1)]) (rest := [.int v5.1]) ⟨hx, hb, hml, hown, hts⟩ hK hP hS hA hG (cJ6_bitCount l D cs H.size (q7.1.1 1) _ eq8) (va_cwS 1 hts (gS wd885 wd535 wd127 wd536) rfl rfl rfl (by decide +kernel) ⟨by rw [hR]; exact Nat.le_of_ble_eq_true rfl, by rw [hR]; exact Nat.le_of_ble_eq_true rfl⟩) rfl hl.1 rfl (Nat.le_of_ble_eq_true rfl) ⟨Nat.zero_le _, Nat.zero_le _⟩ dX10_winter_90 (fun H locs hP hS => ?_)
            refine lv_iadd hx hb dX10_winter_93 ?_
            refine lv_istore (lv' := [(4, .int (v5.1 + q8)), (0, .ref o_x), (2, .int x2), (3, .int x3), (5, .int v5.2.1)]) hx hb dX10_winter_94 hl (by decide) rfl (fun ls hl => ?_)
            refine lv_iinc (v := (v5.2.1 + 1)) (lv' := [(5, .int (v5.2.1 + 1)), (4, .int (v5.1 + q8)), (0, .ref o_x), (2, .int x2), (3, .int x3)]) hx hb dX10_winter_96 hl (k := 4) rfl rfl (by decide) rfl (fun ls hl => ?_)
            refine lv_goto (tgt := 49) hx hb dX10_winter_99 (by decide) ?_
            cases hf
            exact ih4 _ hn4 _ _ _ hP hD hS (lv_sub hl [2, 3, 4, 1, 0] rfl)
      exact L4 _ _ hq4 _ _ _ hP hD hS (lv_sub hl [2, 4, 5, 1, 0] rfl)
    · have hf := ifn hc hf
      cases hf
set_option maxHeartbeats 4000000 in
set_option maxRecDepth 100000 in
theorem c10x_winter (l : Launch) (D : va_G) (cs : xE) (hl0 : l.stackTraces = false) (o_x : Nat) (a_x : Nat → Nat) (a_t : Nat → Nat) (a_t2 : Nat → Nat) (a_g : Nat → Nat) (s_x : St) (s_t : St) (s_t2 : St) (s_e : St) (s_g : St) (s_d : St) (sz : Nat) (x1 : Int32) (x2 : Int32) (x3 : Int32) (k : Nat) (hf : f10_winter s_x s_t s_t2 s_e s_g s_d x1 x2 x3 = some (.inr k)) : vx_Met l yX10_winter (Cond.code yX10_winter cX10_winter 6 (some .int) :: WG) { frames := 7, cells := 1, slots := 6, locals := 110 } (va_Pc [.ref o_x, .int x1, .int x2, .int x3] (mP D cs (List.flatten [w10 cs o_x a_x s_x, w9 cs (a_x 2) a_t s_t, w9 cs (a_x 9) a_t2 s_t2, w2 cs (a_x 8) a0n s_e, w7 cs (a_x 1) a_g s_g, w0 cs (a_x 11) a0n s_d]) sz)) (fun _ _ _ _ => False) (qX D cs k (List.flatten [w10 cs o_x a_x s_x, w9 cs (a_x 2) a_t s_t, w9 cs (a_x 9) a_t2 s_t2, w2 cs (a_x 8) a0n s_e, w7 cs (a_x 1) a_g s_g, w0 cs (a_x 11) a0n s_d]) (va_A (List.flatten [w10 cs o_x a_x s_x, w9 cs (a_x 2) a_t s_t, w9 cs (a_x 9) a_t2 s_t2, w2 cs (a_x 8) a0n s_e, w7 cs (a_x 1) a_g s_g, w0 cs (a_x 11) a0n s_d]) sz)) 1 6 (va_A (List.flatten [w10 cs o_x a_x s_x, w9 cs (a_x 2) a_t s_t, w9 cs (a_x 9) a_t2 s_t2, w2 cs (a_x 8) a0n s_e, w7 cs (a_x 1) a_g s_g, w0 cs (a_x 11) a0n s_d]) sz) := by
  refine mgoX (cc := cX10_winter) (maxL := 6) (ret := (some .int)) (by decide) rfl (Nat.le_of_ble_eq_true rfl) ?_
  intro p e s m below meth c ls A R Q args H hR hQ hno hx hb hml hr hlocks hown hts hP hK hD hA hS hG hl
  have hown : s.vm.findClass RX10 = some m.cls := hown
  have hl : lv_has ls 6 [(0, .ref o_x), (1, .int x1), (2, .int x2), (3, .int x3)] := hl
  have hW : ∀ w ∈ WG, w.before args s = true := fun w h => hts w (List.mem_cons_of_mem _ h)
  have htX0 : ∀ w ∈ u_ws RX0 TX0 1, w.before args s = true := fun w h => hW w (inW_X0 w h)
  have htX10 : ∀ w ∈ u_ws RX10 TX10 14, w.before args s = true := fun w h => hW w (inW_X10 w h)
  have htX2 : ∀ w ∈ u_ws RX2 TX2 5, w.before args s = true := fun w h => hW w (inW_X2 w h)
  have htX9 : ∀ w ∈ u_ws RX9 TX9 11, w.before args s = true := fun w h => hW w (inW_X9 w h)
  unfold f10_winter at hf
  refine lv_iload_n hx hb dX10_winter_0 rfl (lv_at hl 3 rfl) ?_
  refine lv_if_lt (tgt := 9) hx hb dX10_winter_1 (by decide) (fun hc => ?_) (fun hc => ?_)
  · have hf := ifp hc hf
    obtain rfl := Sum.inr.inj (Option.some.inj hf)
    exact thNW (text := "a winter has no such thing") hx hb hl0 (hl.1.trans hml.symm) hlocks hno hown hW hG hK hP hD hS (hG.1 ("TwinLamps", 350, "a winter has no such thing", 23) (by decide +kernel)) dX10_winter_9 dX10_winter_12 dX10_winter_13 dX10_winter_16 dX10_winter_19 (by rw [hR]; exact Nat.le_of_ble_eq_true rfl) (by rw [hR]; exact Nat.le_of_ble_eq_true rfl) (by rw [hR]; exact Nat.le_of_ble_eq_true rfl) (by rw [hR]; exact Nat.le_of_ble_eq_true rfl) hQ
  · have hf := ifn hc hf
    refine lv_iload_n hx hb dX10_winter_4 rfl (lv_at hl 3 rfl) ?_
    refine lv_iconst (v := 2) hx hb dX10_winter_5 (by decide) ?_
    refine lv_icmp_le (tgt := 20) hx hb dX10_winter_6 (by decide) (fun hc => ?_) (fun hc => ?_)
    · have hf := ifp hc hf
      refine lv_iload_n hx hb dX10_winter_20 rfl (lv_at hl 2 rfl) ?_
      rcases xB_r hf with xq1 | ⟨q1, eq1, hf⟩
      · exact mxS0 (As := [.int x2]) (rest := []) ⟨hx, hb, hml, hown, hts⟩ hK hP hD hS hA hG (c10x_needAhead l D cs hl0 H.size x2 _ xq1) (va_cwS 1 hts (gS wd1036 wd1037 wd105 wd1038) rfl rfl rfl (by decide +kernel) ⟨by rw [hR]; exact Nat.le_of_ble_eq_true rfl, by rw [hR]; exact Nat.le_of_ble_eq_true rfl⟩) rfl hl.1 rfl (Nat.le_of_ble_eq_true rfl) ⟨by rw [hR]; exact Nat.le_of_ble_eq_true rfl, by rw [hR]; exact Nat.le_of_ble_eq_true rfl⟩ dX10_winter_21 hno hlocks hQ
      refine mcSv0 (As := [.int x2]) (rest := []) ⟨hx, hb, hml, hown, hts⟩ hK hP hS hA hG (c10_needAhead l D cs H.size x2 _ eq1) (va_cwS 1 hts (gS wd1036 wd1037 wd105 wd1038) rfl rfl rfl (by decide +kernel) ⟨by rw [hR]; exact Nat.le_of_ble_eq_true rfl, by rw [hR]; exact Nat.le_of_ble_eq_true rfl⟩) rfl hl.1 rfl (Nat.le_of_ble_eq_true rfl) ⟨Nat.zero_le _, Nat.zero_le _⟩ dX10_winter_21 (fun H locs hP hS => ?_)
      exact (wI_r hf).elim
    · have hf := ifn hc hf
      obtain rfl := Sum.inr.inj (Option.some.inj hf)
      exact thNW (text := "a winter has no such thing") hx hb hl0 (hl.1.trans hml.symm) hlocks hno hown hW hG hK hP hD hS (hG.1 ("TwinLamps", 350, "a winter has no such thing", 23) (by decide +kernel)) dX10_winter_9 dX10_winter_12 dX10_winter_13 dX10_winter_16 dX10_winter_19 (by rw [hR]; exact Nat.le_of_ble_eq_true rfl) (by rw [hR]; exact Nat.le_of_ble_eq_true rfl) (by rw [hR]; exact Nat.le_of_ble_eq_true rfl) (by rw [hR]; exact Nat.le_of_ble_eq_true rfl) hQ
/-! TwinLamps.image -/
noncomputable def f10_image (s_x : St) (s_t : St) (s_h : HSt) (s_v : St) (s_p : St) (s_pt : St) (s_ph : HSt) (s_pv : St) : Option (St × St × HSt × St) :=
  (some (sS s_p 0 1)).bind fun s1 =>
  (f9_copyFrom s_pt s_t).bind fun q2 =>
  (f3_copyFrom s_ph s_h).bind fun q3 =>
  (f8_copyFrom s_pv s_v).bind fun q4 =>
  (some (sA s1 4 (va_cpy (s_x.2 5) (s1.2 4) 0 0 3))).bind fun s5 =>
  some (s5, q2, q3, q4)
set_option maxHeartbeats 4000000 in
set_option maxRecDepth 100000 in
theorem c10_image (l : Launch) (D : va_G) (cs : xE) (o_x : Nat) (a_x : Nat → Nat) (a_t : Nat → Nat) (a_h : Nat → Nat) (a_v : Nat → Nat) (a_p : Nat → Nat) (a_pt : Nat → Nat) (a_ph : Nat → Nat) (a_pv : Nat → Nat) (s_x : St) (s_t : St) (s_h : HSt) (s_v : St) (s_p : St) (s_pt : St) (s_ph : HSt) (s_pv : St) (sz : Nat) (res : St × St × HSt × St) (hf : f10_image s_x s_t s_h s_v s_p s_pt s_ph s_pv = some res) : Met l yX10_image (Cond.code yX10_image cX10_image 1 none :: WG) { frames := 3, cells := 0, slots := 0, locals := 69 } (va_Pc [.ref o_x] (mP D cs (List.flatten [w10 cs o_x a_x s_x, w9 cs (a_x 2) a_t s_t, w3 cs (a_x 3) a_h s_h, w8 cs (a_x 4) a_v s_v, w5 cs (a_x 6) a_p s_p, w9 cs (a_p 1) a_pt s_pt, w3 cs (a_p 2) a_ph s_ph, w8 cs (a_p 3) a_pv s_pv]) sz)) (qV D cs (List.flatten [w10 cs o_x a_x s_x, w9 cs (a_x 2) a_t s_t, w3 cs (a_x 3) a_h s_h, w8 cs (a_x 4) a_v s_v, w5 cs (a_x 6) a_p res.1, w9 cs (a_p 1) a_pt res.2.1, w3 cs (a_p 2) a_ph res.2.2.1, w8 cs (a_p 3) a_pv res.2.2.2]) (va_A (List.flatten [w10 cs o_x a_x s_x, w9 cs (a_x 2) a_t s_t, w3 cs (a_x 3) a_h s_h, w8 cs (a_x 4) a_v s_v, w5 cs (a_x 6) a_p s_p, w9 cs (a_p 1) a_pt s_pt, w3 cs (a_p 2) a_ph s_ph, w8 cs (a_p 3) a_pv s_pv]) sz)) 0 0 (va_A (List.flatten [w10 cs o_x a_x s_x, w9 cs (a_x 2) a_t s_t, w3 cs (a_x 3) a_h s_h, w8 cs (a_x 4) a_v s_v, w5 cs (a_x 6) a_p s_p, w9 cs (a_p 1) a_pt s_pt, w3 cs (a_p 2) a_ph s_ph, w8 cs (a_p 3) a_pv s_pv]) sz) := by
  refine mgo (Qc := qV D cs (List.flatten [w10 cs o_x a_x s_x, w9 cs (a_x 2) a_t s_t, w3 cs (a_x 3) a_h s_h, w8 cs (a_x 4) a_v s_v, w5 cs (a_x 6) a_p res.1, w9 cs (a_p 1) a_pt res.2.1, w3 cs (a_p 2) a_ph res.2.2.1, w8 cs (a_p 3) a_pv res.2.2.2])) (cc := cX10_image) (maxL := 1) (ret := none) (by decide) rfl (Nat.le_of_ble_eq_true rfl) ?_
  intro p e s m below meth c ls A R Q args H hR hQ hx hb hml hr hlocks hown hts hP hK hD hA hS hG hl
  have hown : s.vm.findClass RX10 = some m.cls := hown
  have hl : lv_has ls 1 [(0, .ref o_x)] := hl
  have hW : ∀ w ∈ WG, w.before args s = true := fun w h => hts w (List.mem_cons_of_mem _ h)
  have htX10 : ∀ w ∈ u_ws RX10 TX10 14, w.before args s = true := fun w h => hW w (inW_X10 w h)
  have htX5 : ∀ w ∈ u_ws RX5 TX5 5, w.before args s = true := fun w h => hW w (inW_X5 w h)
  unfold f10_image at hf
  refine lv_aload_n hx hb dX10_image_0 rfl (lv_at hl 0 rfl) ?_
  refine gfB (i0 := 0) (own := RX10) (T := TX10) (k := 6) (v := .ref (a_x 6)) hx hb htX10 hown hK hP rfl e10 rfl (by decide) (hW _ wd434) rfl dX10_image_1 ?_
  refine lv_iconst (v := 1) hx hb dX10_image_4 (by decide) ?_
  obtain ⟨s1, es1, hf⟩ := bnd hf
  replace es1 := Option.some.inj es1
  refine pfB (i0 := 4) (own := RX10) (T := TX5) (k := 0) (Bn := [w10 cs o_x a_x s_x, w9 cs (a_x 2) a_t s_t, w3 cs (a_x 3) a_h s_h, w8 cs (a_x 4) a_v s_v, w5 cs (a_x 6) a_p s1, w9 cs (a_p 1) a_pt s_pt, w3 cs (a_p 2) a_ph s_ph, w8 cs (a_p 3) a_pv s_pv]) tyX5 tyX5_ok nmX5 hx hb htX5 hown hK hP hD hS rfl e5 rfl (by decide) (hW _ wd321) rfl (by decide +kernel) rfl (Nat.le_of_ble_eq_true rfl) dX10_image_5 (by rw [← es1]; exact u5_0) rfl (fun H locs hP hD hS => ?_)
  refine lv_aload_n hx hb dX10_image_8 rfl (lv_at hl 0 rfl) ?_
  refine gfB (i0 := 0) (own := RX10) (T := TX10) (k := 6) (v := .ref (a_x 6)) hx hb htX10 hown hK hP rfl e10 rfl (by decide) (hW _ wd434) rfl dX10_image_9 ?_
  refine gfB (i0 := 4) (own := RX10) (T := TX5) (k := 1) (v := .ref (a_p 1)) hx hb htX5 hown hK hP rfl e5 rfl (by decide) (hW _ wd323) rfl dX10_image_12 ?_
  refine lv_aload_n hx hb dX10_image_15 rfl (lv_at hl 0 rfl) ?_
  refine gfB (i0 := 0) (own := RX10) (T := TX10) (k := 2) (v := .ref (a_x 2)) hx hb htX10 hown hK hP rfl e10 rfl (by decide) (hW _ wd430) rfl dX10_image_16 ?_
  obtain ⟨q2, eq2, hf⟩ := bnd hf
  refine mcVv (rest := []) (Bn := [w10 cs o_x a_x s_x, w9 cs (a_x 2) a_t s_t, w3 cs (a_x 3) a_h s_h, w8 cs (a_x 4) a_v s_v, w5 cs (a_x 6) a_p s1, w9 cs (a_p 1) a_pt q2, w3 cs (a_p 2) a_ph s_ph, w8 cs (a_p 3) a_pv s_pv]) (isR := [0, 2, 3, 4, 6, 7]) (isC := [5, 1]) (i0 := 5) ⟨hx, hb, hml, hown, hts⟩ hK hP hD hS hA hG (c9_copyFrom l D cs (a_p 1) a_pt (a_x 2) a_t s_pt s_t H.size _ eq2) (cwV 1 hts (gV wd599 wd500 wd501 wd107 wd502) rfl rfl rfl (by decide +kernel) ⟨by rw [hR]; exact Nat.le_of_ble_eq_true rfl, by rw [hR]; exact Nat.le_of_ble_eq_true rfl⟩) 8 (by decide) rfl rfl rfl rfl rfl rfl rfl e9 rfl rfl rfl hl.1 rfl (Nat.le_of_ble_eq_true rfl) ⟨Nat.zero_le _, Nat.zero_le _⟩ dX10_image_19 (fun H locs hP hD hS => ?_)
  refine lv_aload_n hx hb dX10_image_22 rfl (lv_at hl 0 rfl) ?_
  refine gfB (i0 := 0) (own := RX10) (T := TX10) (k := 6) (v := .ref (a_x 6)) hx hb htX10 hown hK hP rfl e10 rfl (by decide) (hW _ wd434) rfl dX10_image_23 ?_
  refine gfB (i0 := 4) (own := RX10) (T := TX5) (k := 2) (v := .ref (a_p 2)) hx hb htX5 hown hK hP rfl e5 rfl (by decide) (hW _ wd325) rfl dX10_image_26 ?_
  refine lv_aload_n hx hb dX10_image_29 rfl (lv_at hl 0 rfl) ?_
  refine gfB (i0 := 0) (own := RX10) (T := TX10) (k := 3) (v := .ref (a_x 3)) hx hb htX10 hown hK hP rfl e10 rfl (by decide) (hW _ wd431) rfl dX10_image_30 ?_
  obtain ⟨q3, eq3, hf⟩ := bnd hf
  refine mcVv (rest := []) (Bn := [w10 cs o_x a_x s_x, w9 cs (a_x 2) a_t s_t, w3 cs (a_x 3) a_h s_h, w8 cs (a_x 4) a_v s_v, w5 cs (a_x 6) a_p s1, w9 cs (a_p 1) a_pt q2, w3 cs (a_p 2) a_ph q3, w8 cs (a_p 3) a_pv s_pv]) (isR := [0, 1, 3, 4, 5, 7]) (isC := [6, 2]) (i0 := 6) ⟨hx, hb, hml, hown, hts⟩ hK hP hD hS hA hG (c3_copyFrom l D cs (a_p 2) a_ph (a_x 3) a_h s_ph s_h H.size _ eq3) (cwV 1 hts (gV wd600 wd601 wd602 wd109 wd603) rfl rfl rfl (by decide +kernel) ⟨by rw [hR]; exact Nat.le_of_ble_eq_true rfl, by rw [hR]; exact Nat.le_of_ble_eq_true rfl⟩) 8 (by decide) rfl rfl rfl rfl rfl rfl rfl e3 rfl rfl rfl hl.1 rfl (Nat.le_of_ble_eq_true rfl) ⟨Nat.zero_le _, Nat.zero_le _⟩ dX10_image_33 (fun H locs hP hD hS => ?_)
  refine lv_aload_n hx hb dX10_image_36 rfl (lv_at hl 0 rfl) ?_
  refine gfB (i0 := 0) (own := RX10) (T := TX10) (k := 6) (v := .ref (a_x 6)) hx hb htX10 hown hK hP rfl e10 rfl (by decide) (hW _ wd434) rfl dX10_image_37 ?_
  refine gfB (i0 := 4) (own := RX10) (T := TX5) (k := 3) (v := .ref (a_p 3)) hx hb htX5 hown hK hP rfl e5 rfl (by decide) (hW _ wd327) rfl dX10_image_40 ?_
  refine lv_aload_n hx hb dX10_image_43 rfl (lv_at hl 0 rfl) ?_
  refine gfB (i0 := 0) (own := RX10) (T := TX10) (k := 4) (v := .ref (a_x 4)) hx hb htX10 hown hK hP rfl e10 rfl (by decide) (hW _ wd432) rfl dX10_image_44 ?_
  obtain ⟨q4, eq4, hf⟩ := bnd hf
  refine mcVv (rest := []) (Bn := [w10 cs o_x a_x s_x, w9 cs (a_x 2) a_t s_t, w3 cs (a_x 3) a_h s_h, w8 cs (a_x 4) a_v s_v, w5 cs (a_x 6) a_p s1, w9 cs (a_p 1) a_pt q2, w3 cs (a_p 2) a_ph q3, w8 cs (a_p 3) a_pv q4]) (isR := [0, 1, 2, 4, 5, 6]) (isC := [7, 3]) (i0 := 7) ⟨hx, hb, hml, hown, hts⟩ hK hP hD hS hA hG (c8_copyFrom l D cs (a_p 3) a_pv (a_x 4) a_v s_pv s_v H.size _ eq4) (cwV 1 hts (gV wd604 wd605 wd606 wd110 wd607) rfl rfl rfl (by decide +kernel) ⟨by rw [hR]; exact Nat.le_of_ble_eq_true rfl, by rw [hR]; exact Nat.le_of_ble_eq_true rfl⟩) 8 (by decide) rfl rfl rfl rfl rfl rfl rfl e8 rfl rfl rfl hl.1 rfl (Nat.le_of_ble_eq_true rfl) ⟨Nat.zero_le _, Nat.zero_le _⟩ dX10_image_47 (fun H locs hP hD hS => ?_)
  refine lv_aload_n hx hb dX10_image_50 rfl (lv_at hl 0 rfl) ?_
  refine gfB (i0 := 0) (own := RX10) (T := TX10) (k := 5) (v := .ref (a_x 5)) hx hb htX10 hown hK hP rfl e10 rfl (by decide) (hW _ wd433) rfl dX10_image_51 ?_
  refine lv_iconst (v := 0) hx hb dX10_image_54 (by decide) ?_
  refine lv_aload_n hx hb dX10_image_55 rfl (lv_at hl 0 rfl) ?_
  refine gfB (i0 := 0) (own := RX10) (T := TX10) (k := 6) (v := .ref (a_x 6)) hx hb htX10 hown hK hP rfl e10 rfl (by decide) (hW _ wd434) rfl dX10_image_56 ?_
  refine gfB (i0 := 4) (own := RX10) (T := TX5) (k := 4) (v := .ref (a_p 4)) hx hb htX5 hown hK hP rfl e5 rfl (by decide) (hW _ wd329) rfl dX10_image_59 ?_
  refine lv_iconst (v := 0) hx hb dX10_image_62 (by decide) ?_
  refine lv_iconst (v := 3) hx hb dX10_image_63 (by decide) ?_
  obtain ⟨s5, es5, hf⟩ := bnd hf
  replace es5 := Option.some.inj es5
  refine cpyB (i1 := 0) (i0 := 4) (Bn := [w10 cs o_x a_x s_x, w9 cs (a_x 2) a_t s_t, w3 cs (a_x 3) a_h s_h, w8 cs (a_x 4) a_v s_v, w5 cs (a_x 6) a_p s5, w9 cs (a_p 1) a_pt q2, w3 cs (a_p 2) a_ph q3, w8 cs (a_p 3) a_pv q4]) (n := 3) (g' := va_cpy (s_x.2 5) (s1.2 4) 0 0 3) hx hb (hml.trans hl.1.symm) (own := RX10) (index := 368) hown (hW _ wd609) (hW _ wd505) (hW _ wd504) (hW _ wd125) hK hP hD hS rfl a10_5 rfl a5_4 (by decide +kernel) (by decide +kernel) (by decide +kernel) (by rw [hR]; exact Nat.le_of_ble_eq_true rfl) (by rw [hR]; exact Nat.le_of_ble_eq_true rfl) rfl dX10_image_64 (by rw [← es5]; exact v5_4) rfl (fun H locs hP hD hS => ?_)
  obtain rfl := Option.some.inj hf
  exact mretV hx hb hr hlocks hK hP hD hS hQ dX10_image_67
/-! TwinLamps.restore -/
noncomputable def f10_restore (s_x : St) (s_t : St) (s_h : HSt) (s_v : St) (s_p : St) (s_pt : St) (s_ph : HSt) (s_pv : St) : Option (Bool × St × St × HSt × St) :=
  if (s_p.1 0) = 0 then some (false, s_x, s_t, s_h, s_v) else (f9_copyFrom s_t s_pt).bind fun q1 =>
  (f3_copyFrom s_h s_ph).bind fun q2 =>
  (f8_copyFrom s_v s_pv).bind fun q3 =>
  (some (sA s_x 5 (va_cpy (s_p.2 4) (s_x.2 5) 0 0 3))).bind fun s4 =>
  some (true, s4, q1, q2, q3)
set_option maxHeartbeats 4000000 in
set_option maxRecDepth 100000 in
theorem c10_restore (l : Launch) (D : va_G) (cs : xE) (o_x : Nat) (a_x : Nat → Nat) (a_t : Nat → Nat) (a_h : Nat → Nat) (a_v : Nat → Nat) (a_p : Nat → Nat) (a_pt : Nat → Nat) (a_ph : Nat → Nat) (a_pv : Nat → Nat) (s_x : St) (s_t : St) (s_h : HSt) (s_v : St) (s_p : St) (s_pt : St) (s_ph : HSt) (s_pv : St) (sz : Nat) (res : Bool × St × St × HSt × St) (hf : f10_restore s_x s_t s_h s_v s_p s_pt s_ph s_pv = some res) : Met l yX10_restore (Cond.code yX10_restore cX10_restore 1 (some .boolean) :: WG) { frames := 3, cells := 0, slots := 0, locals := 69 } (va_Pc [.ref o_x] (mP D cs (List.flatten [w10 cs o_x a_x s_x, w9 cs (a_x 2) a_t s_t, w3 cs (a_x 3) a_h s_h, w8 cs (a_x 4) a_v s_v, w5 cs (a_x 6) a_p s_p, w9 cs (a_p 1) a_pt s_pt, w3 cs (a_p 2) a_ph s_ph, w8 cs (a_p 3) a_pv s_pv]) sz)) (qI D cs (zB res.1) (List.flatten [w10 cs o_x a_x res.2.1, w9 cs (a_x 2) a_t res.2.2.1, w3 cs (a_x 3) a_h res.2.2.2.1, w8 cs (a_x 4) a_v res.2.2.2.2, w5 cs (a_x 6) a_p s_p, w9 cs (a_p 1) a_pt s_pt, w3 cs (a_p 2) a_ph s_ph, w8 cs (a_p 3) a_pv s_pv]) (va_A (List.flatten [w10 cs o_x a_x s_x, w9 cs (a_x 2) a_t s_t, w3 cs (a_x 3) a_h s_h, w8 cs (a_x 4) a_v s_v, w5 cs (a_x 6) a_p s_p, w9 cs (a_p 1) a_pt s_pt, w3 cs (a_p 2) a_ph s_ph, w8 cs (a_p 3) a_pv s_pv]) sz)) 0 0 (va_A (List.flatten [w10 cs o_x a_x s_x, w9 cs (a_x 2) a_t s_t, w3 cs (a_x 3) a_h s_h, w8 cs (a_x 4) a_v s_v, w5 cs (a_x 6) a_p s_p, w9 cs (a_p 1) a_pt s_pt, w3 cs (a_p 2) a_ph s_ph, w8 cs (a_p 3) a_pv s_pv]) sz) := by
  refine mgo (Qc := qI D cs (zB res.1) (List.flatten [w10 cs o_x a_x res.2.1, w9 cs (a_x 2) a_t res.2.2.1, w3 cs (a_x 3) a_h res.2.2.2.1, w8 cs (a_x 4) a_v res.2.2.2.2, w5 cs (a_x 6) a_p s_p, w9 cs (a_p 1) a_pt s_pt, w3 cs (a_p 2) a_ph s_ph, w8 cs (a_p 3) a_pv s_pv])) (cc := cX10_restore) (maxL := 1) (ret := (some .boolean)) (by decide) rfl (Nat.le_of_ble_eq_true rfl) ?_
  intro p e s m below meth c ls A R Q args H hR hQ hx hb hml hr hlocks hown hts hP hK hD hA hS hG hl
  have hown : s.vm.findClass RX10 = some m.cls := hown
  have hl : lv_has ls 1 [(0, .ref o_x)] := hl
  have hW : ∀ w ∈ WG, w.before args s = true := fun w h => hts w (List.mem_cons_of_mem _ h)
  have htX10 : ∀ w ∈ u_ws RX10 TX10 14, w.before args s = true := fun w h => hW w (inW_X10 w h)
  have htX5 : ∀ w ∈ u_ws RX5 TX5 5, w.before args s = true := fun w h => hW w (inW_X5 w h)
  unfold f10_restore at hf
  refine lv_aload_n hx hb dX10_restore_0 rfl (lv_at hl 0 rfl) ?_
  refine gfB (i0 := 0) (own := RX10) (T := TX10) (k := 6) (v := .ref (a_x 6)) hx hb htX10 hown hK hP rfl e10 rfl (by decide) (hW _ wd434) rfl dX10_restore_1 ?_
  refine gfB (i0 := 4) (own := RX10) (T := TX5) (k := 0) (v := .int (s_p.1 0)) hx hb htX5 hown hK hP rfl e5 rfl (by decide) (hW _ wd321) rfl dX10_restore_4 ?_
  refine lv_if_ne (tgt := 12) hx hb dX10_restore_7 (by decide) (fun hc => ?_) (fun hc => ?_)
  · have hf := ifn hc hf
    refine lv_aload_n hx hb dX10_restore_12 rfl (lv_at hl 0 rfl) ?_
    refine gfB (i0 := 0) (own := RX10) (T := TX10) (k := 2) (v := .ref (a_x 2)) hx hb htX10 hown hK hP rfl e10 rfl (by decide) (hW _ wd430) rfl dX10_restore_13 ?_
    refine lv_aload_n hx hb dX10_restore_16 rfl (lv_at hl 0 rfl) ?_
    refine gfB (i0 := 0) (own := RX10) (T := TX10) (k := 6) (v := .ref (a_x 6)) hx hb htX10 hown hK hP rfl e10 rfl (by decide) (hW _ wd434) rfl dX10_restore_17 ?_
    refine gfB (i0 := 4) (own := RX10) (T := TX5) (k := 1) (v := .ref (a_p 1)) hx hb htX5 hown hK hP rfl e5 rfl (by decide) (hW _ wd323) rfl dX10_restore_20 ?_
    obtain ⟨q1, eq1, hf⟩ := bnd hf
    refine mcVv (rest := []) (Bn := [w10 cs o_x a_x s_x, w9 cs (a_x 2) a_t q1, w3 cs (a_x 3) a_h s_h, w8 cs (a_x 4) a_v s_v, w5 cs (a_x 6) a_p s_p, w9 cs (a_p 1) a_pt s_pt, w3 cs (a_p 2) a_ph s_ph, w8 cs (a_p 3) a_pv s_pv]) (isR := [0, 2, 3, 4, 6, 7]) (isC := [1, 5]) (i0 := 1) ⟨hx, hb, hml, hown, hts⟩ hK hP hD hS hA hG (c9_copyFrom l D cs (a_x 2) a_t (a_p 1) a_pt s_t s_pt H.size _ eq1) (cwV 1 hts (gV wd599 wd500 wd501 wd107 wd502) rfl rfl rfl (by decide +kernel) ⟨by rw [hR]; exact Nat.le_of_ble_eq_true rfl, by rw [hR]; exact Nat.le_of_ble_eq_true rfl⟩) 8 (by decide) rfl rfl rfl rfl rfl rfl rfl e9 rfl rfl rfl hl.1 rfl (Nat.le_of_ble_eq_true rfl) ⟨Nat.zero_le _, Nat.zero_le _⟩ dX10_restore_23 (fun H locs hP hD hS => ?_)
    refine lv_aload_n hx hb dX10_restore_26 rfl (lv_at hl 0 rfl) ?_
    refine gfB (i0 := 0) (own := RX10) (T := TX10) (k := 3) (v := .ref (a_x 3)) hx hb htX10 hown hK hP rfl e10 rfl (by decide) (hW _ wd431) rfl dX10_restore_27 ?_
    refine lv_aload_n hx hb dX10_restore_30 rfl (lv_at hl 0 rfl) ?_
    refine gfB (i0 := 0) (own := RX10) (T := TX10) (k := 6) (v := .ref (a_x 6)) hx hb htX10 hown hK hP rfl e10 rfl (by decide) (hW _ wd434) rfl dX10_restore_31 ?_
    refine gfB (i0 := 4) (own := RX10) (T := TX5) (k := 2) (v := .ref (a_p 2)) hx hb htX5 hown hK hP rfl e5 rfl (by decide) (hW _ wd325) rfl dX10_restore_34 ?_
    obtain ⟨q2, eq2, hf⟩ := bnd hf
    refine mcVv (rest := []) (Bn := [w10 cs o_x a_x s_x, w9 cs (a_x 2) a_t q1, w3 cs (a_x 3) a_h q2, w8 cs (a_x 4) a_v s_v, w5 cs (a_x 6) a_p s_p, w9 cs (a_p 1) a_pt s_pt, w3 cs (a_p 2) a_ph s_ph, w8 cs (a_p 3) a_pv s_pv]) (isR := [0, 1, 3, 4, 5, 7]) (isC := [2, 6]) (i0 := 2) ⟨hx, hb, hml, hown, hts⟩ hK hP hD hS hA hG (c3_copyFrom l D cs (a_x 3) a_h (a_p 2) a_ph s_h s_ph H.size _ eq2) (cwV 1 hts (gV wd600 wd601 wd602 wd109 wd603) rfl rfl rfl (by decide +kernel) ⟨by rw [hR]; exact Nat.le_of_ble_eq_true rfl, by rw [hR]; exact Nat.le_of_ble_eq_true rfl⟩) 8 (by decide) rfl rfl rfl rfl rfl rfl rfl e3 rfl rfl rfl hl.1 rfl (Nat.le_of_ble_eq_true rfl) ⟨Nat.zero_le _, Nat.zero_le _⟩ dX10_restore_37 (fun H locs hP hD hS => ?_)
    refine lv_aload_n hx hb dX10_restore_40 rfl (lv_at hl 0 rfl) ?_
    refine gfB (i0 := 0) (own := RX10) (T := TX10) (k := 4) (v := .ref (a_x 4)) hx hb htX10 hown hK hP rfl e10 rfl (by decide) (hW _ wd432) rfl dX10_restore_41 ?_
    refine lv_aload_n hx hb dX10_restore_44 rfl (lv_at hl 0 rfl) ?_
    refine gfB (i0 := 0) (own := RX10) (T := TX10) (k := 6) (v := .ref (a_x 6)) hx hb htX10 hown hK hP rfl e10 rfl (by decide) (hW _ wd434) rfl dX10_restore_45 ?_
    refine gfB (i0 := 4) (own := RX10) (T := TX5) (k := 3) (v := .ref (a_p 3)) hx hb htX5 hown hK hP rfl e5 rfl (by decide) (hW _ wd327) rfl dX10_restore_48 ?_
    obtain ⟨q3, eq3, hf⟩ := bnd hf
    refine mcVv (rest := []) (Bn := [w10 cs o_x a_x s_x, w9 cs (a_x 2) a_t q1, w3 cs (a_x 3) a_h q2, w8 cs (a_x 4) a_v q3, w5 cs (a_x 6) a_p s_p, w9 cs (a_p 1) a_pt s_pt, w3 cs (a_p 2) a_ph s_ph, w8 cs (a_p 3) a_pv s_pv]) (isR := [0, 1, 2, 4, 5, 6]) (isC := [3, 7]) (i0 := 3) ⟨hx, hb, hml, hown, hts⟩ hK hP hD hS hA hG (c8_copyFrom l D cs (a_x 4) a_v (a_p 3) a_pv s_v s_pv H.size _ eq3) (cwV 1 hts (gV wd604 wd605 wd606 wd110 wd607) rfl rfl rfl (by decide +kernel) ⟨by rw [hR]; exact Nat.le_of_ble_eq_true rfl, by rw [hR]; exact Nat.le_of_ble_eq_true rfl⟩) 8 (by decide) rfl rfl rfl rfl rfl rfl rfl e8 rfl rfl rfl hl.1 rfl (Nat.le_of_ble_eq_true rfl) ⟨Nat.zero_le _, Nat.zero_le _⟩ dX10_restore_51 (fun H locs hP hD hS => ?_)
    refine lv_aload_n hx hb dX10_restore_54 rfl (lv_at hl 0 rfl) ?_
    refine gfB (i0 := 0) (own := RX10) (T := TX10) (k := 6) (v := .ref (a_x 6)) hx hb htX10 hown hK hP rfl e10 rfl (by decide) (hW _ wd434) rfl dX10_restore_55 ?_
    refine gfB (i0 := 4) (own := RX10) (T := TX5) (k := 4) (v := .ref (a_p 4)) hx hb htX5 hown hK hP rfl e5 rfl (by decide) (hW _ wd329) rfl dX10_restore_58 ?_
    refine lv_iconst (v := 0) hx hb dX10_restore_61 (by decide) ?_
    refine lv_aload_n hx hb dX10_restore_62 rfl (lv_at hl 0 rfl) ?_
    refine gfB (i0 := 0) (own := RX10) (T := TX10) (k := 5) (v := .ref (a_x 5)) hx hb htX10 hown hK hP rfl e10 rfl (by decide) (hW _ wd433) rfl dX10_restore_63 ?_
    refine lv_iconst (v := 0) hx hb dX10_restore_66 (by decide) ?_
    refine lv_iconst (v := 3) hx hb dX10_restore_67 (by decide) ?_
    obtain ⟨s4, es4, hf⟩ := bnd hf
    replace es4 := Option.some.inj es4
    refine cpyB (i1 := 4) (i0 := 0) (Bn := [w10 cs o_x a_x s4, w9 cs (a_x 2) a_t q1, w3 cs (a_x 3) a_h q2, w8 cs (a_x 4) a_v q3, w5 cs (a_x 6) a_p s_p, w9 cs (a_p 1) a_pt s_pt, w3 cs (a_p 2) a_ph s_ph, w8 cs (a_p 3) a_pv s_pv]) (n := 3) (g' := va_cpy (s_p.2 4) (s_x.2 5) 0 0 3) hx hb (hml.trans hl.1.symm) (own := RX10) (index := 368) hown (hW _ wd609) (hW _ wd505) (hW _ wd504) (hW _ wd125) hK hP hD hS rfl a5_4 rfl a10_5 (by decide +kernel) (by decide +kernel) (by decide +kernel) (by rw [hR]; exact Nat.le_of_ble_eq_true rfl) (by rw [hR]; exact Nat.le_of_ble_eq_true rfl) rfl dX10_restore_68 (by rw [← es4]; exact v10_5) rfl (fun H locs hP hD hS => ?_)
    refine lv_iconst (v := 1) hx hb dX10_restore_71 (by decide) ?_
    obtain rfl := Option.some.inj hf
    exact mretZ hx hb hr hlocks hK hP hD hS rfl hQ dX10_restore_72
  · have hf := ifp hc hf
    refine lv_iconst (v := 0) hx hb dX10_restore_10 (by decide) ?_
    obtain rfl := Option.some.inj hf
    exact mretZ hx hb hr hlocks hK hP hD hS rfl hQ dX10_restore_11
