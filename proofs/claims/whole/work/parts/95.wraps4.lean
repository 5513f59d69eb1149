/-! the law's static methods -/
set_option maxHeartbeats 4000000 in
set_option maxRecDepth 100000 in
theorem wl_fund (l : Launch) (D : va_G) (cs : xE) (o_x : Nat) (a_x : Nat → Nat) (a_t : Nat → Nat) (a_t2 : Nat → Nat) (s_x : St) (s_t : St) (s_t2 : St) (sz : Nat) (x1 : Int32) (res : Int32 × St) (hf : f10_fund s_x s_t s_t2 x1 = some (.inl res)) (qo : Nat) (fo : Nat → Int64) : Met l yL_fund (Cond.codeWith yL_fund cL_fund 4 (some .int) [(0, 9, 12, 18)] :: WG) { frames := 8, cells := 0, slots := 0, locals := 134 } (va_Pc [.ref o_x, .int x1, .ref qo] (mP D cs (List.flatten [w10 cs o_x a_x s_x, w9 cs (a_x 2) a_t s_t, w9 cs (a_x 9) a_t2 s_t2, wO cs qo fo]) sz)) (qI D cs 0 (List.flatten [w10 cs o_x a_x s_x, w9 cs (a_x 2) a_t s_t, w9 cs (a_x 9) a_t2 res.2, wO cs qo (up64 fo res.1.toInt64)]) (va_A (List.flatten [w10 cs o_x a_x s_x, w9 cs (a_x 2) a_t s_t, w9 cs (a_x 9) a_t2 s_t2, wO cs qo fo]) sz)) 0 0 (va_A (List.flatten [w10 cs o_x a_x s_x, w9 cs (a_x 2) a_t s_t, w9 cs (a_x 9) a_t2 s_t2, wO cs qo fo]) sz) := by
  refine mgoW (hh := [(0, 9, 12, 18)]) (Qc := qI D cs 0 (List.flatten [w10 cs o_x a_x s_x, w9 cs (a_x 2) a_t s_t, w9 cs (a_x 9) a_t2 res.2, wO cs qo (up64 fo res.1.toInt64)])) (cc := cL_fund) (maxL := 4) (ret := some .int) (by decide) rfl (Nat.le_of_ble_eq_true rfl) ?_
  intro p e s m below meth c ls A R Q args H hR hQ hx hb hml hr hlocks htab hown hts hP hK hD hA hS hG hl
  subst hR
  have hown : s.vm.findClass RL = some m.cls := hown
  have hl : lv_has ls 4 [(0, .ref o_x), (1, .int x1), (2, .ref qo)] := hl
  have hW : ∀ w ∈ WG, w.before args s = true := fun w h => hts w (List.mem_cons_of_mem _ h)
  refine lv_aload_n hx hb dL_fund_0 rfl (lv_at hl 2 rfl) ?_
  refine lv_iconst (v := 0) hx hb dL_fund_1 (by decide) ?_
  refine lv_aload_n hx hb dL_fund_2 rfl (lv_at hl 0 rfl) ?_
  refine lv_iload_n hx hb dL_fund_3 rfl (lv_at hl 1 rfl) ?_
  refine mcVi (v := res.1) (rest := [.int 0, .ref qo]) (Bn := [w10 cs o_x a_x s_x, w9 cs (a_x 2) a_t s_t, w9 cs (a_x 9) a_t2 res.2, wO cs qo fo]) (isR := [3]) (isC := [0, 1, 2]) (i0 := 0) ⟨hx, hb, hml, hown, hts⟩ hK hP hD hS hA hG (c10_fund l D cs o_x a_x a_t a_t2 s_x s_t s_t2 H.size x1 _ hf) (cwV 1 hts (gV wd1180 wd1181 wd1182 wd105 wd1183) rfl rfl rfl (by decide +kernel) ⟨(Nat.le_of_ble_eq_true rfl), (Nat.le_of_ble_eq_true rfl)⟩) 4 (by decide) rfl rfl rfl rfl rfl rfl rfl e10 rfl rfl rfl hl.1 rfl (Nat.le_of_ble_eq_true rfl) ⟨Nat.zero_le _, Nat.zero_le _⟩ dL_fund_4 (fun H locs hP hD hS => ?_)
  refine lv_i2l hx hb dL_fund_7 rfl ?_
  refine lsO (i0 := 3) (q := qo) (f := fo) hx hb hK hP hD hS rfl dL_fund_8 rfl (fun H locs hP hD hS => ?_)
  refine lv_goto (tgt := 15) hx hb dL_fund_9 (by decide) ?_
  refine lv_iconst (v := 0) hx hb dL_fund_15 (by decide) ?_
  exact mretI hx hb hr hlocks hK hP hD hS rfl hQ dL_fund_16
set_option maxHeartbeats 4000000 in
set_option maxRecDepth 100000 in
theorem wx_fund (l : Launch) (D : va_G) (cs : xE) (hl0 : l.stackTraces = false) (o_x : Nat) (a_x : Nat → Nat) (a_t : Nat → Nat) (a_t2 : Nat → Nat) (s_x : St) (s_t : St) (s_t2 : St) (sz : Nat) (x1 : Int32) (k : Nat) (hf : f10_fund s_x s_t s_t2 x1 = some (.inr k)) (hk : k ≠ 0) (qo : Nat) (fo : Nat → Int64) : Met l yL_fund (Cond.codeWith yL_fund cL_fund 4 (some .int) [(0, 9, 12, 18)] :: WG) { frames := 8, cells := 1, slots := 6, locals := 134 } (va_Pc [.ref o_x, .int x1, .ref qo] (mP D cs (List.flatten [w10 cs o_x a_x s_x, w9 cs (a_x 2) a_t s_t, w9 cs (a_x 9) a_t2 s_t2, wO cs qo fo]) sz)) (qI D cs 1 (List.flatten [w10 cs o_x a_x s_x, w9 cs (a_x 2) a_t s_t, w9 cs (a_x 9) a_t2 s_t2, wO cs qo fo]) (va_A (List.flatten [w10 cs o_x a_x s_x, w9 cs (a_x 2) a_t s_t, w9 cs (a_x 9) a_t2 s_t2, wO cs qo fo]) sz)) 1 6 (va_A (List.flatten [w10 cs o_x a_x s_x, w9 cs (a_x 2) a_t s_t, w9 cs (a_x 9) a_t2 s_t2, wO cs qo fo]) sz) := by
  refine mgoW (hh := [(0, 9, 12, 18)]) (Qc := qI D cs 1 (List.flatten [w10 cs o_x a_x s_x, w9 cs (a_x 2) a_t s_t, w9 cs (a_x 9) a_t2 s_t2, wO cs qo fo])) (cc := cL_fund) (maxL := 4) (ret := some .int) (by decide) rfl (Nat.le_of_ble_eq_true rfl) ?_
  intro p e s m below meth c ls A R Q args H hR hQ hx hb hml hr hlocks htab hown hts hP hK hD hA hS hG hl
  subst hR
  have hown : s.vm.findClass RL = some m.cls := hown
  have hl : lv_has ls 4 [(0, .ref o_x), (1, .int x1), (2, .ref qo)] := hl
  have hW : ∀ w ∈ WG, w.before args s = true := fun w h => hts w (List.mem_cons_of_mem _ h)
  refine lv_aload_n hx hb dL_fund_0 rfl (lv_at hl 2 rfl) ?_
  refine lv_iconst (v := 0) hx hb dL_fund_1 (by decide) ?_
  refine lv_aload_n hx hb dL_fund_2 rfl (lv_at hl 0 rfl) ?_
  refine lv_iload_n hx hb dL_fund_3 rfl (lv_at hl 1 rfl) ?_
  refine mxCV (k := k) (rest := [.int 0, .ref qo]) (isR := [3]) (isC := [0, 1, 2]) (i0 := 0) ⟨hx, hb, hml, hown, hts⟩ hK hP hD hS hA hG (c10x_fund l D cs hl0 o_x a_x a_t a_t2 s_x s_t s_t2 H.size x1 k hf) (cwV 1 hts (gV wd1180 wd1181 wd1182 wd105 wd1183) rfl rfl rfl (by decide +kernel) ⟨(Nat.le_of_ble_eq_true rfl), (Nat.le_of_ble_eq_true rfl)⟩) 4 (by decide) rfl rfl rfl rfl e10 rfl rfl rfl hl.1 rfl (Nat.le_of_ble_eq_true rfl) ⟨(Nat.le_of_ble_eq_true rfl), (Nat.le_of_ble_eq_true rfl)⟩ dL_fund_4 (fun ce q9 H locs hP hD hS h1 h2 h3 => ?_)
  refine cTN (hi := 9) (hp := 12) (suf := []) hown hW hG htab (by decide) hk h1 h2 h3 ?_
  refine lv_astore_n (lv' := [(3, .ref q9), (0, .ref o_x), (1, .int x1), (2, .ref qo)]) hx hb dL_fund_12 rfl hl (by decide) rfl (fun ls hl => ?_)
  refine lv_iconst (v := 1) hx hb dL_fund_13 (by decide) ?_
  exact mretI hx hb hr hlocks hK hP hD hS rfl hQ dL_fund_14
set_option maxHeartbeats 4000000 in
set_option maxRecDepth 100000 in
theorem wl_signals (l : Launch) (D : va_G) (cs : xE) (o_x : Nat) (a_x : Nat → Nat) (a_t : Nat → Nat) (s_x : St) (s_t : St) (sz : Nat) (x1 : Int32) (res : Int32) (hf : f10_signals s_x s_t x1 = some (.inl res)) (qo : Nat) (fo : Nat → Int64) : Met l yL_signals (Cond.codeWith yL_signals cL_signals 4 (some .int) [(0, 9, 12, 13)] :: WG) { frames := 7, cells := 0, slots := 0, locals := 114 } (va_Pc [.ref o_x, .int x1, .ref qo] (mP D cs (List.flatten [w10 cs o_x a_x s_x, w9 cs (a_x 2) a_t s_t, wO cs qo fo]) sz)) (qI D cs 0 (List.flatten [w10 cs o_x a_x s_x, w9 cs (a_x 2) a_t s_t, wO cs qo (up64 fo res.toInt64)]) (va_A (List.flatten [w10 cs o_x a_x s_x, w9 cs (a_x 2) a_t s_t, wO cs qo fo]) sz)) 0 0 (va_A (List.flatten [w10 cs o_x a_x s_x, w9 cs (a_x 2) a_t s_t, wO cs qo fo]) sz) := by
  refine mgoW (hh := [(0, 9, 12, 13)]) (Qc := qI D cs 0 (List.flatten [w10 cs o_x a_x s_x, w9 cs (a_x 2) a_t s_t, wO cs qo (up64 fo res.toInt64)])) (cc := cL_signals) (maxL := 4) (ret := some .int) (by decide) rfl (Nat.le_of_ble_eq_true rfl) ?_
  intro p e s m below meth c ls A R Q args H hR hQ hx hb hml hr hlocks htab hown hts hP hK hD hA hS hG hl
  subst hR
  have hown : s.vm.findClass RL = some m.cls := hown
  have hl : lv_has ls 4 [(0, .ref o_x), (1, .int x1), (2, .ref qo)] := hl
  have hW : ∀ w ∈ WG, w.before args s = true := fun w h => hts w (List.mem_cons_of_mem _ h)
  refine lv_aload_n hx hb dL_signals_0 rfl (lv_at hl 2 rfl) ?_
  refine lv_iconst (v := 0) hx hb dL_signals_1 (by decide) ?_
  refine lv_aload_n hx hb dL_signals_2 rfl (lv_at hl 0 rfl) ?_
  refine lv_iload_n hx hb dL_signals_3 rfl (lv_at hl 1 rfl) ?_
  refine mcVi (v := res) (rest := [.int 0, .ref qo]) (Bn := [w10 cs o_x a_x s_x, w9 cs (a_x 2) a_t s_t, wO cs qo fo]) (isR := [2]) (isC := [0, 1]) (i0 := 0) ⟨hx, hb, hml, hown, hts⟩ hK hP hD hS hA hG (c10_signals l D cs o_x a_x a_t s_x s_t H.size x1 _ hf) (cwV 1 hts (gV wd1191 wd1192 wd1193 wd105 wd1194) rfl rfl rfl (by decide +kernel) ⟨(Nat.le_of_ble_eq_true rfl), (Nat.le_of_ble_eq_true rfl)⟩) 3 (by decide) rfl rfl rfl rfl rfl rfl rfl e10 rfl rfl rfl hl.1 rfl (Nat.le_of_ble_eq_true rfl) ⟨Nat.zero_le _, Nat.zero_le _⟩ dL_signals_4 (fun H locs hP hD hS => ?_)
  refine lv_i2l hx hb dL_signals_7 rfl ?_
  refine lsO (i0 := 2) (q := qo) (f := fo) hx hb hK hP hD hS rfl dL_signals_8 rfl (fun H locs hP hD hS => ?_)
  refine lv_goto (tgt := 15) hx hb dL_signals_9 (by decide) ?_
  refine lv_iconst (v := 0) hx hb dL_signals_15 (by decide) ?_
  exact mretI hx hb hr hlocks hK hP hD hS rfl hQ dL_signals_16
set_option maxHeartbeats 4000000 in
set_option maxRecDepth 100000 in
theorem wx_signals (l : Launch) (D : va_G) (cs : xE) (hl0 : l.stackTraces = false) (o_x : Nat) (a_x : Nat → Nat) (a_t : Nat → Nat) (s_x : St) (s_t : St) (sz : Nat) (x1 : Int32) (k : Nat) (hf : f10_signals s_x s_t x1 = some (.inr k)) (hk : k = 0) (qo : Nat) (fo : Nat → Int64) : Met l yL_signals (Cond.codeWith yL_signals cL_signals 4 (some .int) [(0, 9, 12, 13)] :: WG) { frames := 7, cells := 1, slots := 6, locals := 114 } (va_Pc [.ref o_x, .int x1, .ref qo] (mP D cs (List.flatten [w10 cs o_x a_x s_x, w9 cs (a_x 2) a_t s_t, wO cs qo fo]) sz)) (qI D cs 1 (List.flatten [w10 cs o_x a_x s_x, w9 cs (a_x 2) a_t s_t, wO cs qo fo]) (va_A (List.flatten [w10 cs o_x a_x s_x, w9 cs (a_x 2) a_t s_t, wO cs qo fo]) sz)) 1 6 (va_A (List.flatten [w10 cs o_x a_x s_x, w9 cs (a_x 2) a_t s_t, wO cs qo fo]) sz) := by
  refine mgoW (hh := [(0, 9, 12, 13)]) (Qc := qI D cs 1 (List.flatten [w10 cs o_x a_x s_x, w9 cs (a_x 2) a_t s_t, wO cs qo fo])) (cc := cL_signals) (maxL := 4) (ret := some .int) (by decide) rfl (Nat.le_of_ble_eq_true rfl) ?_
  intro p e s m below meth c ls A R Q args H hR hQ hx hb hml hr hlocks htab hown hts hP hK hD hA hS hG hl
  subst hR
  have hown : s.vm.findClass RL = some m.cls := hown
  have hl : lv_has ls 4 [(0, .ref o_x), (1, .int x1), (2, .ref qo)] := hl
  have hW : ∀ w ∈ WG, w.before args s = true := fun w h => hts w (List.mem_cons_of_mem _ h)
  refine lv_aload_n hx hb dL_signals_0 rfl (lv_at hl 2 rfl) ?_
  refine lv_iconst (v := 0) hx hb dL_signals_1 (by decide) ?_
  refine lv_aload_n hx hb dL_signals_2 rfl (lv_at hl 0 rfl) ?_
  refine lv_iload_n hx hb dL_signals_3 rfl (lv_at hl 1 rfl) ?_
  refine mxCV (k := k) (rest := [.int 0, .ref qo]) (isR := [2]) (isC := [0, 1]) (i0 := 0) ⟨hx, hb, hml, hown, hts⟩ hK hP hD hS hA hG (c10x_signals l D cs hl0 o_x a_x a_t s_x s_t H.size x1 k hf) (cwV 1 hts (gV wd1191 wd1192 wd1193 wd105 wd1194) rfl rfl rfl (by decide +kernel) ⟨(Nat.le_of_ble_eq_true rfl), (Nat.le_of_ble_eq_true rfl)⟩) 3 (by decide) rfl rfl rfl rfl e10 rfl rfl rfl hl.1 rfl (Nat.le_of_ble_eq_true rfl) ⟨(Nat.le_of_ble_eq_true rfl), (Nat.le_of_ble_eq_true rfl)⟩ dL_signals_4 (fun ce q9 H locs hP hD hS h1 h2 h3 => ?_)
  refine cTI (hi := 9) (hp := 12) (suf := []) hown hW hG htab (by decide) hk h1 h2 h3 ?_
  refine lv_astore_n (lv' := [(3, .ref q9), (0, .ref o_x), (1, .int x1), (2, .ref qo)]) hx hb dL_signals_12 rfl hl (by decide) rfl (fun ls hl => ?_)
  refine lv_iconst (v := 1) hx hb dL_signals_13 (by decide) ?_
  exact mretI hx hb hr hlocks hK hP hD hS rfl hQ dL_signals_14
set_option maxHeartbeats 4000000 in
set_option maxRecDepth 100000 in
theorem wl_see (l : Launch) (D : va_G) (cs : xE) (o_x : Nat) (a_x : Nat → Nat) (a_t : Nat → Nat) (a_v : Nat → Nat) (s_x : St) (s_t : St) (s_v : St) (sz : Nat) (x1 : Int32) (x2 : Int32) (x3 : Bool) (res : Int32 × St × St) (hf : f10_see s_x s_t s_v x1 x2 x3 = some (.inl res)) (qo : Nat) (fo : Nat → Int64) : Met l yL_see (Cond.codeWith yL_see cL_see 6 (some .int) [(0, 12, 15, 18)] :: WG) { frames := 8, cells := 0, slots := 0, locals := 134 } (va_Pc [.ref o_x, .int x1, .int x2, .int (zB x3), .ref qo] (mP D cs (List.flatten [w10 cs o_x a_x s_x, w9 cs (a_x 2) a_t s_t, w8 cs (a_x 4) a_v s_v, wO cs qo fo]) sz)) (qI D cs 0 (List.flatten [w10 cs o_x a_x res.2.1, w9 cs (a_x 2) a_t s_t, w8 cs (a_x 4) a_v res.2.2, wO cs qo (up64 fo res.1.toInt64)]) (va_A (List.flatten [w10 cs o_x a_x s_x, w9 cs (a_x 2) a_t s_t, w8 cs (a_x 4) a_v s_v, wO cs qo fo]) sz)) 0 0 (va_A (List.flatten [w10 cs o_x a_x s_x, w9 cs (a_x 2) a_t s_t, w8 cs (a_x 4) a_v s_v, wO cs qo fo]) sz) := by
  refine mgoW (hh := [(0, 12, 15, 18)]) (Qc := qI D cs 0 (List.flatten [w10 cs o_x a_x res.2.1, w9 cs (a_x 2) a_t s_t, w8 cs (a_x 4) a_v res.2.2, wO cs qo (up64 fo res.1.toInt64)])) (cc := cL_see) (maxL := 6) (ret := some .int) (by decide) rfl (Nat.le_of_ble_eq_true rfl) ?_
  intro p e s m below meth c ls A R Q args H hR hQ hx hb hml hr hlocks htab hown hts hP hK hD hA hS hG hl
  subst hR
  have hown : s.vm.findClass RL = some m.cls := hown
  have hl : lv_has ls 6 [(0, .ref o_x), (1, .int x1), (2, .int x2), (3, .int (zB x3)), (4, .ref qo)] := hl
  have hW : ∀ w ∈ WG, w.before args s = true := fun w h => hts w (List.mem_cons_of_mem _ h)
  refine lv_aload hx hb dL_see_0 (lv_at hl 4 rfl) ?_
  refine lv_iconst (v := 0) hx hb dL_see_2 (by decide) ?_
  refine lv_aload_n hx hb dL_see_3 rfl (lv_at hl 0 rfl) ?_
  refine lv_iload_n hx hb dL_see_4 rfl (lv_at hl 1 rfl) ?_
  refine lv_iload_n hx hb dL_see_5 rfl (lv_at hl 2 rfl) ?_
  refine lv_iload_n hx hb dL_see_6 rfl (lv_at hl 3 rfl) ?_
  refine mcVi (v := res.1) (rest := [.int 0, .ref qo]) (Bn := [w10 cs o_x a_x res.2.1, w9 cs (a_x 2) a_t s_t, w8 cs (a_x 4) a_v res.2.2, wO cs qo fo]) (isR := [3]) (isC := [0, 1, 2]) (i0 := 0) ⟨hx, hb, hml, hown, hts⟩ hK hP hD hS hA hG (c10_see l D cs o_x a_x a_t a_v s_x s_t s_v H.size x1 x2 x3 _ hf) (cwV 3 hts (gV wd1203 wd1204 wd1205 wd105 wd1206) rfl rfl rfl (by decide +kernel) ⟨(Nat.le_of_ble_eq_true rfl), (Nat.le_of_ble_eq_true rfl)⟩) 4 (by decide) rfl rfl rfl rfl rfl rfl rfl e10 rfl rfl rfl hl.1 rfl (Nat.le_of_ble_eq_true rfl) ⟨Nat.zero_le _, Nat.zero_le _⟩ dL_see_7 (fun H locs hP hD hS => ?_)
  refine lv_i2l hx hb dL_see_10 rfl ?_
  refine lsO (i0 := 3) (q := qo) (f := fo) hx hb hK hP hD hS rfl dL_see_11 rfl (fun H locs hP hD hS => ?_)
  refine lv_goto (tgt := 19) hx hb dL_see_12 (by decide) ?_
  refine lv_iconst (v := 0) hx hb dL_see_19 (by decide) ?_
  exact mretI hx hb hr hlocks hK hP hD hS rfl hQ dL_see_20
set_option maxHeartbeats 4000000 in
set_option maxRecDepth 100000 in
theorem wx_see (l : Launch) (D : va_G) (cs : xE) (hl0 : l.stackTraces = false) (o_x : Nat) (a_x : Nat → Nat) (a_t : Nat → Nat) (a_v : Nat → Nat) (s_x : St) (s_t : St) (s_v : St) (sz : Nat) (x1 : Int32) (x2 : Int32) (x3 : Bool) (k : Nat) (hf : f10_see s_x s_t s_v x1 x2 x3 = some (.inr k)) (hk : k ≠ 0) (qo : Nat) (fo : Nat → Int64) : Met l yL_see (Cond.codeWith yL_see cL_see 6 (some .int) [(0, 12, 15, 18)] :: WG) { frames := 8, cells := 1, slots := 6, locals := 134 } (va_Pc [.ref o_x, .int x1, .int x2, .int (zB x3), .ref qo] (mP D cs (List.flatten [w10 cs o_x a_x s_x, w9 cs (a_x 2) a_t s_t, w8 cs (a_x 4) a_v s_v, wO cs qo fo]) sz)) (qI D cs 1 (List.flatten [w10 cs o_x a_x s_x, w9 cs (a_x 2) a_t s_t, w8 cs (a_x 4) a_v s_v, wO cs qo fo]) (va_A (List.flatten [w10 cs o_x a_x s_x, w9 cs (a_x 2) a_t s_t, w8 cs (a_x 4) a_v s_v, wO cs qo fo]) sz)) 1 6 (va_A (List.flatten [w10 cs o_x a_x s_x, w9 cs (a_x 2) a_t s_t, w8 cs (a_x 4) a_v s_v, wO cs qo fo]) sz) := by
  refine mgoW (hh := [(0, 12, 15, 18)]) (Qc := qI D cs 1 (List.flatten [w10 cs o_x a_x s_x, w9 cs (a_x 2) a_t s_t, w8 cs (a_x 4) a_v s_v, wO cs qo fo])) (cc := cL_see) (maxL := 6) (ret := some .int) (by decide) rfl (Nat.le_of_ble_eq_true rfl) ?_
  intro p e s m below meth c ls A R Q args H hR hQ hx hb hml hr hlocks htab hown hts hP hK hD hA hS hG hl
  subst hR
  have hown : s.vm.findClass RL = some m.cls := hown
  have hl : lv_has ls 6 [(0, .ref o_x), (1, .int x1), (2, .int x2), (3, .int (zB x3)), (4, .ref qo)] := hl
  have hW : ∀ w ∈ WG, w.before args s = true := fun w h => hts w (List.mem_cons_of_mem _ h)
  refine lv_aload hx hb dL_see_0 (lv_at hl 4 rfl) ?_
  refine lv_iconst (v := 0) hx hb dL_see_2 (by decide) ?_
  refine lv_aload_n hx hb dL_see_3 rfl (lv_at hl 0 rfl) ?_
  refine lv_iload_n hx hb dL_see_4 rfl (lv_at hl 1 rfl) ?_
  refine lv_iload_n hx hb dL_see_5 rfl (lv_at hl 2 rfl) ?_
  refine lv_iload_n hx hb dL_see_6 rfl (lv_at hl 3 rfl) ?_
  refine mxCV (k := k) (rest := [.int 0, .ref qo]) (isR := [3]) (isC := [0, 1, 2]) (i0 := 0) ⟨hx, hb, hml, hown, hts⟩ hK hP hD hS hA hG (c10x_see l D cs hl0 o_x a_x a_t a_v s_x s_t s_v H.size x1 x2 x3 k hf) (cwV 3 hts (gV wd1203 wd1204 wd1205 wd105 wd1206) rfl rfl rfl (by decide +kernel) ⟨(Nat.le_of_ble_eq_true rfl), (Nat.le_of_ble_eq_true rfl)⟩) 4 (by decide) rfl rfl rfl rfl e10 rfl rfl rfl hl.1 rfl (Nat.le_of_ble_eq_true rfl) ⟨(Nat.le_of_ble_eq_true rfl), (Nat.le_of_ble_eq_true rfl)⟩ dL_see_7 (fun ce q9 H locs hP hD hS h1 h2 h3 => ?_)
  refine cTN (hi := 12) (hp := 15) (suf := []) hown hW hG htab (by decide) hk h1 h2 h3 ?_
  refine lv_astore (lv' := [(5, .ref q9), (0, .ref o_x), (1, .int x1), (2, .int x2), (3, .int (zB x3)), (4, .ref qo)]) hx hb dL_see_15 hl (by decide) rfl (fun ls hl => ?_)
  refine lv_iconst (v := 1) hx hb dL_see_17 (by decide) ?_
  exact mretI hx hb hr hlocks hK hP hD hS rfl hQ dL_see_18
set_option maxHeartbeats 4000000 in
set_option maxRecDepth 100000 in
theorem wl_whose (l : Launch) (D : va_G) (cs : xE) (o_x : Nat) (a_x : Nat → Nat) (a_t : Nat → Nat) (a_t2 : Nat → Nat) (a_g : Nat → Nat) (a_v : Nat → Nat) (s_x : St) (s_t : St) (s_t2 : St) (s_e : St) (s_g : St) (s_v : St) (sz : Nat) (x1 : Int32) (res : Int32 × St × St × St) (hf : f10_whose s_x s_t s_t2 s_e s_g s_v x1 = some (.inl res)) (qo : Nat) (fo : Nat → Int64) : Met l yL_whose (Cond.codeWith yL_whose cL_whose 4 (some .int) [(0, 9, 12, 18)] :: WG) { frames := 8, cells := 0, slots := 0, locals := 159 } (va_Pc [.ref o_x, .int x1, .ref qo] (mP D cs (List.flatten [w10 cs o_x a_x s_x, w9 cs (a_x 2) a_t s_t, w9 cs (a_x 9) a_t2 s_t2, w2 cs (a_x 8) a0n s_e, w7 cs (a_x 1) a_g s_g, w8 cs (a_x 4) a_v s_v, wO cs qo fo]) sz)) (qI D cs 0 (List.flatten [w10 cs o_x a_x s_x, w9 cs (a_x 2) a_t s_t, w9 cs (a_x 9) a_t2 res.2.1, w2 cs (a_x 8) a0n res.2.2.1, w7 cs (a_x 1) a_g res.2.2.2, w8 cs (a_x 4) a_v s_v, wO cs qo (up64 fo res.1.toInt64)]) (va_A (List.flatten [w10 cs o_x a_x s_x, w9 cs (a_x 2) a_t s_t, w9 cs (a_x 9) a_t2 s_t2, w2 cs (a_x 8) a0n s_e, w7 cs (a_x 1) a_g s_g, w8 cs (a_x 4) a_v s_v, wO cs qo fo]) sz)) 0 0 (va_A (List.flatten [w10 cs o_x a_x s_x, w9 cs (a_x 2) a_t s_t, w9 cs (a_x 9) a_t2 s_t2, w2 cs (a_x 8) a0n s_e, w7 cs (a_x 1) a_g s_g, w8 cs (a_x 4) a_v s_v, wO cs qo fo]) sz) := by
  refine mgoW (hh := [(0, 9, 12, 18)]) (Qc := qI D cs 0 (List.flatten [w10 cs o_x a_x s_x, w9 cs (a_x 2) a_t s_t, w9 cs (a_x 9) a_t2 res.2.1, w2 cs (a_x 8) a0n res.2.2.1, w7 cs (a_x 1) a_g res.2.2.2, w8 cs (a_x 4) a_v s_v, wO cs qo (up64 fo res.1.toInt64)])) (cc := cL_whose) (maxL := 4) (ret := some .int) (by decide) rfl (Nat.le_of_ble_eq_true rfl) ?_
  intro p e s m below meth c ls A R Q args H hR hQ hx hb hml hr hlocks htab hown hts hP hK hD hA hS hG hl
  subst hR
  have hown : s.vm.findClass RL = some m.cls := hown
  have hl : lv_has ls 4 [(0, .ref o_x), (1, .int x1), (2, .ref qo)] := hl
  have hW : ∀ w ∈ WG, w.before args s = true := fun w h => hts w (List.mem_cons_of_mem _ h)
  refine lv_aload_n hx hb dL_whose_0 rfl (lv_at hl 2 rfl) ?_
  refine lv_iconst (v := 0) hx hb dL_whose_1 (by decide) ?_
  refine lv_aload_n hx hb dL_whose_2 rfl (lv_at hl 0 rfl) ?_
  refine lv_iload_n hx hb dL_whose_3 rfl (lv_at hl 1 rfl) ?_
  refine mcVi (v := res.1) (rest := [.int 0, .ref qo]) (Bn := [w10 cs o_x a_x s_x, w9 cs (a_x 2) a_t s_t, w9 cs (a_x 9) a_t2 res.2.1, w2 cs (a_x 8) a0n res.2.2.1, w7 cs (a_x 1) a_g res.2.2.2, w8 cs (a_x 4) a_v s_v, wO cs qo fo]) (isR := [6]) (isC := [0, 1, 2, 3, 4, 5]) (i0 := 0) ⟨hx, hb, hml, hown, hts⟩ hK hP hD hS hA hG (c10_whose l D cs o_x a_x a_t a_t2 a_g a_v s_x s_t s_t2 s_e s_g s_v H.size x1 _ hf) (cwV 1 hts (gV wd1214 wd1215 wd1216 wd105 wd1217) rfl rfl rfl (by decide +kernel) ⟨(Nat.le_of_ble_eq_true rfl), (Nat.le_of_ble_eq_true rfl)⟩) 7 (by decide) rfl rfl rfl rfl rfl rfl rfl e10 rfl rfl rfl hl.1 rfl (Nat.le_of_ble_eq_true rfl) ⟨Nat.zero_le _, Nat.zero_le _⟩ dL_whose_4 (fun H locs hP hD hS => ?_)
  refine lv_i2l hx hb dL_whose_7 rfl ?_
  refine lsO (i0 := 6) (q := qo) (f := fo) hx hb hK hP hD hS rfl dL_whose_8 rfl (fun H locs hP hD hS => ?_)
  refine lv_goto (tgt := 15) hx hb dL_whose_9 (by decide) ?_
  refine lv_iconst (v := 0) hx hb dL_whose_15 (by decide) ?_
  exact mretI hx hb hr hlocks hK hP hD hS rfl hQ dL_whose_16
set_option maxHeartbeats 4000000 in
set_option maxRecDepth 100000 in
theorem wx_whose (l : Launch) (D : va_G) (cs : xE) (hl0 : l.stackTraces = false) (o_x : Nat) (a_x : Nat → Nat) (a_t : Nat → Nat) (a_t2 : Nat → Nat) (a_g : Nat → Nat) (a_v : Nat → Nat) (s_x : St) (s_t : St) (s_t2 : St) (s_e : St) (s_g : St) (s_v : St) (sz : Nat) (x1 : Int32) (k : Nat) (hf : f10_whose s_x s_t s_t2 s_e s_g s_v x1 = some (.inr k)) (hk : k ≠ 0) (qo : Nat) (fo : Nat → Int64) : Met l yL_whose (Cond.codeWith yL_whose cL_whose 4 (some .int) [(0, 9, 12, 18)] :: WG) { frames := 8, cells := 1, slots := 6, locals := 159 } (va_Pc [.ref o_x, .int x1, .ref qo] (mP D cs (List.flatten [w10 cs o_x a_x s_x, w9 cs (a_x 2) a_t s_t, w9 cs (a_x 9) a_t2 s_t2, w2 cs (a_x 8) a0n s_e, w7 cs (a_x 1) a_g s_g, w8 cs (a_x 4) a_v s_v, wO cs qo fo]) sz)) (qI D cs 1 (List.flatten [w10 cs o_x a_x s_x, w9 cs (a_x 2) a_t s_t, w9 cs (a_x 9) a_t2 s_t2, w2 cs (a_x 8) a0n s_e, w7 cs (a_x 1) a_g s_g, w8 cs (a_x 4) a_v s_v, wO cs qo fo]) (va_A (List.flatten [w10 cs o_x a_x s_x, w9 cs (a_x 2) a_t s_t, w9 cs (a_x 9) a_t2 s_t2, w2 cs (a_x 8) a0n s_e, w7 cs (a_x 1) a_g s_g, w8 cs (a_x 4) a_v s_v, wO cs qo fo]) sz)) 1 6 (va_A (List.flatten [w10 cs o_x a_x s_x, w9 cs (a_x 2) a_t s_t, w9 cs (a_x 9) a_t2 s_t2, w2 cs (a_x 8) a0n s_e, w7 cs (a_x 1) a_g s_g, w8 cs (a_x 4) a_v s_v, wO cs qo fo]) sz) := by
  refine mgoW (hh := [(0, 9, 12, 18)]) (Qc := qI D cs 1 (List.flatten [w10 cs o_x a_x s_x, w9 cs (a_x 2) a_t s_t, w9 cs (a_x 9) a_t2 s_t2, w2 cs (a_x 8) a0n s_e, w7 cs (a_x 1) a_g s_g, w8 cs (a_x 4) a_v s_v, wO cs qo fo])) (cc := cL_whose) (maxL := 4) (ret := some .int) (by decide) rfl (Nat.le_of_ble_eq_true rfl) ?_
  intro p e s m below meth c ls A R Q args H hR hQ hx hb hml hr hlocks htab hown hts hP hK hD hA hS hG hl
  subst hR
  have hown : s.vm.findClass RL = some m.cls := hown
  have hl : lv_has ls 4 [(0, .ref o_x), (1, .int x1), (2, .ref qo)] := hl
  have hW : ∀ w ∈ WG, w.before args s = true := fun w h => hts w (List.mem_cons_of_mem _ h)
  refine lv_aload_n hx hb dL_whose_0 rfl (lv_at hl 2 rfl) ?_
  refine lv_iconst (v := 0) hx hb dL_whose_1 (by decide) ?_
  refine lv_aload_n hx hb dL_whose_2 rfl (lv_at hl 0 rfl) ?_
  refine lv_iload_n hx hb dL_whose_3 rfl (lv_at hl 1 rfl) ?_
  refine mxCV (k := k) (rest := [.int 0, .ref qo]) (isR := [6]) (isC := [0, 1, 2, 3, 4, 5]) (i0 := 0) ⟨hx, hb, hml, hown, hts⟩ hK hP hD hS hA hG (c10x_whose l D cs hl0 o_x a_x a_t a_t2 a_g a_v s_x s_t s_t2 s_e s_g s_v H.size x1 k hf) (cwV 1 hts (gV wd1214 wd1215 wd1216 wd105 wd1217) rfl rfl rfl (by decide +kernel) ⟨(Nat.le_of_ble_eq_true rfl), (Nat.le_of_ble_eq_true rfl)⟩) 7 (by decide) rfl rfl rfl rfl e10 rfl rfl rfl hl.1 rfl (Nat.le_of_ble_eq_true rfl) ⟨(Nat.le_of_ble_eq_true rfl), (Nat.le_of_ble_eq_true rfl)⟩ dL_whose_4 (fun ce q9 H locs hP hD hS h1 h2 h3 => ?_)
  refine cTN (hi := 9) (hp := 12) (suf := []) hown hW hG htab (by decide) hk h1 h2 h3 ?_
  refine lv_astore_n (lv' := [(3, .ref q9), (0, .ref o_x), (1, .int x1), (2, .ref qo)]) hx hb dL_whose_12 rfl hl (by decide) rfl (fun ls hl => ?_)
  refine lv_iconst (v := 1) hx hb dL_whose_13 (by decide) ?_
  exact mretI hx hb hr hlocks hK hP hD hS rfl hQ dL_whose_14
set_option maxHeartbeats 4000000 in
set_option maxRecDepth 100000 in
theorem wl_look (l : Launch) (D : va_G) (cs : xE) (o_x : Nat) (a_x : Nat → Nat) (a_t : Nat → Nat) (a_t2 : Nat → Nat) (a_g : Nat → Nat) (a_v : Nat → Nat) (s_x : St) (s_t : St) (s_t2 : St) (s_e : St) (s_g : St) (s_v : St) (sz : Nat) (x1 : Int32) (x2 : Int32) (res : Int32 × St × St × St × St) (hf : f10_look s_x s_t s_t2 s_e s_g s_v x1 x2 = some (.inl res)) (qo : Nat) (fo : Nat → Int64) : Met l yL_look (Cond.codeWith yL_look cL_look 5 (some .int) [(0, 10, 13, 18)] :: WG) { frames := 8, cells := 0, slots := 0, locals := 164 } (va_Pc [.ref o_x, .int x1, .int x2, .ref qo] (mP D cs (List.flatten [w10 cs o_x a_x s_x, w9 cs (a_x 2) a_t s_t, w9 cs (a_x 9) a_t2 s_t2, w2 cs (a_x 8) a0n s_e, w7 cs (a_x 1) a_g s_g, w8 cs (a_x 4) a_v s_v, wO cs qo fo]) sz)) (qI D cs 0 (List.flatten [w10 cs o_x a_x res.2.1, w9 cs (a_x 2) a_t s_t, w9 cs (a_x 9) a_t2 res.2.2.1, w2 cs (a_x 8) a0n res.2.2.2.1, w7 cs (a_x 1) a_g res.2.2.2.2, w8 cs (a_x 4) a_v s_v, wO cs qo (up64 fo res.1.toInt64)]) (va_A (List.flatten [w10 cs o_x a_x s_x, w9 cs (a_x 2) a_t s_t, w9 cs (a_x 9) a_t2 s_t2, w2 cs (a_x 8) a0n s_e, w7 cs (a_x 1) a_g s_g, w8 cs (a_x 4) a_v s_v, wO cs qo fo]) sz)) 0 0 (va_A (List.flatten [w10 cs o_x a_x s_x, w9 cs (a_x 2) a_t s_t, w9 cs (a_x 9) a_t2 s_t2, w2 cs (a_x 8) a0n s_e, w7 cs (a_x 1) a_g s_g, w8 cs (a_x 4) a_v s_v, wO cs qo fo]) sz) := by
  refine mgoW (hh := [(0, 10, 13, 18)]) (Qc := qI D cs 0 (List.flatten [w10 cs o_x a_x res.2.1, w9 cs (a_x 2) a_t s_t, w9 cs (a_x 9) a_t2 res.2.2.1, w2 cs (a_x 8) a0n res.2.2.2.1, w7 cs (a_x 1) a_g res.2.2.2.2, w8 cs (a_x 4) a_v s_v, wO cs qo (up64 fo res.1.toInt64)])) (cc := cL_look) (maxL := 5) (ret := some .int) (by decide) rfl (Nat.le_of_ble_eq_true rfl) ?_
  intro p e s m below meth c ls A R Q args H hR hQ hx hb hml hr hlocks htab hown hts hP hK hD hA hS hG hl
  subst hR
  have hown : s.vm.findClass RL = some m.cls := hown
  have hl : lv_has ls 5 [(0, .ref o_x), (1, .int x1), (2, .int x2), (3, .ref qo)] := hl
  have hW : ∀ w ∈ WG, w.before args s = true := fun w h => hts w (List.mem_cons_of_mem _ h)
  refine lv_aload_n hx hb dL_look_0 rfl (lv_at hl 3 rfl) ?_
  refine lv_iconst (v := 0) hx hb dL_look_1 (by decide) ?_
  refine lv_aload_n hx hb dL_look_2 rfl (lv_at hl 0 rfl) ?_
  refine lv_iload_n hx hb dL_look_3 rfl (lv_at hl 1 rfl) ?_
  refine lv_iload_n hx hb dL_look_4 rfl (lv_at hl 2 rfl) ?_
  refine mcVi (v := res.1) (rest := [.int 0, .ref qo]) (Bn := [w10 cs o_x a_x res.2.1, w9 cs (a_x 2) a_t s_t, w9 cs (a_x 9) a_t2 res.2.2.1, w2 cs (a_x 8) a0n res.2.2.2.1, w7 cs (a_x 1) a_g res.2.2.2.2, w8 cs (a_x 4) a_v s_v, wO cs qo fo]) (isR := [6]) (isC := [0, 1, 2, 3, 4, 5]) (i0 := 0) ⟨hx, hb, hml, hown, hts⟩ hK hP hD hS hA hG (c10_look l D cs o_x a_x a_t a_t2 a_g a_v s_x s_t s_t2 s_e s_g s_v H.size x1 x2 _ hf) (cwV 2 hts (gV wd1248 wd1249 wd1250 wd105 wd1251) rfl rfl rfl (by decide +kernel) ⟨(Nat.le_of_ble_eq_true rfl), (Nat.le_of_ble_eq_true rfl)⟩) 7 (by decide) rfl rfl rfl rfl rfl rfl rfl e10 rfl rfl rfl hl.1 rfl (Nat.le_of_ble_eq_true rfl) ⟨Nat.zero_le _, Nat.zero_le _⟩ dL_look_5 (fun H locs hP hD hS => ?_)
  refine lv_i2l hx hb dL_look_8 rfl ?_
  refine lsO (i0 := 6) (q := qo) (f := fo) hx hb hK hP hD hS rfl dL_look_9 rfl (fun H locs hP hD hS => ?_)
  refine lv_goto (tgt := 17) hx hb dL_look_10 (by decide) ?_
  refine lv_iconst (v := 0) hx hb dL_look_17 (by decide) ?_
  exact mretI hx hb hr hlocks hK hP hD hS rfl hQ dL_look_18
set_option maxHeartbeats 4000000 in
set_option maxRecDepth 100000 in
theorem wx_look (l : Launch) (D : va_G) (cs : xE) (hl0 : l.stackTraces = false) (o_x : Nat) (a_x : Nat → Nat) (a_t : Nat → Nat) (a_t2 : Nat → Nat) (a_g : Nat → Nat) (a_v : Nat → Nat) (s_x : St) (s_t : St) (s_t2 : St) (s_e : St) (s_g : St) (s_v : St) (sz : Nat) (x1 : Int32) (x2 : Int32) (k : Nat) (hf : f10_look s_x s_t s_t2 s_e s_g s_v x1 x2 = some (.inr k)) (hk : k ≠ 0) (qo : Nat) (fo : Nat → Int64) : Met l yL_look (Cond.codeWith yL_look cL_look 5 (some .int) [(0, 10, 13, 18)] :: WG) { frames := 8, cells := 1, slots := 6, locals := 164 } (va_Pc [.ref o_x, .int x1, .int x2, .ref qo] (mP D cs (List.flatten [w10 cs o_x a_x s_x, w9 cs (a_x 2) a_t s_t, w9 cs (a_x 9) a_t2 s_t2, w2 cs (a_x 8) a0n s_e, w7 cs (a_x 1) a_g s_g, w8 cs (a_x 4) a_v s_v, wO cs qo fo]) sz)) (qI D cs 1 (List.flatten [w10 cs o_x a_x s_x, w9 cs (a_x 2) a_t s_t, w9 cs (a_x 9) a_t2 s_t2, w2 cs (a_x 8) a0n s_e, w7 cs (a_x 1) a_g s_g, w8 cs (a_x 4) a_v s_v, wO cs qo fo]) (va_A (List.flatten [w10 cs o_x a_x s_x, w9 cs (a_x 2) a_t s_t, w9 cs (a_x 9) a_t2 s_t2, w2 cs (a_x 8) a0n s_e, w7 cs (a_x 1) a_g s_g, w8 cs (a_x 4) a_v s_v, wO cs qo fo]) sz)) 1 6 (va_A (List.flatten [w10 cs o_x a_x s_x, w9 cs (a_x 2) a_t s_t, w9 cs (a_x 9) a_t2 s_t2, w2 cs (a_x 8) a0n s_e, w7 cs (a_x 1) a_g s_g, w8 cs (a_x 4) a_v s_v, wO cs qo fo]) sz) := by
  refine mgoW (hh := [(0, 10, 13, 18)]) (Qc := qI D cs 1 (List.flatten [w10 cs o_x a_x s_x, w9 cs (a_x 2) a_t s_t, w9 cs (a_x 9) a_t2 s_t2, w2 cs (a_x 8) a0n s_e, w7 cs (a_x 1) a_g s_g, w8 cs (a_x 4) a_v s_v, wO cs qo fo])) (cc := cL_look) (maxL := 5) (ret := some .int) (by decide) rfl (Nat.le_of_ble_eq_true rfl) ?_
  intro p e s m below meth c ls A R Q args H hR hQ hx hb hml hr hlocks htab hown hts hP hK hD hA hS hG hl
  subst hR
  have hown : s.vm.findClass RL = some m.cls := hown
  have hl : lv_has ls 5 [(0, .ref o_x), (1, .int x1), (2, .int x2), (3, .ref qo)] := hl
  have hW : ∀ w ∈ WG, w.before args s = true := fun w h => hts w (List.mem_cons_of_mem _ h)
  refine lv_aload_n hx hb dL_look_0 rfl (lv_at hl 3 rfl) ?_
  refine lv_iconst (v := 0) hx hb dL_look_1 (by decide) ?_
  refine lv_aload_n hx hb dL_look_2 rfl (lv_at hl 0 rfl) ?_
  refine lv_iload_n hx hb dL_look_3 rfl (lv_at hl 1 rfl) ?_
  refine lv_iload_n hx hb dL_look_4 rfl (lv_at hl 2 rfl) ?_
  refine mxCV (k := k) (rest := [.int 0, .ref qo]) (isR := [6]) (isC := [0, 1, 2, 3, 4, 5]) (i0 := 0) ⟨hx, hb, hml, hown, hts⟩ hK hP hD hS hA hG (c10x_look l D cs hl0 o_x a_x a_t a_t2 a_g a_v s_x s_t s_t2 s_e s_g s_v H.size x1 x2 k hf) (cwV 2 hts (gV wd1248 wd1249 wd1250 wd105 wd1251) rfl rfl rfl (by decide +kernel) ⟨(Nat.le_of_ble_eq_true rfl), (Nat.le_of_ble_eq_true rfl)⟩) 7 (by decide) rfl rfl rfl rfl e10 rfl rfl rfl hl.1 rfl (Nat.le_of_ble_eq_true rfl) ⟨(Nat.le_of_ble_eq_true rfl), (Nat.le_of_ble_eq_true rfl)⟩ dL_look_5 (fun ce q9 H locs hP hD hS h1 h2 h3 => ?_)
  refine cTN (hi := 10) (hp := 13) (suf := []) hown hW hG htab (by decide) hk h1 h2 h3 ?_
  refine lv_astore (lv' := [(4, .ref q9), (0, .ref o_x), (1, .int x1), (2, .int x2), (3, .ref qo)]) hx hb dL_look_13 hl (by decide) rfl (fun ls hl => ?_)
  refine lv_iconst (v := 1) hx hb dL_look_15 (by decide) ?_
  exact mretI hx hb hr hlocks hK hP hD hS rfl hQ dL_look_16
set_option maxHeartbeats 4000000 in
set_option maxRecDepth 100000 in
theorem wl_game (l : Launch) (D : va_G) (cs : xE) (o_x : Nat) (a_x : Nat → Nat) (a_t : Nat → Nat) (a_g : Nat → Nat) (s_x : St) (s_t : St) (s_g : St) (s_u : St) (sz : Nat) (x1 : Int32) (x2 : Int32) (x3 : Int32) (res : Int32 × St × St) (hf : f10_game s_x s_t s_g s_u x1 x2 x3 = some (.inl res)) (qo : Nat) (fo : Nat → Int64) : Met l yL_game (Cond.codeWith yL_game cL_game 6 (some .int) [(0, 12, 15, 18), (0, 12, 19, 13)] :: WG) { frames := 8, cells := 0, slots := 0, locals := 135 } (va_Pc [.ref o_x, .int x1, .int x2, .int x3, .ref qo] (mP D cs (List.flatten [w10 cs o_x a_x s_x, w9 cs (a_x 2) a_t s_t, w7 cs (a_x 1) a_g s_g, w1 cs (a_x 12) a0n s_u, wO cs qo fo]) sz)) (qI D cs 0 (List.flatten [w10 cs o_x a_x s_x, w9 cs (a_x 2) a_t s_t, w7 cs (a_x 1) a_g res.2.1, w1 cs (a_x 12) a0n res.2.2, wO cs qo (up64 fo res.1.toInt64)]) (va_A (List.flatten [w10 cs o_x a_x s_x, w9 cs (a_x 2) a_t s_t, w7 cs (a_x 1) a_g s_g, w1 cs (a_x 12) a0n s_u, wO cs qo fo]) sz)) 0 0 (va_A (List.flatten [w10 cs o_x a_x s_x, w9 cs (a_x 2) a_t s_t, w7 cs (a_x 1) a_g s_g, w1 cs (a_x 12) a0n s_u, wO cs qo fo]) sz) := by
  refine mgoW (hh := [(0, 12, 15, 18), (0, 12, 19, 13)]) (Qc := qI D cs 0 (List.flatten [w10 cs o_x a_x s_x, w9 cs (a_x 2) a_t s_t, w7 cs (a_x 1) a_g res.2.1, w1 cs (a_x 12) a0n res.2.2, wO cs qo (up64 fo res.1.toInt64)])) (cc := cL_game) (maxL := 6) (ret := some .int) (by decide) rfl (Nat.le_of_ble_eq_true rfl) ?_
  intro p e s m below meth c ls A R Q args H hR hQ hx hb hml hr hlocks htab hown hts hP hK hD hA hS hG hl
  subst hR
  have hown : s.vm.findClass RL = some m.cls := hown
  have hl : lv_has ls 6 [(0, .ref o_x), (1, .int x1), (2, .int x2), (3, .int x3), (4, .ref qo)] := hl
  have hW : ∀ w ∈ WG, w.before args s = true := fun w h => hts w (List.mem_cons_of_mem _ h)
  refine lv_aload hx hb dL_game_0 (lv_at hl 4 rfl) ?_
  refine lv_iconst (v := 0) hx hb dL_game_2 (by decide) ?_
  refine lv_aload_n hx hb dL_game_3 rfl (lv_at hl 0 rfl) ?_
  refine lv_iload_n hx hb dL_game_4 rfl (lv_at hl 1 rfl) ?_
  refine lv_iload_n hx hb dL_game_5 rfl (lv_at hl 2 rfl) ?_
  refine lv_iload_n hx hb dL_game_6 rfl (lv_at hl 3 rfl) ?_
  refine mcVi (v := res.1) (rest := [.int 0, .ref qo]) (Bn := [w10 cs o_x a_x s_x, w9 cs (a_x 2) a_t s_t, w7 cs (a_x 1) a_g res.2.1, w1 cs (a_x 12) a0n res.2.2, wO cs qo fo]) (isR := [4]) (isC := [0, 1, 2, 3]) (i0 := 0) ⟨hx, hb, hml, hown, hts⟩ hK hP hD hS hA hG (c10_game l D cs o_x a_x a_t a_g s_x s_t s_g s_u H.size x1 x2 x3 _ hf) (cwV 3 hts (gV wd1263 wd1264 wd1265 wd105 wd1266) rfl rfl rfl (by decide +kernel) ⟨(Nat.le_of_ble_eq_true rfl), (Nat.le_of_ble_eq_true rfl)⟩) 5 (by decide) rfl rfl rfl rfl rfl rfl rfl e10 rfl rfl rfl hl.1 rfl (Nat.le_of_ble_eq_true rfl) ⟨Nat.zero_le _, Nat.zero_le _⟩ dL_game_7 (fun H locs hP hD hS => ?_)
  refine lv_i2l hx hb dL_game_10 rfl ?_
  refine lsO (i0 := 4) (q := qo) (f := fo) hx hb hK hP hD hS rfl dL_game_11 rfl (fun H locs hP hD hS => ?_)
  refine lv_goto (tgt := 23) hx hb dL_game_12 (by decide) ?_
  refine lv_iconst (v := 0) hx hb dL_game_23 (by decide) ?_
  exact mretI hx hb hr hlocks hK hP hD hS rfl hQ dL_game_24
set_option maxHeartbeats 4000000 in
set_option maxRecDepth 100000 in
theorem wx_game (l : Launch) (D : va_G) (cs : xE) (hl0 : l.stackTraces = false) (o_x : Nat) (a_x : Nat → Nat) (a_t : Nat → Nat) (a_g : Nat → Nat) (s_x : St) (s_t : St) (s_g : St) (s_u : St) (sz : Nat) (x1 : Int32) (x2 : Int32) (x3 : Int32) (k : Nat) (hf : f10_game s_x s_t s_g s_u x1 x2 x3 = some (.inr k)) (hk : k = 0 ∨ k = 1) (qo : Nat) (fo : Nat → Int64) : Met l yL_game (Cond.codeWith yL_game cL_game 6 (some .int) [(0, 12, 15, 18), (0, 12, 19, 13)] :: WG) { frames := 8, cells := 1, slots := 6, locals := 135 } (va_Pc [.ref o_x, .int x1, .int x2, .int x3, .ref qo] (mP D cs (List.flatten [w10 cs o_x a_x s_x, w9 cs (a_x 2) a_t s_t, w7 cs (a_x 1) a_g s_g, w1 cs (a_x 12) a0n s_u, wO cs qo fo]) sz)) (qI D cs (kfN k) (List.flatten [w10 cs o_x a_x s_x, w9 cs (a_x 2) a_t s_t, w7 cs (a_x 1) a_g s_g, w1 cs (a_x 12) a0n s_u, wO cs qo fo]) (va_A (List.flatten [w10 cs o_x a_x s_x, w9 cs (a_x 2) a_t s_t, w7 cs (a_x 1) a_g s_g, w1 cs (a_x 12) a0n s_u, wO cs qo fo]) sz)) 1 6 (va_A (List.flatten [w10 cs o_x a_x s_x, w9 cs (a_x 2) a_t s_t, w7 cs (a_x 1) a_g s_g, w1 cs (a_x 12) a0n s_u, wO cs qo fo]) sz) := by
  refine mgoW (hh := [(0, 12, 15, 18), (0, 12, 19, 13)]) (Qc := qI D cs (kfN k) (List.flatten [w10 cs o_x a_x s_x, w9 cs (a_x 2) a_t s_t, w7 cs (a_x 1) a_g s_g, w1 cs (a_x 12) a0n s_u, wO cs qo fo])) (cc := cL_game) (maxL := 6) (ret := some .int) (by decide) rfl (Nat.le_of_ble_eq_true rfl) ?_
  intro p e s m below meth c ls A R Q args H hR hQ hx hb hml hr hlocks htab hown hts hP hK hD hA hS hG hl
  subst hR
  have hown : s.vm.findClass RL = some m.cls := hown
  have hl : lv_has ls 6 [(0, .ref o_x), (1, .int x1), (2, .int x2), (3, .int x3), (4, .ref qo)] := hl
  have hW : ∀ w ∈ WG, w.before args s = true := fun w h => hts w (List.mem_cons_of_mem _ h)
  refine lv_aload hx hb dL_game_0 (lv_at hl 4 rfl) ?_
  refine lv_iconst (v := 0) hx hb dL_game_2 (by decide) ?_
  refine lv_aload_n hx hb dL_game_3 rfl (lv_at hl 0 rfl) ?_
  refine lv_iload_n hx hb dL_game_4 rfl (lv_at hl 1 rfl) ?_
  refine lv_iload_n hx hb dL_game_5 rfl (lv_at hl 2 rfl) ?_
  refine lv_iload_n hx hb dL_game_6 rfl (lv_at hl 3 rfl) ?_
  refine mxCV (k := k) (rest := [.int 0, .ref qo]) (isR := [4]) (isC := [0, 1, 2, 3]) (i0 := 0) ⟨hx, hb, hml, hown, hts⟩ hK hP hD hS hA hG (c10x_game l D cs hl0 o_x a_x a_t a_g s_x s_t s_g s_u H.size x1 x2 x3 k hf) (cwV 3 hts (gV wd1263 wd1264 wd1265 wd105 wd1266) rfl rfl rfl (by decide +kernel) ⟨(Nat.le_of_ble_eq_true rfl), (Nat.le_of_ble_eq_true rfl)⟩) 5 (by decide) rfl rfl rfl rfl e10 rfl rfl rfl hl.1 rfl (Nat.le_of_ble_eq_true rfl) ⟨(Nat.le_of_ble_eq_true rfl), (Nat.le_of_ble_eq_true rfl)⟩ dL_game_7 (fun ce q9 H locs hP hD hS h1 h2 h3 => ?_)
  by_cases hk0 : k = 0
  ·
    refine cTI2 (hi := 12) (hp := 19) (hp0 := 15) (suf := []) hown hW hG htab (by decide) hk0 h1 h2 h3 ?_
    refine lv_astore (lv' := [(5, .ref q9), (0, .ref o_x), (1, .int x1), (2, .int x2), (3, .int x3), (4, .ref qo)]) hx hb dL_game_19 hl (by decide) rfl (fun ls hl => ?_)
    refine lv_iconst (v := 2) hx hb dL_game_21 (by decide) ?_
    exact mretI hx hb hr hlocks hK hP hD hS (by rw [hk0]; rfl) hQ dL_game_22
  ·
    refine cTN (hi := 12) (hp := 15) (suf := [(0, 12, 19, 13)]) hown hW hG htab (by decide) hk0 h1 h2 h3 ?_
    refine lv_astore (lv' := [(5, .ref q9), (0, .ref o_x), (1, .int x1), (2, .int x2), (3, .int x3), (4, .ref qo)]) hx hb dL_game_15 hl (by decide) rfl (fun ls hl => ?_)
    refine lv_iconst (v := 1) hx hb dL_game_17 (by decide) ?_
    exact mretI hx hb hr hlocks hK hP hD hS (by rw [hk.resolve_left hk0]; rfl) hQ dL_game_18
set_option maxHeartbeats 4000000 in
set_option maxRecDepth 100000 in
theorem wl_winter (l : Launch) (D : va_G) (cs : xE) (o_x : Nat) (a_x : Nat → Nat) (a_t : Nat → Nat) (a_t2 : Nat → Nat) (a_g : Nat → Nat) (s_x : St) (s_t : St) (s_t2 : St) (s_e : St) (s_g : St) (s_d : St) (sz : Nat) (x1 : Int32) (x2 : Int32) (x3 : Int32) (res : Int32 × St × St × St × St) (hf : f10_winter s_x s_t s_t2 s_e s_g s_d x1 x2 x3 = some (.inl res)) (qo : Nat) (fo : Nat → Int64) : Met l yL_winter (Cond.codeWith yL_winter cL_winter 6 (some .int) [(0, 12, 15, 18), (0, 12, 19, 13)] :: WG) { frames := 8, cells := 0, slots := 0, locals := 135 } (va_Pc [.ref o_x, .int x1, .int x2, .int x3, .ref qo] (mP D cs (List.flatten [w10 cs o_x a_x s_x, w9 cs (a_x 2) a_t s_t, w9 cs (a_x 9) a_t2 s_t2, w2 cs (a_x 8) a0n s_e, w7 cs (a_x 1) a_g s_g, w0 cs (a_x 11) a0n s_d, wO cs qo fo]) sz)) (qI D cs 0 (List.flatten [w10 cs o_x a_x s_x, w9 cs (a_x 2) a_t s_t, w9 cs (a_x 9) a_t2 res.2.1, w2 cs (a_x 8) a0n res.2.2.1, w7 cs (a_x 1) a_g res.2.2.2.1, w0 cs (a_x 11) a0n res.2.2.2.2, wO cs qo (up64 fo res.1.toInt64)]) (va_A (List.flatten [w10 cs o_x a_x s_x, w9 cs (a_x 2) a_t s_t, w9 cs (a_x 9) a_t2 s_t2, w2 cs (a_x 8) a0n s_e, w7 cs (a_x 1) a_g s_g, w0 cs (a_x 11) a0n s_d, wO cs qo fo]) sz)) 0 0 (va_A (List.flatten [w10 cs o_x a_x s_x, w9 cs (a_x 2) a_t s_t, w9 cs (a_x 9) a_t2 s_t2, w2 cs (a_x 8) a0n s_e, w7 cs (a_x 1) a_g s_g, w0 cs (a_x 11) a0n s_d, wO cs qo fo]) sz) := by
  refine mgoW (hh := [(0, 12, 15, 18), (0, 12, 19, 13)]) (Qc := qI D cs 0 (List.flatten [w10 cs o_x a_x s_x, w9 cs (a_x 2) a_t s_t, w9 cs (a_x 9) a_t2 res.2.1, w2 cs (a_x 8) a0n res.2.2.1, w7 cs (a_x 1) a_g res.2.2.2.1, w0 cs (a_x 11) a0n res.2.2.2.2, wO cs qo (up64 fo res.1.toInt64)])) (cc := cL_winter) (maxL := 6) (ret := some .int) (by decide) rfl (Nat.le_of_ble_eq_true rfl) ?_
  intro p e s m below meth c ls A R Q args H hR hQ hx hb hml hr hlocks htab hown hts hP hK hD hA hS hG hl
  subst hR
  have hown : s.vm.findClass RL = some m.cls := hown
  have hl : lv_has ls 6 [(0, .ref o_x), (1, .int x1), (2, .int x2), (3, .int x3), (4, .ref qo)] := hl
  have hW : ∀ w ∈ WG, w.before args s = true := fun w h => hts w (List.mem_cons_of_mem _ h)
  refine lv_aload hx hb dL_winter_0 (lv_at hl 4 rfl) ?_
  refine lv_iconst (v := 0) hx hb dL_winter_2 (by decide) ?_
  refine lv_aload_n hx hb dL_winter_3 rfl (lv_at hl 0 rfl) ?_
  refine lv_iload_n hx hb dL_winter_4 rfl (lv_at hl 1 rfl) ?_
  refine lv_iload_n hx hb dL_winter_5 rfl (lv_at hl 2 rfl) ?_
  refine lv_iload_n hx hb dL_winter_6 rfl (lv_at hl 3 rfl) ?_
  refine mcVi (v := res.1) (rest := [.int 0, .ref qo]) (Bn := [w10 cs o_x a_x s_x, w9 cs (a_x 2) a_t s_t, w9 cs (a_x 9) a_t2 res.2.1, w2 cs (a_x 8) a0n res.2.2.1, w7 cs (a_x 1) a_g res.2.2.2.1, w0 cs (a_x 11) a0n res.2.2.2.2, wO cs qo fo]) (isR := [6]) (isC := [0, 1, 2, 3, 4, 5]) (i0 := 0) ⟨hx, hb, hml, hown, hts⟩ hK hP hD hS hA hG (c10_winter l D cs o_x a_x a_t a_t2 a_g s_x s_t s_t2 s_e s_g s_d H.size x1 x2 x3 _ hf) (cwV 3 hts (gV wd1287 wd1288 wd1289 wd105 wd1290) rfl rfl rfl (by decide +kernel) ⟨(Nat.le_of_ble_eq_true rfl), (Nat.le_of_ble_eq_true rfl)⟩) 7 (by decide) rfl rfl rfl rfl rfl rfl rfl e10 rfl rfl rfl hl.1 rfl (Nat.le_of_ble_eq_true rfl) ⟨Nat.zero_le _, Nat.zero_le _⟩ dL_winter_7 (fun H locs hP hD hS => ?_)
  refine lv_i2l hx hb dL_winter_10 rfl ?_
  refine lsO (i0 := 6) (q := qo) (f := fo) hx hb hK hP hD hS rfl dL_winter_11 rfl (fun H locs hP hD hS => ?_)
  refine lv_goto (tgt := 23) hx hb dL_winter_12 (by decide) ?_
  refine lv_iconst (v := 0) hx hb dL_winter_23 (by decide) ?_
  exact mretI hx hb hr hlocks hK hP hD hS rfl hQ dL_winter_24
set_option maxHeartbeats 4000000 in
set_option maxRecDepth 100000 in
theorem wx_winter (l : Launch) (D : va_G) (cs : xE) (hl0 : l.stackTraces = false) (o_x : Nat) (a_x : Nat → Nat) (a_t : Nat → Nat) (a_t2 : Nat → Nat) (a_g : Nat → Nat) (s_x : St) (s_t : St) (s_t2 : St) (s_e : St) (s_g : St) (s_d : St) (sz : Nat) (x1 : Int32) (x2 : Int32) (x3 : Int32) (k : Nat) (hf : f10_winter s_x s_t s_t2 s_e s_g s_d x1 x2 x3 = some (.inr k)) (hk : k = 0 ∨ k = 1) (qo : Nat) (fo : Nat → Int64) : Met l yL_winter (Cond.codeWith yL_winter cL_winter 6 (some .int) [(0, 12, 15, 18), (0, 12, 19, 13)] :: WG) { frames := 8, cells := 1, slots := 6, locals := 135 } (va_Pc [.ref o_x, .int x1, .int x2, .int x3, .ref qo] (mP D cs (List.flatten [w10 cs o_x a_x s_x, w9 cs (a_x 2) a_t s_t, w9 cs (a_x 9) a_t2 s_t2, w2 cs (a_x 8) a0n s_e, w7 cs (a_x 1) a_g s_g, w0 cs (a_x 11) a0n s_d, wO cs qo fo]) sz)) (qI D cs (kfN k) (List.flatten [w10 cs o_x a_x s_x, w9 cs (a_x 2) a_t s_t, w9 cs (a_x 9) a_t2 s_t2, w2 cs (a_x 8) a0n s_e, w7 cs (a_x 1) a_g s_g, w0 cs (a_x 11) a0n s_d, wO cs qo fo]) (va_A (List.flatten [w10 cs o_x a_x s_x, w9 cs (a_x 2) a_t s_t, w9 cs (a_x 9) a_t2 s_t2, w2 cs (a_x 8) a0n s_e, w7 cs (a_x 1) a_g s_g, w0 cs (a_x 11) a0n s_d, wO cs qo fo]) sz)) 1 6 (va_A (List.flatten [w10 cs o_x a_x s_x, w9 cs (a_x 2) a_t s_t, w9 cs (a_x 9) a_t2 s_t2, w2 cs (a_x 8) a0n s_e, w7 cs (a_x 1) a_g s_g, w0 cs (a_x 11) a0n s_d, wO cs qo fo]) sz) := by
  refine mgoW (hh := [(0, 12, 15, 18), (0, 12, 19, 13)]) (Qc := qI D cs (kfN k) (List.flatten [w10 cs o_x a_x s_x, w9 cs (a_x 2) a_t s_t, w9 cs (a_x 9) a_t2 s_t2, w2 cs (a_x 8) a0n s_e, w7 cs (a_x 1) a_g s_g, w0 cs (a_x 11) a0n s_d, wO cs qo fo])) (cc := cL_winter) (maxL := 6) (ret := some .int) (by decide) rfl (Nat.le_of_ble_eq_true rfl) ?_
  intro p e s m below meth c ls A R Q args H hR hQ hx hb hml hr hlocks htab hown hts hP hK hD hA hS hG hl
  subst hR
  have hown : s.vm.findClass RL = some m.cls := hown
  have hl : lv_has ls 6 [(0, .ref o_x), (1, .int x1), (2, .int x2), (3, .int x3), (4, .ref qo)] := hl
  have hW : ∀ w ∈ WG, w.before args s = true := fun w h => hts w (List.mem_cons_of_mem _ h)
  refine lv_aload hx hb dL_winter_0 (lv_at hl 4 rfl) ?_
  refine lv_iconst (v := 0) hx hb dL_winter_2 (by decide) ?_
  refine lv_aload_n hx hb dL_winter_3 rfl (lv_at hl 0 rfl) ?_
  refine lv_iload_n hx hb dL_winter_4 rfl (lv_at hl 1 rfl) ?_
  refine lv_iload_n hx hb dL_winter_5 rfl (lv_at hl 2 rfl) ?_
  refine lv_iload_n hx hb dL_winter_6 rfl (lv_at hl 3 rfl) ?_
  refine mxCV (k := k) (rest := [.int 0, .ref qo]) (isR := [6]) (isC := [0, 1, 2, 3, 4, 5]) (i0 := 0) ⟨hx, hb, hml, hown, hts⟩ hK hP hD hS hA hG (c10x_winter l D cs hl0 o_x a_x a_t a_t2 a_g s_x s_t s_t2 s_e s_g s_d H.size x1 x2 x3 k hf) (cwV 3 hts (gV wd1287 wd1288 wd1289 wd105 wd1290) rfl rfl rfl (by decide +kernel) ⟨(Nat.le_of_ble_eq_true rfl), (Nat.le_of_ble_eq_true rfl)⟩) 7 (by decide) rfl rfl rfl rfl e10 rfl rfl rfl hl.1 rfl (Nat.le_of_ble_eq_true rfl) ⟨(Nat.le_of_ble_eq_true rfl), (Nat.le_of_ble_eq_true rfl)⟩ dL_winter_7 (fun ce q9 H locs hP hD hS h1 h2 h3 => ?_)
  by_cases hk0 : k = 0
  ·
    refine cTI2 (hi := 12) (hp := 19) (hp0 := 15) (suf := []) hown hW hG htab (by decide) hk0 h1 h2 h3 ?_
    refine lv_astore (lv' := [(5, .ref q9), (0, .ref o_x), (1, .int x1), (2, .int x2), (3, .int x3), (4, .ref qo)]) hx hb dL_winter_19 hl (by decide) rfl (fun ls hl => ?_)
    refine lv_iconst (v := 2) hx hb dL_winter_21 (by decide) ?_
    exact mretI hx hb hr hlocks hK hP hD hS (by rw [hk0]; rfl) hQ dL_winter_22
  ·
    refine cTN (hi := 12) (hp := 15) (suf := [(0, 12, 19, 13)]) hown hW hG htab (by decide) hk0 h1 h2 h3 ?_
    refine lv_astore (lv' := [(5, .ref q9), (0, .ref o_x), (1, .int x1), (2, .int x2), (3, .int x3), (4, .ref qo)]) hx hb dL_winter_15 hl (by decide) rfl (fun ls hl => ?_)
    refine lv_iconst (v := 1) hx hb dL_winter_17 (by decide) ?_
    exact mretI hx hb hr hlocks hK hP hD hS (by rw [hk.resolve_left hk0]; rfl) hQ dL_winter_18
