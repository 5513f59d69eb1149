/-! the law's static methods -/
set_option maxHeartbeats 4000000 in
set_option maxRecDepth 100000 in
theorem wl_give (l : Launch) (D : va_G) (cs : xE) (o_x : Nat) (a_x : Nat → Nat) (a_t : Nat → Nat) (a_h : Nat → Nat) (s_x : St) (s_t : St) (s_h : HSt) (sz : Nat) (x1 : Int32) (x2 : Int32) (res : Int32 × St × St × HSt) (hf : f10_give s_x s_t s_h x1 x2 = some (.inl res)) (qo : Nat) (fo : Nat → Int64) : Met l yL_give (Cond.codeWith yL_give cL_give 5 (some .int) [(0, 10, 13, 18)] :: WG) { frames := 8, cells := 0, slots := 0, locals := 134 } (va_Pc [.ref o_x, .int x1, .int x2, .ref qo] (mP D cs (List.flatten [w10 cs o_x a_x s_x, w9 cs (a_x 2) a_t s_t, w3 cs (a_x 3) a_h s_h, wO cs qo fo]) sz)) (qI D cs 0 (List.flatten [w10 cs o_x a_x res.2.1, w9 cs (a_x 2) a_t res.2.2.1, w3 cs (a_x 3) a_h res.2.2.2, wO cs qo (up64 fo res.1.toInt64)]) (va_A (List.flatten [w10 cs o_x a_x s_x, w9 cs (a_x 2) a_t s_t, w3 cs (a_x 3) a_h s_h, wO cs qo fo]) sz)) 0 0 (va_A (List.flatten [w10 cs o_x a_x s_x, w9 cs (a_x 2) a_t s_t, w3 cs (a_x 3) a_h s_h, wO cs qo fo]) sz) := by
  refine mgoW (hh := [(0, 10, 13, 18)]) (Qc := qI D cs 0 (List.flatten [w10 cs o_x a_x res.2.1, w9 cs (a_x 2) a_t res.2.2.1, w3 cs (a_x 3) a_h res.2.2.2, wO cs qo (up64 fo res.1.toInt64)])) (cc := cL_give) (maxL := 5) (ret := some .int) (by decide) rfl (Nat.le_of_ble_eq_true rfl) ?_
  intro p e s m below meth c ls A R Q args H hR hQ hx hb hml hr hlocks htab hown hts hP hK hD hA hS hG hl
  subst hR
  have hown : s.vm.findClass RL = some m.cls := hown
  have hl : lv_has ls 5 [(0, .ref o_x), (1, .int x1), (2, .int x2), (3, .ref qo)] := hl
  have hW : ∀ w ∈ WG, w.before args s = true := fun w h => hts w (List.mem_cons_of_mem _ h)
  refine lv_aload_n hx hb dL_give_0 rfl (lv_at hl 3 rfl) ?_
  refine lv_iconst (v := 0) hx hb dL_give_1 (by decide) ?_
  refine lv_aload_n hx hb dL_give_2 rfl (lv_at hl 0 rfl) ?_
  refine lv_iload_n hx hb dL_give_3 rfl (lv_at hl 1 rfl) ?_
  refine lv_iload_n hx hb dL_give_4 rfl (lv_at hl 2 rfl) ?_
  refine mcVi (v := res.1) (rest := [.int 0, .ref qo]) (Bn := [w10 cs o_x a_x res.2.1, w9 cs (a_x 2) a_t res.2.2.1, w3 cs (a_x 3) a_h res.2.2.2, wO cs qo fo]) (isR := [3]) (isC := [0, 1, 2]) (i0 := 0) ⟨hx, hb, hml, hown, hts⟩ hK hP hD hS hA hG (c10_give l D cs o_x a_x a_t a_h s_x s_t s_h H.size x1 x2 _ hf) (cwV 2 hts (gV wd1007 wd1008 wd1009 wd105 wd1010) rfl rfl rfl (by decide +kernel) ⟨(Nat.le_of_ble_eq_true rfl), (Nat.le_of_ble_eq_true rfl)⟩) 4 (by decide) rfl rfl rfl rfl rfl rfl rfl e10 rfl rfl rfl hl.1 rfl (Nat.le_of_ble_eq_true rfl) ⟨Nat.zero_le _, Nat.zero_le _⟩ dL_give_5 (fun H locs hP hD hS => ?_)
  refine lv_i2l hx hb dL_give_8 rfl ?_
  refine lsO (i0 := 3) (q := qo) (f := fo) hx hb hK hP hD hS rfl dL_give_9 rfl (fun H locs hP hD hS => ?_)
  refine lv_goto (tgt := 17) hx hb dL_give_10 (by decide) ?_
  refine lv_iconst (v := 0) hx hb dL_give_17 (by decide) ?_
  exact mretI hx hb hr hlocks hK hP hD hS rfl hQ dL_give_18
set_option maxHeartbeats 4000000 in
set_option maxRecDepth 100000 in
theorem wx_give (l : Launch) (D : va_G) (cs : xE) (hl0 : l.stackTraces = false) (o_x : Nat) (a_x : Nat → Nat) (a_t : Nat → Nat) (a_h : Nat → Nat) (s_x : St) (s_t : St) (s_h : HSt) (sz : Nat) (x1 : Int32) (x2 : Int32) (k : Nat) (hf : f10_give s_x s_t s_h x1 x2 = some (.inr k)) (hk : k ≠ 0) (qo : Nat) (fo : Nat → Int64) : Met l yL_give (Cond.codeWith yL_give cL_give 5 (some .int) [(0, 10, 13, 18)] :: WG) { frames := 8, cells := 1, slots := 6, locals := 134 } (va_Pc [.ref o_x, .int x1, .int x2, .ref qo] (mP D cs (List.flatten [w10 cs o_x a_x s_x, w9 cs (a_x 2) a_t s_t, w3 cs (a_x 3) a_h s_h, wO cs qo fo]) sz)) (qI D cs 1 (List.flatten [w10 cs o_x a_x s_x, w9 cs (a_x 2) a_t s_t, w3 cs (a_x 3) a_h s_h, wO cs qo fo]) (va_A (List.flatten [w10 cs o_x a_x s_x, w9 cs (a_x 2) a_t s_t, w3 cs (a_x 3) a_h s_h, wO cs qo fo]) sz)) 1 6 (va_A (List.flatten [w10 cs o_x a_x s_x, w9 cs (a_x 2) a_t s_t, w3 cs (a_x 3) a_h s_h, wO cs qo fo]) sz) := by
  refine mgoW (hh := [(0, 10, 13, 18)]) (Qc := qI D cs 1 (List.flatten [w10 cs o_x a_x s_x, w9 cs (a_x 2) a_t s_t, w3 cs (a_x 3) a_h s_h, wO cs qo fo])) (cc := cL_give) (maxL := 5) (ret := some .int) (by decide) rfl (Nat.le_of_ble_eq_true rfl) ?_
  intro p e s m below meth c ls A R Q args H hR hQ hx hb hml hr hlocks htab hown hts hP hK hD hA hS hG hl
  subst hR
  have hown : s.vm.findClass RL = some m.cls := hown
  have hl : lv_has ls 5 [(0, .ref o_x), (1, .int x1), (2, .int x2), (3, .ref qo)] := hl
  have hW : ∀ w ∈ WG, w.before args s = true := fun w h => hts w (List.mem_cons_of_mem _ h)
  refine lv_aload_n hx hb dL_give_0 rfl (lv_at hl 3 rfl) ?_
  refine lv_iconst (v := 0) hx hb dL_give_1 (by decide) ?_
  refine lv_aload_n hx hb dL_give_2 rfl (lv_at hl 0 rfl) ?_
  refine lv_iload_n hx hb dL_give_3 rfl (lv_at hl 1 rfl) ?_
  refine lv_iload_n hx hb dL_give_4 rfl (lv_at hl 2 rfl) ?_
  refine mxCV (k := k) (rest := [.int 0, .ref qo]) (isR := [3]) (isC := [0, 1, 2]) (i0 := 0) ⟨hx, hb, hml, hown, hts⟩ hK hP hD hS hA hG (c10x_give l D cs hl0 o_x a_x a_t a_h s_x s_t s_h H.size x1 x2 k hf) (cwV 2 hts (gV wd1007 wd1008 wd1009 wd105 wd1010) rfl rfl rfl (by decide +kernel) ⟨(Nat.le_of_ble_eq_true rfl), (Nat.le_of_ble_eq_true rfl)⟩) 4 (by decide) rfl rfl rfl rfl e10 rfl rfl rfl hl.1 rfl (Nat.le_of_ble_eq_true rfl) ⟨(Nat.le_of_ble_eq_true rfl), (Nat.le_of_ble_eq_true rfl)⟩ dL_give_5 (fun ce q9 H locs hP hD hS h1 h2 h3 => ?_)
  refine cTN (hi := 10) (hp := 13) (suf := []) hown hW hG htab (by decide) hk h1 h2 h3 ?_
  refine lv_astore (lv' := [(4, .ref q9), (0, .ref o_x), (1, .int x1), (2, .int x2), (3, .ref qo)]) hx hb dL_give_13 hl (by decide) rfl (fun ls hl => ?_)
  refine lv_iconst (v := 1) hx hb dL_give_15 (by decide) ?_
  exact mretI hx hb hr hlocks hK hP hD hS rfl hQ dL_give_16
set_option maxHeartbeats 4000000 in
set_option maxRecDepth 100000 in
theorem wl_sleep (l : Launch) (D : va_G) (cs : xE) (o_x : Nat) (a_x : Nat → Nat) (a_t : Nat → Nat) (a_h : Nat → Nat) (s_x : St) (s_t : St) (s_h : HSt) (sz : Nat) (x1 : Int32) (x2 : Int32) (x3 : Int32) (res : Int32 × St × St × HSt) (hf : f10_sleep s_x s_t s_h x1 x2 x3 = some (.inl res)) (qo : Nat) (fo : Nat → Int64) : Met l yL_sleep (Cond.codeWith yL_sleep cL_sleep 6 (some .int) [(0, 12, 15, 18)] :: WG) { frames := 8, cells := 0, slots := 0, locals := 135 } (va_Pc [.ref o_x, .int x1, .int x2, .int x3, .ref qo] (mP D cs (List.flatten [w10 cs o_x a_x s_x, w9 cs (a_x 2) a_t s_t, w3 cs (a_x 3) a_h s_h, wO cs qo fo]) sz)) (qI D cs 0 (List.flatten [w10 cs o_x a_x res.2.1, w9 cs (a_x 2) a_t res.2.2.1, w3 cs (a_x 3) a_h res.2.2.2, wO cs qo (up64 fo res.1.toInt64)]) (va_A (List.flatten [w10 cs o_x a_x s_x, w9 cs (a_x 2) a_t s_t, w3 cs (a_x 3) a_h s_h, wO cs qo fo]) sz)) 0 0 (va_A (List.flatten [w10 cs o_x a_x s_x, w9 cs (a_x 2) a_t s_t, w3 cs (a_x 3) a_h s_h, wO cs qo fo]) sz) := by
  refine mgoW (hh := [(0, 12, 15, 18)]) (Qc := qI D cs 0 (List.flatten [w10 cs o_x a_x res.2.1, w9 cs (a_x 2) a_t res.2.2.1, w3 cs (a_x 3) a_h res.2.2.2, wO cs qo (up64 fo res.1.toInt64)])) (cc := cL_sleep) (maxL := 6) (ret := some .int) (by decide) rfl (Nat.le_of_ble_eq_true rfl) ?_
  intro p e s m below meth c ls A R Q args H hR hQ hx hb hml hr hlocks htab hown hts hP hK hD hA hS hG hl
  subst hR
  have hown : s.vm.findClass RL = some m.cls := hown
  have hl : lv_has ls 6 [(0, .ref o_x), (1, .int x1), (2, .int x2), (3, .int x3), (4, .ref qo)] := hl
  have hW : ∀ w ∈ WG, w.before args s = true := fun w h => hts w (List.mem_cons_of_mem _ h)
  refine lv_aload hx hb dL_sleep_0 (lv_at hl 4 rfl) ?_
  refine lv_iconst (v := 0) hx hb dL_sleep_2 (by decide) ?_
  refine lv_aload_n hx hb dL_sleep_3 rfl (lv_at hl 0 rfl) ?_
  refine lv_iload_n hx hb dL_sleep_4 rfl (lv_at hl 1 rfl) ?_
  refine lv_iload_n hx hb dL_sleep_5 rfl (lv_at hl 2 rfl) ?_
  refine lv_iload_n hx hb dL_sleep_6 rfl (lv_at hl 3 rfl) ?_
  refine mcVi (v := res.1) (rest := [.int 0, .ref qo]) (Bn := [w10 cs o_x a_x res.2.1, w9 cs (a_x 2) a_t res.2.2.1, w3 cs (a_x 3) a_h res.2.2.2, wO cs qo fo]) (isR := [3]) (isC := [0, 1, 2]) (i0 := 0) ⟨hx, hb, hml, hown, hts⟩ hK hP hD hS hA hG (c10_sleep l D cs o_x a_x a_t a_h s_x s_t s_h H.size x1 x2 x3 _ hf) (cwV 3 hts (gV wd1014 wd1015 wd1016 wd105 wd1017) rfl rfl rfl (by decide +kernel) ⟨(Nat.le_of_ble_eq_true rfl), (Nat.le_of_ble_eq_true rfl)⟩) 4 (by decide) rfl rfl rfl rfl rfl rfl rfl e10 rfl rfl rfl hl.1 rfl (Nat.le_of_ble_eq_true rfl) ⟨Nat.zero_le _, Nat.zero_le _⟩ dL_sleep_7 (fun H locs hP hD hS => ?_)
  refine lv_i2l hx hb dL_sleep_10 rfl ?_
  refine lsO (i0 := 3) (q := qo) (f := fo) hx hb hK hP hD hS rfl dL_sleep_11 rfl (fun H locs hP hD hS => ?_)
  refine lv_goto (tgt := 19) hx hb dL_sleep_12 (by decide) ?_
  refine lv_iconst (v := 0) hx hb dL_sleep_19 (by decide) ?_
  exact mretI hx hb hr hlocks hK hP hD hS rfl hQ dL_sleep_20
set_option maxHeartbeats 4000000 in
set_option maxRecDepth 100000 in
theorem wx_sleep (l : Launch) (D : va_G) (cs : xE) (hl0 : l.stackTraces = false) (o_x : Nat) (a_x : Nat → Nat) (a_t : Nat → Nat) (a_h : Nat → Nat) (s_x : St) (s_t : St) (s_h : HSt) (sz : Nat) (x1 : Int32) (x2 : Int32) (x3 : Int32) (k : Nat) (hf : f10_sleep s_x s_t s_h x1 x2 x3 = some (.inr k)) (hk : k ≠ 0) (qo : Nat) (fo : Nat → Int64) : Met l yL_sleep (Cond.codeWith yL_sleep cL_sleep 6 (some .int) [(0, 12, 15, 18)] :: WG) { frames := 8, cells := 1, slots := 6, locals := 135 } (va_Pc [.ref o_x, .int x1, .int x2, .int x3, .ref qo] (mP D cs (List.flatten [w10 cs o_x a_x s_x, w9 cs (a_x 2) a_t s_t, w3 cs (a_x 3) a_h s_h, wO cs qo fo]) sz)) (qI D cs 1 (List.flatten [w10 cs o_x a_x s_x, w9 cs (a_x 2) a_t s_t, w3 cs (a_x 3) a_h s_h, wO cs qo fo]) (va_A (List.flatten [w10 cs o_x a_x s_x, w9 cs (a_x 2) a_t s_t, w3 cs (a_x 3) a_h s_h, wO cs qo fo]) sz)) 1 6 (va_A (List.flatten [w10 cs o_x a_x s_x, w9 cs (a_x 2) a_t s_t, w3 cs (a_x 3) a_h s_h, wO cs qo fo]) sz) := by
  refine mgoW (hh := [(0, 12, 15, 18)]) (Qc := qI D cs 1 (List.flatten [w10 cs o_x a_x s_x, w9 cs (a_x 2) a_t s_t, w3 cs (a_x 3) a_h s_h, wO cs qo fo])) (cc := cL_sleep) (maxL := 6) (ret := some .int) (by decide) rfl (Nat.le_of_ble_eq_true rfl) ?_
  intro p e s m below meth c ls A R Q args H hR hQ hx hb hml hr hlocks htab hown hts hP hK hD hA hS hG hl
  subst hR
  have hown : s.vm.findClass RL = some m.cls := hown
  have hl : lv_has ls 6 [(0, .ref o_x), (1, .int x1), (2, .int x2), (3, .int x3), (4, .ref qo)] := hl
  have hW : ∀ w ∈ WG, w.before args s = true := fun w h => hts w (List.mem_cons_of_mem _ h)
  refine lv_aload hx hb dL_sleep_0 (lv_at hl 4 rfl) ?_
  refine lv_iconst (v := 0) hx hb dL_sleep_2 (by decide) ?_
  refine lv_aload_n hx hb dL_sleep_3 rfl (lv_at hl 0 rfl) ?_
  refine lv_iload_n hx hb dL_sleep_4 rfl (lv_at hl 1 rfl) ?_
  refine lv_iload_n hx hb dL_sleep_5 rfl (lv_at hl 2 rfl) ?_
  refine lv_iload_n hx hb dL_sleep_6 rfl (lv_at hl 3 rfl) ?_
  refine mxCV (k := k) (rest := [.int 0, .ref qo]) (isR := [3]) (isC := [0, 1, 2]) (i0 := 0) ⟨hx, hb, hml, hown, hts⟩ hK hP hD hS hA hG (c10x_sleep l D cs hl0 o_x a_x a_t a_h s_x s_t s_h H.size x1 x2 x3 k hf) (cwV 3 hts (gV wd1014 wd1015 wd1016 wd105 wd1017) rfl rfl rfl (by decide +kernel) ⟨(Nat.le_of_ble_eq_true rfl), (Nat.le_of_ble_eq_true rfl)⟩) 4 (by decide) rfl rfl rfl rfl e10 rfl rfl rfl hl.1 rfl (Nat.le_of_ble_eq_true rfl) ⟨(Nat.le_of_ble_eq_true rfl), (Nat.le_of_ble_eq_true rfl)⟩ dL_sleep_7 (fun ce q9 H locs hP hD hS h1 h2 h3 => ?_)
  refine cTN (hi := 12) (hp := 15) (suf := []) hown hW hG htab (by decide) hk h1 h2 h3 ?_
  refine lv_astore (lv' := [(5, .ref q9), (0, .ref o_x), (1, .int x1), (2, .int x2), (3, .int x3), (4, .ref qo)]) hx hb dL_sleep_15 hl (by decide) rfl (fun ls hl => ?_)
  refine lv_iconst (v := 1) hx hb dL_sleep_17 (by decide) ?_
  exact mretI hx hb hr hlocks hK hP hD hS rfl hQ dL_sleep_18
set_option maxHeartbeats 4000000 in
set_option maxRecDepth 100000 in
theorem wl_then (l : Launch) (D : va_G) (cs : xE) (o_x : Nat) (a_x : Nat → Nat) (a_t : Nat → Nat) (a_t2 : Nat → Nat) (a_g : Nat → Nat) (s_x : St) (s_t : St) (s_t2 : St) (s_e : St) (s_g : St) (sz : Nat) (x1 : Int32) (res : Int32 × St × St × St) (hf : f10_then s_x s_t s_t2 s_e s_g x1 = some (.inl res)) (qo : Nat) (fo : Nat → Int64) : Met l yL_then (Cond.codeWith yL_then cL_then 4 (some .int) [(0, 9, 12, 13)] :: WG) { frames := 7, cells := 0, slots := 0, locals := 114 } (va_Pc [.ref o_x, .int x1, .ref qo] (mP D cs (List.flatten [w10 cs o_x a_x s_x, w9 cs (a_x 2) a_t s_t, w9 cs (a_x 9) a_t2 s_t2, w2 cs (a_x 8) a0n s_e, w7 cs (a_x 1) a_g s_g, wO cs qo fo]) sz)) (qI D cs 0 (List.flatten [w10 cs o_x a_x s_x, w9 cs (a_x 2) a_t s_t, w9 cs (a_x 9) a_t2 res.2.1, w2 cs (a_x 8) a0n res.2.2.1, w7 cs (a_x 1) a_g res.2.2.2, wO cs qo (up64 fo res.1.toInt64)]) (va_A (List.flatten [w10 cs o_x a_x s_x, w9 cs (a_x 2) a_t s_t, w9 cs (a_x 9) a_t2 s_t2, w2 cs (a_x 8) a0n s_e, w7 cs (a_x 1) a_g s_g, wO cs qo fo]) sz)) 0 0 (va_A (List.flatten [w10 cs o_x a_x s_x, w9 cs (a_x 2) a_t s_t, w9 cs (a_x 9) a_t2 s_t2, w2 cs (a_x 8) a0n s_e, w7 cs (a_x 1) a_g s_g, wO cs qo fo]) sz) := by
  refine mgoW (hh := [(0, 9, 12, 13)]) (Qc := qI D cs 0 (List.flatten [w10 cs o_x a_x s_x, w9 cs (a_x 2) a_t s_t, w9 cs (a_x 9) a_t2 res.2.1, w2 cs (a_x 8) a0n res.2.2.1, w7 cs (a_x 1) a_g res.2.2.2, wO cs qo (up64 fo res.1.toInt64)])) (cc := cL_then) (maxL := 4) (ret := some .int) (by decide) rfl (Nat.le_of_ble_eq_true rfl) ?_
  intro p e s m below meth c ls A R Q args H hR hQ hx hb hml hr hlocks htab hown hts hP hK hD hA hS hG hl
  subst hR
  have hown : s.vm.findClass RL = some m.cls := hown
  have hl : lv_has ls 4 [(0, .ref o_x), (1, .int x1), (2, .ref qo)] := hl
  have hW : ∀ w ∈ WG, w.before args s = true := fun w h => hts w (List.mem_cons_of_mem _ h)
  refine lv_aload_n hx hb dL_then_0 rfl (lv_at hl 2 rfl) ?_
  refine lv_iconst (v := 0) hx hb dL_then_1 (by decide) ?_
  refine lv_aload_n hx hb dL_then_2 rfl (lv_at hl 0 rfl) ?_
  refine lv_iload_n hx hb dL_then_3 rfl (lv_at hl 1 rfl) ?_
  refine mcVi (v := res.1) (rest := [.int 0, .ref qo]) (Bn := [w10 cs o_x a_x s_x, w9 cs (a_x 2) a_t s_t, w9 cs (a_x 9) a_t2 res.2.1, w2 cs (a_x 8) a0n res.2.2.1, w7 cs (a_x 1) a_g res.2.2.2, wO cs qo fo]) (isR := [5]) (isC := [0, 1, 2, 3, 4]) (i0 := 0) ⟨hx, hb, hml, hown, hts⟩ hK hP hD hS hA hG (c10_then l D cs o_x a_x a_t a_t2 a_g s_x s_t s_t2 s_e s_g H.size x1 _ hf) (cwV 1 hts (gV wd1024 wd1025 wd1026 wd105 wd1027) rfl rfl rfl (by decide +kernel) ⟨(Nat.le_of_ble_eq_true rfl), (Nat.le_of_ble_eq_true rfl)⟩) 6 (by decide) rfl rfl rfl rfl rfl rfl rfl e10 rfl rfl rfl hl.1 rfl (Nat.le_of_ble_eq_true rfl) ⟨Nat.zero_le _, Nat.zero_le _⟩ dL_then_4 (fun H locs hP hD hS => ?_)
  refine lv_i2l hx hb dL_then_7 rfl ?_
  refine lsO (i0 := 5) (q := qo) (f := fo) hx hb hK hP hD hS rfl dL_then_8 rfl (fun H locs hP hD hS => ?_)
  refine lv_goto (tgt := 15) hx hb dL_then_9 (by decide) ?_
  refine lv_iconst (v := 0) hx hb dL_then_15 (by decide) ?_
  exact mretI hx hb hr hlocks hK hP hD hS rfl hQ dL_then_16
set_option maxHeartbeats 4000000 in
set_option maxRecDepth 100000 in
theorem wx_then (l : Launch) (D : va_G) (cs : xE) (hl0 : l.stackTraces = false) (o_x : Nat) (a_x : Nat → Nat) (a_t : Nat → Nat) (a_t2 : Nat → Nat) (a_g : Nat → Nat) (s_x : St) (s_t : St) (s_t2 : St) (s_e : St) (s_g : St) (sz : Nat) (x1 : Int32) (k : Nat) (hf : f10_then s_x s_t s_t2 s_e s_g x1 = some (.inr k)) (hk : k = 0) (qo : Nat) (fo : Nat → Int64) : Met l yL_then (Cond.codeWith yL_then cL_then 4 (some .int) [(0, 9, 12, 13)] :: WG) { frames := 7, cells := 1, slots := 6, locals := 114 } (va_Pc [.ref o_x, .int x1, .ref qo] (mP D cs (List.flatten [w10 cs o_x a_x s_x, w9 cs (a_x 2) a_t s_t, w9 cs (a_x 9) a_t2 s_t2, w2 cs (a_x 8) a0n s_e, w7 cs (a_x 1) a_g s_g, wO cs qo fo]) sz)) (qI D cs 1 (List.flatten [w10 cs o_x a_x s_x, w9 cs (a_x 2) a_t s_t, w9 cs (a_x 9) a_t2 s_t2, w2 cs (a_x 8) a0n s_e, w7 cs (a_x 1) a_g s_g, wO cs qo fo]) (va_A (List.flatten [w10 cs o_x a_x s_x, w9 cs (a_x 2) a_t s_t, w9 cs (a_x 9) a_t2 s_t2, w2 cs (a_x 8) a0n s_e, w7 cs (a_x 1) a_g s_g, wO cs qo fo]) sz)) 1 6 (va_A (List.flatten [w10 cs o_x a_x s_x, w9 cs (a_x 2) a_t s_t, w9 cs (a_x 9) a_t2 s_t2, w2 cs (a_x 8) a0n s_e, w7 cs (a_x 1) a_g s_g, wO cs qo fo]) sz) := by
  refine mgoW (hh := [(0, 9, 12, 13)]) (Qc := qI D cs 1 (List.flatten [w10 cs o_x a_x s_x, w9 cs (a_x 2) a_t s_t, w9 cs (a_x 9) a_t2 s_t2, w2 cs (a_x 8) a0n s_e, w7 cs (a_x 1) a_g s_g, wO cs qo fo])) (cc := cL_then) (maxL := 4) (ret := some .int) (by decide) rfl (Nat.le_of_ble_eq_true rfl) ?_
  intro p e s m below meth c ls A R Q args H hR hQ hx hb hml hr hlocks htab hown hts hP hK hD hA hS hG hl
  subst hR
  have hown : s.vm.findClass RL = some m.cls := hown
  have hl : lv_has ls 4 [(0, .ref o_x), (1, .int x1), (2, .ref qo)] := hl
  have hW : ∀ w ∈ WG, w.before args s = true := fun w h => hts w (List.mem_cons_of_mem _ h)
  refine lv_aload_n hx hb dL_then_0 rfl (lv_at hl 2 rfl) ?_
  refine lv_iconst (v := 0) hx hb dL_then_1 (by decide) ?_
  refine lv_aload_n hx hb dL_then_2 rfl (lv_at hl 0 rfl) ?_
  refine lv_iload_n hx hb dL_then_3 rfl (lv_at hl 1 rfl) ?_
  refine mxCV (k := k) (rest := [.int 0, .ref qo]) (isR := [5]) (isC := [0, 1, 2, 3, 4]) (i0 := 0) ⟨hx, hb, hml, hown, hts⟩ hK hP hD hS hA hG (c10x_then l D cs hl0 o_x a_x a_t a_t2 a_g s_x s_t s_t2 s_e s_g H.size x1 k hf) (cwV 1 hts (gV wd1024 wd1025 wd1026 wd105 wd1027) rfl rfl rfl (by decide +kernel) ⟨(Nat.le_of_ble_eq_true rfl), (Nat.le_of_ble_eq_true rfl)⟩) 6 (by decide) rfl rfl rfl rfl e10 rfl rfl rfl hl.1 rfl (Nat.le_of_ble_eq_true rfl) ⟨(Nat.le_of_ble_eq_true rfl), (Nat.le_of_ble_eq_true rfl)⟩ dL_then_4 (fun ce q9 H locs hP hD hS h1 h2 h3 => ?_)
  refine cTI (hi := 9) (hp := 12) (suf := []) hown hW hG htab (by decide) hk h1 h2 h3 ?_
  refine lv_astore_n (lv' := [(3, .ref q9), (0, .ref o_x), (1, .int x1), (2, .ref qo)]) hx hb dL_then_12 rfl hl (by decide) rfl (fun ls hl => ?_)
  refine lv_iconst (v := 1) hx hb dL_then_13 (by decide) ?_
  exact mretI hx hb hr hlocks hK hP hD hS rfl hQ dL_then_14
set_option maxHeartbeats 4000000 in
set_option maxRecDepth 100000 in
theorem wl_burnt (l : Launch) (D : va_G) (cs : xE) (o_x : Nat) (a_x : Nat → Nat) (a_t : Nat → Nat) (a_t2 : Nat → Nat) (a_g : Nat → Nat) (s_x : St) (s_t : St) (s_t2 : St) (s_e : St) (s_g : St) (sz : Nat) (x1 : Int32) (x2 : Int32) (res : Int32 × St × St × St) (hf : f10_burnt s_x s_t s_t2 s_e s_g x1 x2 = some (.inl res)) (qo : Nat) (fo : Nat → Int64) : Met l yL_burnt (Cond.codeWith yL_burnt cL_burnt 5 (some .int) [(0, 10, 13, 18), (0, 10, 17, 13)] :: WG) { frames := 8, cells := 0, slots := 0, locals := 134 } (va_Pc [.ref o_x, .int x1, .int x2, .ref qo] (mP D cs (List.flatten [w10 cs o_x a_x s_x, w9 cs (a_x 2) a_t s_t, w9 cs (a_x 9) a_t2 s_t2, w2 cs (a_x 8) a0n s_e, w7 cs (a_x 1) a_g s_g, wO cs qo fo]) sz)) (qI D cs 0 (List.flatten [w10 cs o_x a_x s_x, w9 cs (a_x 2) a_t s_t, w9 cs (a_x 9) a_t2 res.2.1, w2 cs (a_x 8) a0n res.2.2.1, w7 cs (a_x 1) a_g res.2.2.2, wO cs qo (up64 fo res.1.toInt64)]) (va_A (List.flatten [w10 cs o_x a_x s_x, w9 cs (a_x 2) a_t s_t, w9 cs (a_x 9) a_t2 s_t2, w2 cs (a_x 8) a0n s_e, w7 cs (a_x 1) a_g s_g, wO cs qo fo]) sz)) 0 0 (va_A (List.flatten [w10 cs o_x a_x s_x, w9 cs (a_x 2) a_t s_t, w9 cs (a_x 9) a_t2 s_t2, w2 cs (a_x 8) a0n s_e, w7 cs (a_x 1) a_g s_g, wO cs qo fo]) sz) := by
  refine mgoW (hh := [(0, 10, 13, 18), (0, 10, 17, 13)]) (Qc := qI D cs 0 (List.flatten [w10 cs o_x a_x s_x, w9 cs (a_x 2) a_t s_t, w9 cs (a_x 9) a_t2 res.2.1, w2 cs (a_x 8) a0n res.2.2.1, w7 cs (a_x 1) a_g res.2.2.2, wO cs qo (up64 fo res.1.toInt64)])) (cc := cL_burnt) (maxL := 5) (ret := some .int) (by decide) rfl (Nat.le_of_ble_eq_true rfl) ?_
  intro p e s m below meth c ls A R Q args H hR hQ hx hb hml hr hlocks htab hown hts hP hK hD hA hS hG hl
  subst hR
  have hown : s.vm.findClass RL = some m.cls := hown
  have hl : lv_has ls 5 [(0, .ref o_x), (1, .int x1), (2, .int x2), (3, .ref qo)] := hl
  have hW : ∀ w ∈ WG, w.before args s = true := fun w h => hts w (List.mem_cons_of_mem _ h)
  refine lv_aload_n hx hb dL_burnt_0 rfl (lv_at hl 3 rfl) ?_
  refine lv_iconst (v := 0) hx hb dL_burnt_1 (by decide) ?_
  refine lv_aload_n hx hb dL_burnt_2 rfl (lv_at hl 0 rfl) ?_
  refine lv_iload_n hx hb dL_burnt_3 rfl (lv_at hl 1 rfl) ?_
  refine lv_iload_n hx hb dL_burnt_4 rfl (lv_at hl 2 rfl) ?_
  refine mcVi (v := res.1) (rest := [.int 0, .ref qo]) (Bn := [w10 cs o_x a_x s_x, w9 cs (a_x 2) a_t s_t, w9 cs (a_x 9) a_t2 res.2.1, w2 cs (a_x 8) a0n res.2.2.1, w7 cs (a_x 1) a_g res.2.2.2, wO cs qo fo]) (isR := [5]) (isC := [0, 1, 2, 3, 4]) (i0 := 0) ⟨hx, hb, hml, hown, hts⟩ hK hP hD hS hA hG (c10_burnt l D cs o_x a_x a_t a_t2 a_g s_x s_t s_t2 s_e s_g H.size x1 x2 _ hf) (cwV 2 hts (gV wd1032 wd1033 wd1034 wd105 wd1035) rfl rfl rfl (by decide +kernel) ⟨(Nat.le_of_ble_eq_true rfl), (Nat.le_of_ble_eq_true rfl)⟩) 6 (by decide) rfl rfl rfl rfl rfl rfl rfl e10 rfl rfl rfl hl.1 rfl (Nat.le_of_ble_eq_true rfl) ⟨Nat.zero_le _, Nat.zero_le _⟩ dL_burnt_5 (fun H locs hP hD hS => ?_)
  refine lv_i2l hx hb dL_burnt_8 rfl ?_
  refine lsO (i0 := 5) (q := qo) (f := fo) hx hb hK hP hD hS rfl dL_burnt_9 rfl (fun H locs hP hD hS => ?_)
  refine lv_goto (tgt := 21) hx hb dL_burnt_10 (by decide) ?_
  refine lv_iconst (v := 0) hx hb dL_burnt_21 (by decide) ?_
  exact mretI hx hb hr hlocks hK hP hD hS rfl hQ dL_burnt_22
set_option maxHeartbeats 4000000 in
set_option maxRecDepth 100000 in
theorem wx_burnt (l : Launch) (D : va_G) (cs : xE) (hl0 : l.stackTraces = false) (o_x : Nat) (a_x : Nat → Nat) (a_t : Nat → Nat) (a_t2 : Nat → Nat) (a_g : Nat → Nat) (s_x : St) (s_t : St) (s_t2 : St) (s_e : St) (s_g : St) (sz : Nat) (x1 : Int32) (x2 : Int32) (k : Nat) (hf : f10_burnt s_x s_t s_t2 s_e s_g x1 x2 = some (.inr k)) (hk : k = 0 ∨ k = 1) (qo : Nat) (fo : Nat → Int64) : Met l yL_burnt (Cond.codeWith yL_burnt cL_burnt 5 (some .int) [(0, 10, 13, 18), (0, 10, 17, 13)] :: WG) { frames := 8, cells := 1, slots := 6, locals := 134 } (va_Pc [.ref o_x, .int x1, .int x2, .ref qo] (mP D cs (List.flatten [w10 cs o_x a_x s_x, w9 cs (a_x 2) a_t s_t, w9 cs (a_x 9) a_t2 s_t2, w2 cs (a_x 8) a0n s_e, w7 cs (a_x 1) a_g s_g, wO cs qo fo]) sz)) (qI D cs (kfN k) (List.flatten [w10 cs o_x a_x s_x, w9 cs (a_x 2) a_t s_t, w9 cs (a_x 9) a_t2 s_t2, w2 cs (a_x 8) a0n s_e, w7 cs (a_x 1) a_g s_g, wO cs qo fo]) (va_A (List.flatten [w10 cs o_x a_x s_x, w9 cs (a_x 2) a_t s_t, w9 cs (a_x 9) a_t2 s_t2, w2 cs (a_x 8) a0n s_e, w7 cs (a_x 1) a_g s_g, wO cs qo fo]) sz)) 1 6 (va_A (List.flatten [w10 cs o_x a_x s_x, w9 cs (a_x 2) a_t s_t, w9 cs (a_x 9) a_t2 s_t2, w2 cs (a_x 8) a0n s_e, w7 cs (a_x 1) a_g s_g, wO cs qo fo]) sz) := by
  refine mgoW (hh := [(0, 10, 13, 18), (0, 10, 17, 13)]) (Qc := qI D cs (kfN k) (List.flatten [w10 cs o_x a_x s_x, w9 cs (a_x 2) a_t s_t, w9 cs (a_x 9) a_t2 s_t2, w2 cs (a_x 8) a0n s_e, w7 cs (a_x 1) a_g s_g, wO cs qo fo])) (cc := cL_burnt) (maxL := 5) (ret := some .int) (by decide) rfl (Nat.le_of_ble_eq_true rfl) ?_
  intro p e s m below meth c ls A R Q args H hR hQ hx hb hml hr hlocks htab hown hts hP hK hD hA hS hG hl
  subst hR
  have hown : s.vm.findClass RL = some m.cls := hown
  have hl : lv_has ls 5 [(0, .ref o_x), (1, .int x1), (2, .int x2), (3, .ref qo)] := hl
  have hW : ∀ w ∈ WG, w.before args s = true := fun w h => hts w (List.mem_cons_of_mem _ h)
  refine lv_aload_n hx hb dL_burnt_0 rfl (lv_at hl 3 rfl) ?_
  refine lv_iconst (v := 0) hx hb dL_burnt_1 (by decide) ?_
  refine lv_aload_n hx hb dL_burnt_2 rfl (lv_at hl 0 rfl) ?_
  refine lv_iload_n hx hb dL_burnt_3 rfl (lv_at hl 1 rfl) ?_
  refine lv_iload_n hx hb dL_burnt_4 rfl (lv_at hl 2 rfl) ?_
  refine mxCV (k := k) (rest := [.int 0, .ref qo]) (isR := [5]) (isC := [0, 1, 2, 3, 4]) (i0 := 0) ⟨hx, hb, hml, hown, hts⟩ hK hP hD hS hA hG (c10x_burnt l D cs hl0 o_x a_x a_t a_t2 a_g s_x s_t s_t2 s_e s_g H.size x1 x2 k hf) (cwV 2 hts (gV wd1032 wd1033 wd1034 wd105 wd1035) rfl rfl rfl (by decide +kernel) ⟨(Nat.le_of_ble_eq_true rfl), (Nat.le_of_ble_eq_true rfl)⟩) 6 (by decide) rfl rfl rfl rfl e10 rfl rfl rfl hl.1 rfl (Nat.le_of_ble_eq_true rfl) ⟨(Nat.le_of_ble_eq_true rfl), (Nat.le_of_ble_eq_true rfl)⟩ dL_burnt_5 (fun ce q9 H locs hP hD hS h1 h2 h3 => ?_)
  by_cases hk0 : k = 0
  ·
    refine cTI2 (hi := 10) (hp := 17) (hp0 := 13) (suf := []) hown hW hG htab (by decide) hk0 h1 h2 h3 ?_
    refine lv_astore (lv' := [(4, .ref q9), (0, .ref o_x), (1, .int x1), (2, .int x2), (3, .ref qo)]) hx hb dL_burnt_17 hl (by decide) rfl (fun ls hl => ?_)
    refine lv_iconst (v := 2) hx hb dL_burnt_19 (by decide) ?_
    exact mretI hx hb hr hlocks hK hP hD hS (by rw [hk0]; rfl) hQ dL_burnt_20
  ·
    refine cTN (hi := 10) (hp := 13) (suf := [(0, 10, 17, 13)]) hown hW hG htab (by decide) hk0 h1 h2 h3 ?_
    refine lv_astore (lv' := [(4, .ref q9), (0, .ref o_x), (1, .int x1), (2, .int x2), (3, .ref qo)]) hx hb dL_burnt_13 hl (by decide) rfl (fun ls hl => ?_)
    refine lv_iconst (v := 1) hx hb dL_burnt_15 (by decide) ?_
    exact mretI hx hb hr hlocks hK hP hD hS (by rw [hk.resolve_left hk0]; rfl) hQ dL_burnt_16
set_option maxHeartbeats 4000000 in
set_option maxRecDepth 100000 in
theorem wl_shining (l : Launch) (D : va_G) (cs : xE) (o_x : Nat) (a_x : Nat → Nat) (a_t : Nat → Nat) (a_t2 : Nat → Nat) (a_g : Nat → Nat) (s_x : St) (s_t : St) (s_t2 : St) (s_e : St) (s_g : St) (sz : Nat) (x1 : Int32) (x2 : Int32) (res : Int32 × St × St × St) (hf : f10_shining s_x s_t s_t2 s_e s_g x1 x2 = some (.inl res)) (qo : Nat) (fo : Nat → Int64) : Met l yL_shining (Cond.codeWith yL_shining cL_shining 5 (some .int) [(0, 10, 13, 18), (0, 10, 17, 13)] :: WG) { frames := 8, cells := 0, slots := 0, locals := 135 } (va_Pc [.ref o_x, .int x1, .int x2, .ref qo] (mP D cs (List.flatten [w10 cs o_x a_x s_x, w9 cs (a_x 2) a_t s_t, w9 cs (a_x 9) a_t2 s_t2, w2 cs (a_x 8) a0n s_e, w7 cs (a_x 1) a_g s_g, wO cs qo fo]) sz)) (qI D cs 0 (List.flatten [w10 cs o_x a_x s_x, w9 cs (a_x 2) a_t s_t, w9 cs (a_x 9) a_t2 res.2.1, w2 cs (a_x 8) a0n res.2.2.1, w7 cs (a_x 1) a_g res.2.2.2, wO cs qo (up64 fo res.1.toInt64)]) (va_A (List.flatten [w10 cs o_x a_x s_x, w9 cs (a_x 2) a_t s_t, w9 cs (a_x 9) a_t2 s_t2, w2 cs (a_x 8) a0n s_e, w7 cs (a_x 1) a_g s_g, wO cs qo fo]) sz)) 0 0 (va_A (List.flatten [w10 cs o_x a_x s_x, w9 cs (a_x 2) a_t s_t, w9 cs (a_x 9) a_t2 s_t2, w2 cs (a_x 8) a0n s_e, w7 cs (a_x 1) a_g s_g, wO cs qo fo]) sz) := by
  refine mgoW (hh := [(0, 10, 13, 18), (0, 10, 17, 13)]) (Qc := qI D cs 0 (List.flatten [w10 cs o_x a_x s_x, w9 cs (a_x 2) a_t s_t, w9 cs (a_x 9) a_t2 res.2.1, w2 cs (a_x 8) a0n res.2.2.1, w7 cs (a_x 1) a_g res.2.2.2, wO cs qo (up64 fo res.1.toInt64)])) (cc := cL_shining) (maxL := 5) (ret := some .int) (by decide) rfl (Nat.le_of_ble_eq_true rfl) ?_
  intro p e s m below meth c ls A R Q args H hR hQ hx hb hml hr hlocks htab hown hts hP hK hD hA hS hG hl
  subst hR
  have hown : s.vm.findClass RL = some m.cls := hown
  have hl : lv_has ls 5 [(0, .ref o_x), (1, .int x1), (2, .int x2), (3, .ref qo)] := hl
  have hW : ∀ w ∈ WG, w.before args s = true := fun w h => hts w (List.mem_cons_of_mem _ h)
  refine lv_aload_n hx hb dL_shining_0 rfl (lv_at hl 3 rfl) ?_
  refine lv_iconst (v := 0) hx hb dL_shining_1 (by decide) ?_
  refine lv_aload_n hx hb dL_shining_2 rfl (lv_at hl 0 rfl) ?_
  refine lv_iload_n hx hb dL_shining_3 rfl (lv_at hl 1 rfl) ?_
  refine lv_iload_n hx hb dL_shining_4 rfl (lv_at hl 2 rfl) ?_
  refine mcVi (v := res.1) (rest := [.int 0, .ref qo]) (Bn := [w10 cs o_x a_x s_x, w9 cs (a_x 2) a_t s_t, w9 cs (a_x 9) a_t2 res.2.1, w2 cs (a_x 8) a0n res.2.2.1, w7 cs (a_x 1) a_g res.2.2.2, wO cs qo fo]) (isR := [5]) (isC := [0, 1, 2, 3, 4]) (i0 := 0) ⟨hx, hb, hml, hown, hts⟩ hK hP hD hS hA hG (c10_shining l D cs o_x a_x a_t a_t2 a_g s_x s_t s_t2 s_e s_g H.size x1 x2 _ hf) (cwV 2 hts (gV wd1043 wd1044 wd1045 wd105 wd1046) rfl rfl rfl (by decide +kernel) ⟨(Nat.le_of_ble_eq_true rfl), (Nat.le_of_ble_eq_true rfl)⟩) 6 (by decide) rfl rfl rfl rfl rfl rfl rfl e10 rfl rfl rfl hl.1 rfl (Nat.le_of_ble_eq_true rfl) ⟨Nat.zero_le _, Nat.zero_le _⟩ dL_shining_5 (fun H locs hP hD hS => ?_)
  refine lv_i2l hx hb dL_shining_8 rfl ?_
  refine lsO (i0 := 5) (q := qo) (f := fo) hx hb hK hP hD hS rfl dL_shining_9 rfl (fun H locs hP hD hS => ?_)
  refine lv_goto (tgt := 21) hx hb dL_shining_10 (by decide) ?_
  refine lv_iconst (v := 0) hx hb dL_shining_21 (by decide) ?_
  exact mretI hx hb hr hlocks hK hP hD hS rfl hQ dL_shining_22
set_option maxHeartbeats 4000000 in
set_option maxRecDepth 100000 in
theorem wx_shining (l : Launch) (D : va_G) (cs : xE) (hl0 : l.stackTraces = false) (o_x : Nat) (a_x : Nat → Nat) (a_t : Nat → Nat) (a_t2 : Nat → Nat) (a_g : Nat → Nat) (s_x : St) (s_t : St) (s_t2 : St) (s_e : St) (s_g : St) (sz : Nat) (x1 : Int32) (x2 : Int32) (k : Nat) (hf : f10_shining s_x s_t s_t2 s_e s_g x1 x2 = some (.inr k)) (hk : k = 0 ∨ k = 1) (qo : Nat) (fo : Nat → Int64) : Met l yL_shining (Cond.codeWith yL_shining cL_shining 5 (some .int) [(0, 10, 13, 18), (0, 10, 17, 13)] :: WG) { frames := 8, cells := 1, slots := 6, locals := 135 } (va_Pc [.ref o_x, .int x1, .int x2, .ref qo] (mP D cs (List.flatten [w10 cs o_x a_x s_x, w9 cs (a_x 2) a_t s_t, w9 cs (a_x 9) a_t2 s_t2, w2 cs (a_x 8) a0n s_e, w7 cs (a_x 1) a_g s_g, wO cs qo fo]) sz)) (qI D cs (kfN k) (List.flatten [w10 cs o_x a_x s_x, w9 cs (a_x 2) a_t s_t, w9 cs (a_x 9) a_t2 s_t2, w2 cs (a_x 8) a0n s_e, w7 cs (a_x 1) a_g s_g, wO cs qo fo]) (va_A (List.flatten [w10 cs o_x a_x s_x, w9 cs (a_x 2) a_t s_t, w9 cs (a_x 9) a_t2 s_t2, w2 cs (a_x 8) a0n s_e, w7 cs (a_x 1) a_g s_g, wO cs qo fo]) sz)) 1 6 (va_A (List.flatten [w10 cs o_x a_x s_x, w9 cs (a_x 2) a_t s_t, w9 cs (a_x 9) a_t2 s_t2, w2 cs (a_x 8) a0n s_e, w7 cs (a_x 1) a_g s_g, wO cs qo fo]) sz) := by
  refine mgoW (hh := [(0, 10, 13, 18), (0, 10, 17, 13)]) (Qc := qI D cs (kfN k) (List.flatten [w10 cs o_x a_x s_x, w9 cs (a_x 2) a_t s_t, w9 cs (a_x 9) a_t2 s_t2, w2 cs (a_x 8) a0n s_e, w7 cs (a_x 1) a_g s_g, wO cs qo fo])) (cc := cL_shining) (maxL := 5) (ret := some .int) (by decide) rfl (Nat.le_of_ble_eq_true rfl) ?_
  intro p e s m below meth c ls A R Q args H hR hQ hx hb hml hr hlocks htab hown hts hP hK hD hA hS hG hl
  subst hR
  have hown : s.vm.findClass RL = some m.cls := hown
  have hl : lv_has ls 5 [(0, .ref o_x), (1, .int x1), (2, .int x2), (3, .ref qo)] := hl
  have hW : ∀ w ∈ WG, w.before args s = true := fun w h => hts w (List.mem_cons_of_mem _ h)
  refine lv_aload_n hx hb dL_shining_0 rfl (lv_at hl 3 rfl) ?_
  refine lv_iconst (v := 0) hx hb dL_shining_1 (by decide) ?_
  refine lv_aload_n hx hb dL_shining_2 rfl (lv_at hl 0 rfl) ?_
  refine lv_iload_n hx hb dL_shining_3 rfl (lv_at hl 1 rfl) ?_
  refine lv_iload_n hx hb dL_shining_4 rfl (lv_at hl 2 rfl) ?_
  refine mxCV (k := k) (rest := [.int 0, .ref qo]) (isR := [5]) (isC := [0, 1, 2, 3, 4]) (i0 := 0) ⟨hx, hb, hml, hown, hts⟩ hK hP hD hS hA hG (c10x_shining l D cs hl0 o_x a_x a_t a_t2 a_g s_x s_t s_t2 s_e s_g H.size x1 x2 k hf) (cwV 2 hts (gV wd1043 wd1044 wd1045 wd105 wd1046) rfl rfl rfl (by decide +kernel) ⟨(Nat.le_of_ble_eq_true rfl), (Nat.le_of_ble_eq_true rfl)⟩) 6 (by decide) rfl rfl rfl rfl e10 rfl rfl rfl hl.1 rfl (Nat.le_of_ble_eq_true rfl) ⟨(Nat.le_of_ble_eq_true rfl), (Nat.le_of_ble_eq_true rfl)⟩ dL_shining_5 (fun ce q9 H locs hP hD hS h1 h2 h3 => ?_)
  by_cases hk0 : k = 0
  ·
    refine cTI2 (hi := 10) (hp := 17) (hp0 := 13) (suf := []) hown hW hG htab (by decide) hk0 h1 h2 h3 ?_
    refine lv_astore (lv' := [(4, .ref q9), (0, .ref o_x), (1, .int x1), (2, .int x2), (3, .ref qo)]) hx hb dL_shining_17 hl (by decide) rfl (fun ls hl => ?_)
    refine lv_iconst (v := 2) hx hb dL_shining_19 (by decide) ?_
    exact mretI hx hb hr hlocks hK hP hD hS (by rw [hk0]; rfl) hQ dL_shining_20
  ·
    refine cTN (hi := 10) (hp := 13) (suf := [(0, 10, 17, 13)]) hown hW hG htab (by decide) hk0 h1 h2 h3 ?_
    refine lv_astore (lv' := [(4, .ref q9), (0, .ref o_x), (1, .int x1), (2, .int x2), (3, .ref qo)]) hx hb dL_shining_13 hl (by decide) rfl (fun ls hl => ?_)
    refine lv_iconst (v := 1) hx hb dL_shining_15 (by decide) ?_
    exact mretI hx hb hr hlocks hK hP hD hS (by rw [hk.resolve_left hk0]; rfl) hQ dL_shining_16
set_option maxHeartbeats 4000000 in
set_option maxRecDepth 100000 in
theorem wl_soonest (l : Launch) (D : va_G) (cs : xE) (o_x : Nat) (a_x : Nat → Nat) (a_t : Nat → Nat) (a_t2 : Nat → Nat) (a_g : Nat → Nat) (s_x : St) (s_t : St) (s_t2 : St) (s_e : St) (s_g : St) (sz : Nat) (x1 : Int32) (res : Int32 × St × St × St) (hf : f10_soonest s_x s_t s_t2 s_e s_g x1 = some (.inl res)) (qo : Nat) (fo : Nat → Int64) : Met l yL_soonest (Cond.codeWith yL_soonest cL_soonest 4 (some .int) [(0, 9, 12, 18)] :: WG) { frames := 8, cells := 0, slots := 0, locals := 133 } (va_Pc [.ref o_x, .int x1, .ref qo] (mP D cs (List.flatten [w10 cs o_x a_x s_x, w9 cs (a_x 2) a_t s_t, w9 cs (a_x 9) a_t2 s_t2, w2 cs (a_x 8) a0n s_e, w7 cs (a_x 1) a_g s_g, wO cs qo fo]) sz)) (qI D cs 0 (List.flatten [w10 cs o_x a_x s_x, w9 cs (a_x 2) a_t s_t, w9 cs (a_x 9) a_t2 res.2.1, w2 cs (a_x 8) a0n res.2.2.1, w7 cs (a_x 1) a_g res.2.2.2, wO cs qo (up64 fo res.1.toInt64)]) (va_A (List.flatten [w10 cs o_x a_x s_x, w9 cs (a_x 2) a_t s_t, w9 cs (a_x 9) a_t2 s_t2, w2 cs (a_x 8) a0n s_e, w7 cs (a_x 1) a_g s_g, wO cs qo fo]) sz)) 0 0 (va_A (List.flatten [w10 cs o_x a_x s_x, w9 cs (a_x 2) a_t s_t, w9 cs (a_x 9) a_t2 s_t2, w2 cs (a_x 8) a0n s_e, w7 cs (a_x 1) a_g s_g, wO cs qo fo]) sz) := by
  refine mgoW (hh := [(0, 9, 12, 18)]) (Qc := qI D cs 0 (List.flatten [w10 cs o_x a_x s_x, w9 cs (a_x 2) a_t s_t, w9 cs (a_x 9) a_t2 res.2.1, w2 cs (a_x 8) a0n res.2.2.1, w7 cs (a_x 1) a_g res.2.2.2, wO cs qo (up64 fo res.1.toInt64)])) (cc := cL_soonest) (maxL := 4) (ret := some .int) (by decide) rfl (Nat.le_of_ble_eq_true rfl) ?_
  intro p e s m below meth c ls A R Q args H hR hQ hx hb hml hr hlocks htab hown hts hP hK hD hA hS hG hl
  subst hR
  have hown : s.vm.findClass RL = some m.cls := hown
  have hl : lv_has ls 4 [(0, .ref o_x), (1, .int x1), (2, .ref qo)] := hl
  have hW : ∀ w ∈ WG, w.before args s = true := fun w h => hts w (List.mem_cons_of_mem _ h)
  refine lv_aload_n hx hb dL_soonest_0 rfl (lv_at hl 2 rfl) ?_
  refine lv_iconst (v := 0) hx hb dL_soonest_1 (by decide) ?_
  refine lv_aload_n hx hb dL_soonest_2 rfl (lv_at hl 0 rfl) ?_
  refine lv_iload_n hx hb dL_soonest_3 rfl (lv_at hl 1 rfl) ?_
  refine mcVi (v := res.1) (rest := [.int 0, .ref qo]) (Bn := [w10 cs o_x a_x s_x, w9 cs (a_x 2) a_t s_t, w9 cs (a_x 9) a_t2 res.2.1, w2 cs (a_x 8) a0n res.2.2.1, w7 cs (a_x 1) a_g res.2.2.2, wO cs qo fo]) (isR := [5]) (isC := [0, 1, 2, 3, 4]) (i0 := 0) ⟨hx, hb, hml, hown, hts⟩ hK hP hD hS hA hG (c10_soonest l D cs o_x a_x a_t a_t2 a_g s_x s_t s_t2 s_e s_g H.size x1 _ hf) (cwV 1 hts (gV wd1050 wd1051 wd1052 wd105 wd1053) rfl rfl rfl (by decide +kernel) ⟨(Nat.le_of_ble_eq_true rfl), (Nat.le_of_ble_eq_true rfl)⟩) 6 (by decide) rfl rfl rfl rfl rfl rfl rfl e10 rfl rfl rfl hl.1 rfl (Nat.le_of_ble_eq_true rfl) ⟨Nat.zero_le _, Nat.zero_le _⟩ dL_soonest_4 (fun H locs hP hD hS => ?_)
  refine lv_i2l hx hb dL_soonest_7 rfl ?_
  refine lsO (i0 := 5) (q := qo) (f := fo) hx hb hK hP hD hS rfl dL_soonest_8 rfl (fun H locs hP hD hS => ?_)
  refine lv_goto (tgt := 15) hx hb dL_soonest_9 (by decide) ?_
  refine lv_iconst (v := 0) hx hb dL_soonest_15 (by decide) ?_
  exact mretI hx hb hr hlocks hK hP hD hS rfl hQ dL_soonest_16
set_option maxHeartbeats 4000000 in
set_option maxRecDepth 100000 in
theorem wx_soonest (l : Launch) (D : va_G) (cs : xE) (hl0 : l.stackTraces = false) (o_x : Nat) (a_x : Nat → Nat) (a_t : Nat → Nat) (a_t2 : Nat → Nat) (a_g : Nat → Nat) (s_x : St) (s_t : St) (s_t2 : St) (s_e : St) (s_g : St) (sz : Nat) (x1 : Int32) (k : Nat) (hf : f10_soonest s_x s_t s_t2 s_e s_g x1 = some (.inr k)) (hk : k ≠ 0) (qo : Nat) (fo : Nat → Int64) : Met l yL_soonest (Cond.codeWith yL_soonest cL_soonest 4 (some .int) [(0, 9, 12, 18)] :: WG) { frames := 8, cells := 1, slots := 6, locals := 133 } (va_Pc [.ref o_x, .int x1, .ref qo] (mP D cs (List.flatten [w10 cs o_x a_x s_x, w9 cs (a_x 2) a_t s_t, w9 cs (a_x 9) a_t2 s_t2, w2 cs (a_x 8) a0n s_e, w7 cs (a_x 1) a_g s_g, wO cs qo fo]) sz)) (qI D cs 1 (List.flatten [w10 cs o_x a_x s_x, w9 cs (a_x 2) a_t s_t, w9 cs (a_x 9) a_t2 s_t2, w2 cs (a_x 8) a0n s_e, w7 cs (a_x 1) a_g s_g, wO cs qo fo]) (va_A (List.flatten [w10 cs o_x a_x s_x, w9 cs (a_x 2) a_t s_t, w9 cs (a_x 9) a_t2 s_t2, w2 cs (a_x 8) a0n s_e, w7 cs (a_x 1) a_g s_g, wO cs qo fo]) sz)) 1 6 (va_A (List.flatten [w10 cs o_x a_x s_x, w9 cs (a_x 2) a_t s_t, w9 cs (a_x 9) a_t2 s_t2, w2 cs (a_x 8) a0n s_e, w7 cs (a_x 1) a_g s_g, wO cs qo fo]) sz) := by
  refine mgoW (hh := [(0, 9, 12, 18)]) (Qc := qI D cs 1 (List.flatten [w10 cs o_x a_x s_x, w9 cs (a_x 2) a_t s_t, w9 cs (a_x 9) a_t2 s_t2, w2 cs (a_x 8) a0n s_e, w7 cs (a_x 1) a_g s_g, wO cs qo fo])) (cc := cL_soonest) (maxL := 4) (ret := some .int) (by decide) rfl (Nat.le_of_ble_eq_true rfl) ?_
  intro p e s m below meth c ls A R Q args H hR hQ hx hb hml hr hlocks htab hown hts hP hK hD hA hS hG hl
  subst hR
  have hown : s.vm.findClass RL = some m.cls := hown
  have hl : lv_has ls 4 [(0, .ref o_x), (1, .int x1), (2, .ref qo)] := hl
  have hW : ∀ w ∈ WG, w.before args s = true := fun w h => hts w (List.mem_cons_of_mem _ h)
  refine lv_aload_n hx hb dL_soonest_0 rfl (lv_at hl 2 rfl) ?_
  refine lv_iconst (v := 0) hx hb dL_soonest_1 (by decide) ?_
  refine lv_aload_n hx hb dL_soonest_2 rfl (lv_at hl 0 rfl) ?_
  refine lv_iload_n hx hb dL_soonest_3 rfl (lv_at hl 1 rfl) ?_
  refine mxCV (k := k) (rest := [.int 0, .ref qo]) (isR := [5]) (isC := [0, 1, 2, 3, 4]) (i0 := 0) ⟨hx, hb, hml, hown, hts⟩ hK hP hD hS hA hG (c10x_soonest l D cs hl0 o_x a_x a_t a_t2 a_g s_x s_t s_t2 s_e s_g H.size x1 k hf) (cwV 1 hts (gV wd1050 wd1051 wd1052 wd105 wd1053) rfl rfl rfl (by decide +kernel) ⟨(Nat.le_of_ble_eq_true rfl), (Nat.le_of_ble_eq_true rfl)⟩) 6 (by decide) rfl rfl rfl rfl e10 rfl rfl rfl hl.1 rfl (Nat.le_of_ble_eq_true rfl) ⟨(Nat.le_of_ble_eq_true rfl), (Nat.le_of_ble_eq_true rfl)⟩ dL_soonest_4 (fun ce q9 H locs hP hD hS h1 h2 h3 => ?_)
  refine cTN (hi := 9) (hp := 12) (suf := []) hown hW hG htab (by decide) hk h1 h2 h3 ?_
  refine lv_astore_n (lv' := [(3, .ref q9), (0, .ref o_x), (1, .int x1), (2, .ref qo)]) hx hb dL_soonest_12 rfl hl (by decide) rfl (fun ls hl => ?_)
  refine lv_iconst (v := 1) hx hb dL_soonest_13 (by decide) ?_
  exact mretI hx hb hr hlocks hK hP hD hS rfl hQ dL_soonest_14
set_option maxHeartbeats 4000000 in
set_option maxRecDepth 100000 in
theorem wl_busiest (l : Launch) (D : va_G) (cs : xE) (o_x : Nat) (a_x : Nat → Nat) (a_t : Nat → Nat) (a_g : Nat → Nat) (s_x : St) (s_t : St) (s_g : St) (sz : Nat) (x1 : Int32) (res : Int32 × St) (hf : f10_busiest s_x s_t s_g x1 = some (.inl res)) (qo : Nat) (fo : Nat → Int64) : Met l yL_busiest (Cond.codeWith yL_busiest cL_busiest 4 (some .int) [(0, 9, 12, 18)] :: WG) { frames := 8, cells := 0, slots := 0, locals := 135 } (va_Pc [.ref o_x, .int x1, .ref qo] (mP D cs (List.flatten [w10 cs o_x a_x s_x, w9 cs (a_x 2) a_t s_t, w7 cs (a_x 1) a_g s_g, wO cs qo fo]) sz)) (qI D cs 0 (List.flatten [w10 cs o_x a_x s_x, w9 cs (a_x 2) a_t s_t, w7 cs (a_x 1) a_g res.2, wO cs qo (up64 fo res.1.toInt64)]) (va_A (List.flatten [w10 cs o_x a_x s_x, w9 cs (a_x 2) a_t s_t, w7 cs (a_x 1) a_g s_g, wO cs qo fo]) sz)) 0 0 (va_A (List.flatten [w10 cs o_x a_x s_x, w9 cs (a_x 2) a_t s_t, w7 cs (a_x 1) a_g s_g, wO cs qo fo]) sz) := by
  refine mgoW (hh := [(0, 9, 12, 18)]) (Qc := qI D cs 0 (List.flatten [w10 cs o_x a_x s_x, w9 cs (a_x 2) a_t s_t, w7 cs (a_x 1) a_g res.2, wO cs qo (up64 fo res.1.toInt64)])) (cc := cL_busiest) (maxL := 4) (ret := some .int) (by decide) rfl (Nat.le_of_ble_eq_true rfl) ?_
  intro p e s m below meth c ls A R Q args H hR hQ hx hb hml hr hlocks htab hown hts hP hK hD hA hS hG hl
  subst hR
  have hown : s.vm.findClass RL = some m.cls := hown
  have hl : lv_has ls 4 [(0, .ref o_x), (1, .int x1), (2, .ref qo)] := hl
  have hW : ∀ w ∈ WG, w.before args s = true := fun w h => hts w (List.mem_cons_of_mem _ h)
  refine lv_aload_n hx hb dL_busiest_0 rfl (lv_at hl 2 rfl) ?_
  refine lv_iconst (v := 0) hx hb dL_busiest_1 (by decide) ?_
  refine lv_aload_n hx hb dL_busiest_2 rfl (lv_at hl 0 rfl) ?_
  refine lv_iload_n hx hb dL_busiest_3 rfl (lv_at hl 1 rfl) ?_
  refine mcVi (v := res.1) (rest := [.int 0, .ref qo]) (Bn := [w10 cs o_x a_x s_x, w9 cs (a_x 2) a_t s_t, w7 cs (a_x 1) a_g res.2, wO cs qo fo]) (isR := [3]) (isC := [0, 1, 2]) (i0 := 0) ⟨hx, hb, hml, hown, hts⟩ hK hP hD hS hA hG (c10_busiest l D cs o_x a_x a_t a_g s_x s_t s_g H.size x1 _ hf) (cwV 1 hts (gV wd1057 wd1058 wd1059 wd105 wd1060) rfl rfl rfl (by decide +kernel) ⟨(Nat.le_of_ble_eq_true rfl), (Nat.le_of_ble_eq_true rfl)⟩) 4 (by decide) rfl rfl rfl rfl rfl rfl rfl e10 rfl rfl rfl hl.1 rfl (Nat.le_of_ble_eq_true rfl) ⟨Nat.zero_le _, Nat.zero_le _⟩ dL_busiest_4 (fun H locs hP hD hS => ?_)
  refine lv_i2l hx hb dL_busiest_7 rfl ?_
  refine lsO (i0 := 3) (q := qo) (f := fo) hx hb hK hP hD hS rfl dL_busiest_8 rfl (fun H locs hP hD hS => ?_)
  refine lv_goto (tgt := 15) hx hb dL_busiest_9 (by decide) ?_
  refine lv_iconst (v := 0) hx hb dL_busiest_15 (by decide) ?_
  exact mretI hx hb hr hlocks hK hP hD hS rfl hQ dL_busiest_16
set_option maxHeartbeats 4000000 in
set_option maxRecDepth 100000 in
theorem wx_busiest (l : Launch) (D : va_G) (cs : xE) (hl0 : l.stackTraces = false) (o_x : Nat) (a_x : Nat → Nat) (a_t : Nat → Nat) (a_g : Nat → Nat) (s_x : St) (s_t : St) (s_g : St) (sz : Nat) (x1 : Int32) (k : Nat) (hf : f10_busiest s_x s_t s_g x1 = some (.inr k)) (hk : k ≠ 0) (qo : Nat) (fo : Nat → Int64) : Met l yL_busiest (Cond.codeWith yL_busiest cL_busiest 4 (some .int) [(0, 9, 12, 18)] :: WG) { frames := 8, cells := 1, slots := 6, locals := 135 } (va_Pc [.ref o_x, .int x1, .ref qo] (mP D cs (List.flatten [w10 cs o_x a_x s_x, w9 cs (a_x 2) a_t s_t, w7 cs (a_x 1) a_g s_g, wO cs qo fo]) sz)) (qI D cs 1 (List.flatten [w10 cs o_x a_x s_x, w9 cs (a_x 2) a_t s_t, w7 cs (a_x 1) a_g s_g, wO cs qo fo]) (va_A (List.flatten [w10 cs o_x a_x s_x, w9 cs (a_x 2) a_t s_t, w7 cs (a_x 1) a_g s_g, wO cs qo fo]) sz)) 1 6 (va_A (List.flatten [w10 cs o_x a_x s_x, w9 cs (a_x 2) a_t s_t, w7 cs (a_x 1) a_g s_g, wO cs qo fo]) sz) := by
  refine mgoW (hh := [(0, 9, 12, 18)]) (Qc := qI D cs 1 (List.flatten [w10 cs o_x a_x s_x, w9 cs (a_x 2) a_t s_t, w7 cs (a_x 1) a_g s_g, wO cs qo fo])) (cc := cL_busiest) (maxL := 4) (ret := some .int) (by decide) rfl (Nat.le_of_ble_eq_true rfl) ?_
  intro p e s m below meth c ls A R Q args H hR hQ hx hb hml hr hlocks htab hown hts hP hK hD hA hS hG hl
  subst hR
  have hown : s.vm.findClass RL = some m.cls := hown
  have hl : lv_has ls 4 [(0, .ref o_x), (1, .int x1), (2, .ref qo)] := hl
  have hW : ∀ w ∈ WG, w.before args s = true := fun w h => hts w (List.mem_cons_of_mem _ h)
  refine lv_aload_n hx hb dL_busiest_0 rfl (lv_at hl 2 rfl) ?_
  refine lv_iconst (v := 0) hx hb dL_busiest_1 (by decide) ?_
  refine lv_aload_n hx hb dL_busiest_2 rfl (lv_at hl 0 rfl) ?_
  refine lv_iload_n hx hb dL_busiest_3 rfl (lv_at hl 1 rfl) ?_
  refine mxCV (k := k) (rest := [.int 0, .ref qo]) (isR := [3]) (isC := [0, 1, 2]) (i0 := 0) ⟨hx, hb, hml, hown, hts⟩ hK hP hD hS hA hG (c10x_busiest l D cs hl0 o_x a_x a_t a_g s_x s_t s_g H.size x1 k hf) (cwV 1 hts (gV wd1057 wd1058 wd1059 wd105 wd1060) rfl rfl rfl (by decide +kernel) ⟨(Nat.le_of_ble_eq_true rfl), (Nat.le_of_ble_eq_true rfl)⟩) 4 (by decide) rfl rfl rfl rfl e10 rfl rfl rfl hl.1 rfl (Nat.le_of_ble_eq_true rfl) ⟨(Nat.le_of_ble_eq_true rfl), (Nat.le_of_ble_eq_true rfl)⟩ dL_busiest_4 (fun ce q9 H locs hP hD hS h1 h2 h3 => ?_)
  refine cTN (hi := 9) (hp := 12) (suf := []) hown hW hG htab (by decide) hk h1 h2 h3 ?_
  refine lv_astore_n (lv' := [(3, .ref q9), (0, .ref o_x), (1, .int x1), (2, .ref qo)]) hx hb dL_busiest_12 rfl hl (by decide) rfl (fun ls hl => ?_)
  refine lv_iconst (v := 1) hx hb dL_busiest_13 (by decide) ?_
  exact mretI hx hb hr hlocks hK hP hD hS rfl hQ dL_busiest_14
