/-! the law's static methods -/
set_option maxHeartbeats 4000000 in
set_option maxRecDepth 100000 in
theorem wl_street (l : Launch) (D : va_G) (cs : xE) (o_x : Nat) (a_x : Nat → Nat) (a_r : Nat → Nat) (a_t3 : Nat → Nat) (a_g2 : Nat → Nat) (a_t : Nat → Nat) (a_g : Nat → Nat) (a_h : Nat → Nat) (a_v : Nat → Nat) (a_p : Nat → Nat) (s_x : St) (s_r : St) (s_t3 : St) (s_g2 : St) (s_t : St) (s_g : St) (s_h : HSt) (s_v : St) (s_p : St) (sz : Nat) (x1 : Int32) (res : Int32 × St × St × St × St × St × St × HSt × St × St) (hf : f10_street s_x s_r s_t3 s_g2 s_t s_g s_h s_v s_p x1 = some (.inl res)) (qo : Nat) (fo : Nat → Int64) : Met l yL_street (Cond.codeWith yL_street cL_street 4 (some .int) [(0, 9, 12, 13)] :: WG) { frames := 124, cells := 0, slots := 0, locals := 3038 } (va_Pc [.ref o_x, .int x1, .ref qo] (mP D cs (List.flatten [w10 cs o_x a_x s_x, w6 cs (a_x 0) a_r s_r, w9 cs (a_r 0) a_t3 s_t3, w7 cs (a_r 1) a_g2 s_g2, w9 cs (a_x 2) a_t s_t, w7 cs (a_x 1) a_g s_g, w3 cs (a_x 3) a_h s_h, w8 cs (a_x 4) a_v s_v, w5 cs (a_x 6) a_p s_p, wO cs qo fo]) sz)) (qI D cs 0 (List.flatten [w10 cs o_x a_x res.2.1, w6 cs (a_x 0) a_r res.2.2.1, w9 cs (a_r 0) a_t3 res.2.2.2.1, w7 cs (a_r 1) a_g2 res.2.2.2.2.1, w9 cs (a_x 2) a_t res.2.2.2.2.2.1, w7 cs (a_x 1) a_g res.2.2.2.2.2.2.1, w3 cs (a_x 3) a_h res.2.2.2.2.2.2.2.1, w8 cs (a_x 4) a_v res.2.2.2.2.2.2.2.2.1, w5 cs (a_x 6) a_p res.2.2.2.2.2.2.2.2.2, wO cs qo (up64 fo res.1.toInt64)]) (va_A (List.flatten [w10 cs o_x a_x s_x, w6 cs (a_x 0) a_r s_r, w9 cs (a_r 0) a_t3 s_t3, w7 cs (a_r 1) a_g2 s_g2, w9 cs (a_x 2) a_t s_t, w7 cs (a_x 1) a_g s_g, w3 cs (a_x 3) a_h s_h, w8 cs (a_x 4) a_v s_v, w5 cs (a_x 6) a_p s_p, wO cs qo fo]) sz)) 0 0 (va_A (List.flatten [w10 cs o_x a_x s_x, w6 cs (a_x 0) a_r s_r, w9 cs (a_r 0) a_t3 s_t3, w7 cs (a_r 1) a_g2 s_g2, w9 cs (a_x 2) a_t s_t, w7 cs (a_x 1) a_g s_g, w3 cs (a_x 3) a_h s_h, w8 cs (a_x 4) a_v s_v, w5 cs (a_x 6) a_p s_p, wO cs qo fo]) sz) := by
  refine mgoW (hh := [(0, 9, 12, 13)]) (Qc := qI D cs 0 (List.flatten [w10 cs o_x a_x res.2.1, w6 cs (a_x 0) a_r res.2.2.1, w9 cs (a_r 0) a_t3 res.2.2.2.1, w7 cs (a_r 1) a_g2 res.2.2.2.2.1, w9 cs (a_x 2) a_t res.2.2.2.2.2.1, w7 cs (a_x 1) a_g res.2.2.2.2.2.2.1, w3 cs (a_x 3) a_h res.2.2.2.2.2.2.2.1, w8 cs (a_x 4) a_v res.2.2.2.2.2.2.2.2.1, w5 cs (a_x 6) a_p res.2.2.2.2.2.2.2.2.2, wO cs qo (up64 fo res.1.toInt64)])) (cc := cL_street) (maxL := 4) (ret := some .int) (by decide) rfl (Nat.le_of_ble_eq_true rfl) ?_
  intro p e s m below meth c ls A R Q args H hR hQ hx hb hml hr hlocks htab hown hts hP hK hD hA hS hG hl
  subst hR
  have hown : s.vm.findClass RL = some m.cls := hown
  have hl : lv_has ls 4 [(0, .ref o_x), (1, .int x1), (2, .ref qo)] := hl
  have hW : ∀ w ∈ WG, w.before args s = true := fun w h => hts w (List.mem_cons_of_mem _ h)
  refine lv_aload_n hx hb dL_street_0 rfl (lv_at hl 2 rfl) ?_
  refine lv_iconst (v := 0) hx hb dL_street_1 (by decide) ?_
  refine lv_aload_n hx hb dL_street_2 rfl (lv_at hl 0 rfl) ?_
  refine lv_iload_n hx hb dL_street_3 rfl (lv_at hl 1 rfl) ?_
  refine mcVi (v := res.1) (rest := [.int 0, .ref qo]) (Bn := [w10 cs o_x a_x res.2.1, w6 cs (a_x 0) a_r res.2.2.1, w9 cs (a_r 0) a_t3 res.2.2.2.1, w7 cs (a_r 1) a_g2 res.2.2.2.2.1, w9 cs (a_x 2) a_t res.2.2.2.2.2.1, w7 cs (a_x 1) a_g res.2.2.2.2.2.2.1, w3 cs (a_x 3) a_h res.2.2.2.2.2.2.2.1, w8 cs (a_x 4) a_v res.2.2.2.2.2.2.2.2.1, w5 cs (a_x 6) a_p res.2.2.2.2.2.2.2.2.2, wO cs qo fo]) (isR := [9]) (isC := [0, 1, 2, 3, 4, 5, 6, 7, 8]) (i0 := 0) ⟨hx, hb, hml, hown, hts⟩ hK hP hD hS hA hG (c10_street l D cs o_x a_x a_r a_t3 a_g2 a_t a_g a_h a_v a_p s_x s_r s_t3 s_g2 s_t s_g s_h s_v s_p H.size x1 _ hf) (cwV 1 hts (gV wd618 wd619 wd620 wd105 wd621) rfl rfl rfl (by decide +kernel) ⟨(Nat.le_of_ble_eq_true rfl), (Nat.le_of_ble_eq_true rfl)⟩) 10 (by decide) rfl rfl rfl rfl rfl rfl rfl e10 rfl rfl rfl hl.1 rfl (Nat.le_of_ble_eq_true rfl) ⟨Nat.zero_le _, Nat.zero_le _⟩ dL_street_4 (fun H locs hP hD hS => ?_)
  refine lv_i2l hx hb dL_street_7 rfl ?_
  refine lsO (i0 := 9) (q := qo) (f := fo) hx hb hK hP hD hS rfl dL_street_8 rfl (fun H locs hP hD hS => ?_)
  refine lv_goto (tgt := 15) hx hb dL_street_9 (by decide) ?_
  refine lv_iconst (v := 0) hx hb dL_street_15 (by decide) ?_
  exact mretI hx hb hr hlocks hK hP hD hS rfl hQ dL_street_16
set_option maxHeartbeats 4000000 in
set_option maxRecDepth 100000 in
theorem wx_street (l : Launch) (D : va_G) (cs : xE) (hl0 : l.stackTraces = false) (o_x : Nat) (a_x : Nat → Nat) (a_r : Nat → Nat) (a_t3 : Nat → Nat) (a_g2 : Nat → Nat) (a_t : Nat → Nat) (a_g : Nat → Nat) (a_h : Nat → Nat) (a_v : Nat → Nat) (a_p : Nat → Nat) (s_x : St) (s_r : St) (s_t3 : St) (s_g2 : St) (s_t : St) (s_g : St) (s_h : HSt) (s_v : St) (s_p : St) (sz : Nat) (x1 : Int32) (k : Nat) (hf : f10_street s_x s_r s_t3 s_g2 s_t s_g s_h s_v s_p x1 = some (.inr k)) (hk : k = 0) (qo : Nat) (fo : Nat → Int64) : Met l yL_street (Cond.codeWith yL_street cL_street 4 (some .int) [(0, 9, 12, 13)] :: WG) { frames := 124, cells := 1, slots := 6, locals := 3038 } (va_Pc [.ref o_x, .int x1, .ref qo] (mP D cs (List.flatten [w10 cs o_x a_x s_x, w6 cs (a_x 0) a_r s_r, w9 cs (a_r 0) a_t3 s_t3, w7 cs (a_r 1) a_g2 s_g2, w9 cs (a_x 2) a_t s_t, w7 cs (a_x 1) a_g s_g, w3 cs (a_x 3) a_h s_h, w8 cs (a_x 4) a_v s_v, w5 cs (a_x 6) a_p s_p, wO cs qo fo]) sz)) (qI D cs 1 (List.flatten [w10 cs o_x a_x s_x, w6 cs (a_x 0) a_r s_r, w9 cs (a_r 0) a_t3 s_t3, w7 cs (a_r 1) a_g2 s_g2, w9 cs (a_x 2) a_t s_t, w7 cs (a_x 1) a_g s_g, w3 cs (a_x 3) a_h s_h, w8 cs (a_x 4) a_v s_v, w5 cs (a_x 6) a_p s_p, wO cs qo fo]) (va_A (List.flatten [w10 cs o_x a_x s_x, w6 cs (a_x 0) a_r s_r, w9 cs (a_r 0) a_t3 s_t3, w7 cs (a_r 1) a_g2 s_g2, w9 cs (a_x 2) a_t s_t, w7 cs (a_x 1) a_g s_g, w3 cs (a_x 3) a_h s_h, w8 cs (a_x 4) a_v s_v, w5 cs (a_x 6) a_p s_p, wO cs qo fo]) sz)) 1 6 (va_A (List.flatten [w10 cs o_x a_x s_x, w6 cs (a_x 0) a_r s_r, w9 cs (a_r 0) a_t3 s_t3, w7 cs (a_r 1) a_g2 s_g2, w9 cs (a_x 2) a_t s_t, w7 cs (a_x 1) a_g s_g, w3 cs (a_x 3) a_h s_h, w8 cs (a_x 4) a_v s_v, w5 cs (a_x 6) a_p s_p, wO cs qo fo]) sz) := by
  refine mgoW (hh := [(0, 9, 12, 13)]) (Qc := qI D cs 1 (List.flatten [w10 cs o_x a_x s_x, w6 cs (a_x 0) a_r s_r, w9 cs (a_r 0) a_t3 s_t3, w7 cs (a_r 1) a_g2 s_g2, w9 cs (a_x 2) a_t s_t, w7 cs (a_x 1) a_g s_g, w3 cs (a_x 3) a_h s_h, w8 cs (a_x 4) a_v s_v, w5 cs (a_x 6) a_p s_p, wO cs qo fo])) (cc := cL_street) (maxL := 4) (ret := some .int) (by decide) rfl (Nat.le_of_ble_eq_true rfl) ?_
  intro p e s m below meth c ls A R Q args H hR hQ hx hb hml hr hlocks htab hown hts hP hK hD hA hS hG hl
  subst hR
  have hown : s.vm.findClass RL = some m.cls := hown
  have hl : lv_has ls 4 [(0, .ref o_x), (1, .int x1), (2, .ref qo)] := hl
  have hW : ∀ w ∈ WG, w.before args s = true := fun w h => hts w (List.mem_cons_of_mem _ h)
  refine lv_aload_n hx hb dL_street_0 rfl (lv_at hl 2 rfl) ?_
  refine lv_iconst (v := 0) hx hb dL_street_1 (by decide) ?_
  refine lv_aload_n hx hb dL_street_2 rfl (lv_at hl 0 rfl) ?_
  refine lv_iload_n hx hb dL_street_3 rfl (lv_at hl 1 rfl) ?_
  refine mxCV (k := k) (rest := [.int 0, .ref qo]) (isR := [9]) (isC := [0, 1, 2, 3, 4, 5, 6, 7, 8]) (i0 := 0) ⟨hx, hb, hml, hown, hts⟩ hK hP hD hS hA hG (c10x_street l D cs hl0 o_x a_x a_r a_t3 a_g2 a_t a_g a_h a_v a_p s_x s_r s_t3 s_g2 s_t s_g s_h s_v s_p H.size x1 k hf) (cwV 1 hts (gV wd618 wd619 wd620 wd105 wd621) rfl rfl rfl (by decide +kernel) ⟨(Nat.le_of_ble_eq_true rfl), (Nat.le_of_ble_eq_true rfl)⟩) 10 (by decide) rfl rfl rfl rfl e10 rfl rfl rfl hl.1 rfl (Nat.le_of_ble_eq_true rfl) ⟨(Nat.le_of_ble_eq_true rfl), (Nat.le_of_ble_eq_true rfl)⟩ dL_street_4 (fun ce q9 H locs hP hD hS h1 h2 h3 => ?_)
  refine cTI (hi := 9) (hp := 12) (suf := []) hown hW hG htab (by decide) hk h1 h2 h3 ?_
  refine lv_astore_n (lv' := [(3, .ref q9), (0, .ref o_x), (1, .int x1), (2, .ref qo)]) hx hb dL_street_12 rfl hl (by decide) rfl (fun ls hl => ?_)
  refine lv_iconst (v := 1) hx hb dL_street_13 (by decide) ?_
  exact mretI hx hb hr hlocks hK hP hD hS rfl hQ dL_street_14
set_option maxHeartbeats 4000000 in
set_option maxRecDepth 100000 in
theorem wl_count (l : Launch) (D : va_G) (cs : xE) (o_x : Nat) (a_x : Nat → Nat) (a_t : Nat → Nat) (a_h : Nat → Nat) (a_v : Nat → Nat) (a_r : Nat → Nat) (s_x : St) (s_t : St) (s_h : HSt) (s_v : St) (s_r : St) (sz : Nat) (x1 : Int32) (res : Int32) (hf : f10_count s_x s_t s_h s_v s_r x1 = some (.inl res)) (qo : Nat) (fo : Nat → Int64) : Met l yL_count (Cond.codeWith yL_count cL_count 4 (some .int) [(0, 9, 12, 18)] :: WG) { frames := 7, cells := 0, slots := 0, locals := 114 } (va_Pc [.ref o_x, .int x1, .ref qo] (mP D cs (List.flatten [w10 cs o_x a_x s_x, w9 cs (a_x 2) a_t s_t, w3 cs (a_x 3) a_h s_h, w8 cs (a_x 4) a_v s_v, w6 cs (a_x 0) a_r s_r, wO cs qo fo]) sz)) (qI D cs 0 (List.flatten [w10 cs o_x a_x s_x, w9 cs (a_x 2) a_t s_t, w3 cs (a_x 3) a_h s_h, w8 cs (a_x 4) a_v s_v, w6 cs (a_x 0) a_r s_r, wO cs qo (up64 fo res.toInt64)]) (va_A (List.flatten [w10 cs o_x a_x s_x, w9 cs (a_x 2) a_t s_t, w3 cs (a_x 3) a_h s_h, w8 cs (a_x 4) a_v s_v, w6 cs (a_x 0) a_r s_r, wO cs qo fo]) sz)) 0 0 (va_A (List.flatten [w10 cs o_x a_x s_x, w9 cs (a_x 2) a_t s_t, w3 cs (a_x 3) a_h s_h, w8 cs (a_x 4) a_v s_v, w6 cs (a_x 0) a_r s_r, wO cs qo fo]) sz) := by
  refine mgoW (hh := [(0, 9, 12, 18)]) (Qc := qI D cs 0 (List.flatten [w10 cs o_x a_x s_x, w9 cs (a_x 2) a_t s_t, w3 cs (a_x 3) a_h s_h, w8 cs (a_x 4) a_v s_v, w6 cs (a_x 0) a_r s_r, wO cs qo (up64 fo res.toInt64)])) (cc := cL_count) (maxL := 4) (ret := some .int) (by decide) rfl (Nat.le_of_ble_eq_true rfl) ?_
  intro p e s m below meth c ls A R Q args H hR hQ hx hb hml hr hlocks htab hown hts hP hK hD hA hS hG hl
  subst hR
  have hown : s.vm.findClass RL = some m.cls := hown
  have hl : lv_has ls 4 [(0, .ref o_x), (1, .int x1), (2, .ref qo)] := hl
  have hW : ∀ w ∈ WG, w.before args s = true := fun w h => hts w (List.mem_cons_of_mem _ h)
  refine lv_aload_n hx hb dL_count_0 rfl (lv_at hl 2 rfl) ?_
  refine lv_iconst (v := 0) hx hb dL_count_1 (by decide) ?_
  refine lv_aload_n hx hb dL_count_2 rfl (lv_at hl 0 rfl) ?_
  refine lv_iload_n hx hb dL_count_3 rfl (lv_at hl 1 rfl) ?_
  refine mcVi (v := res) (rest := [.int 0, .ref qo]) (Bn := [w10 cs o_x a_x s_x, w9 cs (a_x 2) a_t s_t, w3 cs (a_x 3) a_h s_h, w8 cs (a_x 4) a_v s_v, w6 cs (a_x 0) a_r s_r, wO cs qo fo]) (isR := [5]) (isC := [0, 1, 2, 3, 4]) (i0 := 0) ⟨hx, hb, hml, hown, hts⟩ hK hP hD hS hA hG (c10_count l D cs o_x a_x a_t a_h a_v a_r s_x s_t s_h s_v s_r H.size x1 _ hf) (cwV 1 hts (gV wd877 wd878 wd879 wd105 wd880) rfl rfl rfl (by decide +kernel) ⟨(Nat.le_of_ble_eq_true rfl), (Nat.le_of_ble_eq_true rfl)⟩) 6 (by decide) rfl rfl rfl rfl rfl rfl rfl e10 rfl rfl rfl hl.1 rfl (Nat.le_of_ble_eq_true rfl) ⟨Nat.zero_le _, Nat.zero_le _⟩ dL_count_4 (fun H locs hP hD hS => ?_)
  refine lv_i2l hx hb dL_count_7 rfl ?_
  refine lsO (i0 := 5) (q := qo) (f := fo) hx hb hK hP hD hS rfl dL_count_8 rfl (fun H locs hP hD hS => ?_)
  refine lv_goto (tgt := 15) hx hb dL_count_9 (by decide) ?_
  refine lv_iconst (v := 0) hx hb dL_count_15 (by decide) ?_
  exact mretI hx hb hr hlocks hK hP hD hS rfl hQ dL_count_16
set_option maxHeartbeats 4000000 in
set_option maxRecDepth 100000 in
theorem wx_count (l : Launch) (D : va_G) (cs : xE) (hl0 : l.stackTraces = false) (o_x : Nat) (a_x : Nat → Nat) (a_t : Nat → Nat) (a_h : Nat → Nat) (a_v : Nat → Nat) (a_r : Nat → Nat) (s_x : St) (s_t : St) (s_h : HSt) (s_v : St) (s_r : St) (sz : Nat) (x1 : Int32) (k : Nat) (hf : f10_count s_x s_t s_h s_v s_r x1 = some (.inr k)) (hk : k ≠ 0) (qo : Nat) (fo : Nat → Int64) : Met l yL_count (Cond.codeWith yL_count cL_count 4 (some .int) [(0, 9, 12, 18)] :: WG) { frames := 7, cells := 1, slots := 6, locals := 114 } (va_Pc [.ref o_x, .int x1, .ref qo] (mP D cs (List.flatten [w10 cs o_x a_x s_x, w9 cs (a_x 2) a_t s_t, w3 cs (a_x 3) a_h s_h, w8 cs (a_x 4) a_v s_v, w6 cs (a_x 0) a_r s_r, wO cs qo fo]) sz)) (qI D cs 1 (List.flatten [w10 cs o_x a_x s_x, w9 cs (a_x 2) a_t s_t, w3 cs (a_x 3) a_h s_h, w8 cs (a_x 4) a_v s_v, w6 cs (a_x 0) a_r s_r, wO cs qo fo]) (va_A (List.flatten [w10 cs o_x a_x s_x, w9 cs (a_x 2) a_t s_t, w3 cs (a_x 3) a_h s_h, w8 cs (a_x 4) a_v s_v, w6 cs (a_x 0) a_r s_r, wO cs qo fo]) sz)) 1 6 (va_A (List.flatten [w10 cs o_x a_x s_x, w9 cs (a_x 2) a_t s_t, w3 cs (a_x 3) a_h s_h, w8 cs (a_x 4) a_v s_v, w6 cs (a_x 0) a_r s_r, wO cs qo fo]) sz) := by
  refine mgoW (hh := [(0, 9, 12, 18)]) (Qc := qI D cs 1 (List.flatten [w10 cs o_x a_x s_x, w9 cs (a_x 2) a_t s_t, w3 cs (a_x 3) a_h s_h, w8 cs (a_x 4) a_v s_v, w6 cs (a_x 0) a_r s_r, wO cs qo fo])) (cc := cL_count) (maxL := 4) (ret := some .int) (by decide) rfl (Nat.le_of_ble_eq_true rfl) ?_
  intro p e s m below meth c ls A R Q args H hR hQ hx hb hml hr hlocks htab hown hts hP hK hD hA hS hG hl
  subst hR
  have hown : s.vm.findClass RL = some m.cls := hown
  have hl : lv_has ls 4 [(0, .ref o_x), (1, .int x1), (2, .ref qo)] := hl
  have hW : ∀ w ∈ WG, w.before args s = true := fun w h => hts w (List.mem_cons_of_mem _ h)
  refine lv_aload_n hx hb dL_count_0 rfl (lv_at hl 2 rfl) ?_
  refine lv_iconst (v := 0) hx hb dL_count_1 (by decide) ?_
  refine lv_aload_n hx hb dL_count_2 rfl (lv_at hl 0 rfl) ?_
  refine lv_iload_n hx hb dL_count_3 rfl (lv_at hl 1 rfl) ?_
  refine mxCV (k := k) (rest := [.int 0, .ref qo]) (isR := [5]) (isC := [0, 1, 2, 3, 4]) (i0 := 0) ⟨hx, hb, hml, hown, hts⟩ hK hP hD hS hA hG (c10x_count l D cs hl0 o_x a_x a_t a_h a_v a_r s_x s_t s_h s_v s_r H.size x1 k hf) (cwV 1 hts (gV wd877 wd878 wd879 wd105 wd880) rfl rfl rfl (by decide +kernel) ⟨(Nat.le_of_ble_eq_true rfl), (Nat.le_of_ble_eq_true rfl)⟩) 6 (by decide) rfl rfl rfl rfl e10 rfl rfl rfl hl.1 rfl (Nat.le_of_ble_eq_true rfl) ⟨(Nat.le_of_ble_eq_true rfl), (Nat.le_of_ble_eq_true rfl)⟩ dL_count_4 (fun ce q9 H locs hP hD hS h1 h2 h3 => ?_)
  refine cTN (hi := 9) (hp := 12) (suf := []) hown hW hG htab (by decide) hk h1 h2 h3 ?_
  refine lv_astore_n (lv' := [(3, .ref q9), (0, .ref o_x), (1, .int x1), (2, .ref qo)]) hx hb dL_count_12 rfl hl (by decide) rfl (fun ls hl => ?_)
  refine lv_iconst (v := 1) hx hb dL_count_13 (by decide) ?_
  exact mretI hx hb hr hlocks hK hP hD hS rfl hQ dL_count_14
set_option maxHeartbeats 4000000 in
set_option maxRecDepth 100000 in
theorem wl_house (l : Launch) (D : va_G) (cs : xE) (o_x : Nat) (a_x : Nat → Nat) (a_t : Nat → Nat) (s_x : St) (s_t : St) (sz : Nat) (x1 : Int32) (x2 : Int32) (res : Int32) (hf : f10_house s_x s_t x1 x2 = some (.inl res)) (qo : Nat) (fo : Nat → Int64) : Met l yL_house (Cond.codeWith yL_house cL_house 5 (some .int) [(0, 10, 13, 18)] :: WG) { frames := 8, cells := 0, slots := 0, locals := 133 } (va_Pc [.ref o_x, .int x1, .int x2, .ref qo] (mP D cs (List.flatten [w10 cs o_x a_x s_x, w9 cs (a_x 2) a_t s_t, wO cs qo fo]) sz)) (qI D cs 0 (List.flatten [w10 cs o_x a_x s_x, w9 cs (a_x 2) a_t s_t, wO cs qo (up64 fo res.toInt64)]) (va_A (List.flatten [w10 cs o_x a_x s_x, w9 cs (a_x 2) a_t s_t, wO cs qo fo]) sz)) 0 0 (va_A (List.flatten [w10 cs o_x a_x s_x, w9 cs (a_x 2) a_t s_t, wO cs qo fo]) sz) := by
  refine mgoW (hh := [(0, 10, 13, 18)]) (Qc := qI D cs 0 (List.flatten [w10 cs o_x a_x s_x, w9 cs (a_x 2) a_t s_t, wO cs qo (up64 fo res.toInt64)])) (cc := cL_house) (maxL := 5) (ret := some .int) (by decide) rfl (Nat.le_of_ble_eq_true rfl) ?_
  intro p e s m below meth c ls A R Q args H hR hQ hx hb hml hr hlocks htab hown hts hP hK hD hA hS hG hl
  subst hR
  have hown : s.vm.findClass RL = some m.cls := hown
  have hl : lv_has ls 5 [(0, .ref o_x), (1, .int x1), (2, .int x2), (3, .ref qo)] := hl
  have hW : ∀ w ∈ WG, w.before args s = true := fun w h => hts w (List.mem_cons_of_mem _ h)
  refine lv_aload_n hx hb dL_house_0 rfl (lv_at hl 3 rfl) ?_
  refine lv_iconst (v := 0) hx hb dL_house_1 (by decide) ?_
  refine lv_aload_n hx hb dL_house_2 rfl (lv_at hl 0 rfl) ?_
  refine lv_iload_n hx hb dL_house_3 rfl (lv_at hl 1 rfl) ?_
  refine lv_iload_n hx hb dL_house_4 rfl (lv_at hl 2 rfl) ?_
  refine mcVi (v := res) (rest := [.int 0, .ref qo]) (Bn := [w10 cs o_x a_x s_x, w9 cs (a_x 2) a_t s_t, wO cs qo fo]) (isR := [2]) (isC := [0, 1]) (i0 := 0) ⟨hx, hb, hml, hown, hts⟩ hK hP hD hS hA hG (c10_house l D cs o_x a_x a_t s_x s_t H.size x1 x2 _ hf) (cwV 2 hts (gV wd933 wd934 wd935 wd105 wd936) rfl rfl rfl (by decide +kernel) ⟨(Nat.le_of_ble_eq_true rfl), (Nat.le_of_ble_eq_true rfl)⟩) 3 (by decide) rfl rfl rfl rfl rfl rfl rfl e10 rfl rfl rfl hl.1 rfl (Nat.le_of_ble_eq_true rfl) ⟨Nat.zero_le _, Nat.zero_le _⟩ dL_house_5 (fun H locs hP hD hS => ?_)
  refine lv_i2l hx hb dL_house_8 rfl ?_
  refine lsO (i0 := 2) (q := qo) (f := fo) hx hb hK hP hD hS rfl dL_house_9 rfl (fun H locs hP hD hS => ?_)
  refine lv_goto (tgt := 17) hx hb dL_house_10 (by decide) ?_
  refine lv_iconst (v := 0) hx hb dL_house_17 (by decide) ?_
  exact mretI hx hb hr hlocks hK hP hD hS rfl hQ dL_house_18
set_option maxHeartbeats 4000000 in
set_option maxRecDepth 100000 in
theorem wx_house (l : Launch) (D : va_G) (cs : xE) (hl0 : l.stackTraces = false) (o_x : Nat) (a_x : Nat → Nat) (a_t : Nat → Nat) (s_x : St) (s_t : St) (sz : Nat) (x1 : Int32) (x2 : Int32) (k : Nat) (hf : f10_house s_x s_t x1 x2 = some (.inr k)) (hk : k ≠ 0) (qo : Nat) (fo : Nat → Int64) : Met l yL_house (Cond.codeWith yL_house cL_house 5 (some .int) [(0, 10, 13, 18)] :: WG) { frames := 8, cells := 1, slots := 6, locals := 133 } (va_Pc [.ref o_x, .int x1, .int x2, .ref qo] (mP D cs (List.flatten [w10 cs o_x a_x s_x, w9 cs (a_x 2) a_t s_t, wO cs qo fo]) sz)) (qI D cs 1 (List.flatten [w10 cs o_x a_x s_x, w9 cs (a_x 2) a_t s_t, wO cs qo fo]) (va_A (List.flatten [w10 cs o_x a_x s_x, w9 cs (a_x 2) a_t s_t, wO cs qo fo]) sz)) 1 6 (va_A (List.flatten [w10 cs o_x a_x s_x, w9 cs (a_x 2) a_t s_t, wO cs qo fo]) sz) := by
  refine mgoW (hh := [(0, 10, 13, 18)]) (Qc := qI D cs 1 (List.flatten [w10 cs o_x a_x s_x, w9 cs (a_x 2) a_t s_t, wO cs qo fo])) (cc := cL_house) (maxL := 5) (ret := some .int) (by decide) rfl (Nat.le_of_ble_eq_true rfl) ?_
  intro p e s m below meth c ls A R Q args H hR hQ hx hb hml hr hlocks htab hown hts hP hK hD hA hS hG hl
  subst hR
  have hown : s.vm.findClass RL = some m.cls := hown
  have hl : lv_has ls 5 [(0, .ref o_x), (1, .int x1), (2, .int x2), (3, .ref qo)] := hl
  have hW : ∀ w ∈ WG, w.before args s = true := fun w h => hts w (List.mem_cons_of_mem _ h)
  refine lv_aload_n hx hb dL_house_0 rfl (lv_at hl 3 rfl) ?_
  refine lv_iconst (v := 0) hx hb dL_house_1 (by decide) ?_
  refine lv_aload_n hx hb dL_house_2 rfl (lv_at hl 0 rfl) ?_
  refine lv_iload_n hx hb dL_house_3 rfl (lv_at hl 1 rfl) ?_
  refine lv_iload_n hx hb dL_house_4 rfl (lv_at hl 2 rfl) ?_
  refine mxCV (k := k) (rest := [.int 0, .ref qo]) (isR := [2]) (isC := [0, 1]) (i0 := 0) ⟨hx, hb, hml, hown, hts⟩ hK hP hD hS hA hG (c10x_house l D cs hl0 o_x a_x a_t s_x s_t H.size x1 x2 k hf) (cwV 2 hts (gV wd933 wd934 wd935 wd105 wd936) rfl rfl rfl (by decide +kernel) ⟨(Nat.le_of_ble_eq_true rfl), (Nat.le_of_ble_eq_true rfl)⟩) 3 (by decide) rfl rfl rfl rfl e10 rfl rfl rfl hl.1 rfl (Nat.le_of_ble_eq_true rfl) ⟨(Nat.le_of_ble_eq_true rfl), (Nat.le_of_ble_eq_true rfl)⟩ dL_house_5 (fun ce q9 H locs hP hD hS h1 h2 h3 => ?_)
  refine cTN (hi := 10) (hp := 13) (suf := []) hown hW hG htab (by decide) hk h1 h2 h3 ?_
  refine lv_astore (lv' := [(4, .ref q9), (0, .ref o_x), (1, .int x1), (2, .int x2), (3, .ref qo)]) hx hb dL_house_13 hl (by decide) rfl (fun ls hl => ?_)
  refine lv_iconst (v := 1) hx hb dL_house_15 (by decide) ?_
  exact mretI hx hb hr hlocks hK hP hD hS rfl hQ dL_house_16
set_option maxHeartbeats 4000000 in
set_option maxRecDepth 100000 in
theorem wl_lamp (l : Launch) (D : va_G) (cs : xE) (o_x : Nat) (a_x : Nat → Nat) (a_t : Nat → Nat) (a_g : Nat → Nat) (s_x : St) (s_t : St) (s_g : St) (sz : Nat) (x1 : Int32) (x2 : Int32) (res : Int32 × St) (hf : f10_lamp s_x s_t s_g x1 x2 = some (.inl res)) (qo : Nat) (fo : Nat → Int64) : Met l yL_lamp (Cond.codeWith yL_lamp cL_lamp 5 (some .int) [(0, 10, 13, 18)] :: WG) { frames := 8, cells := 0, slots := 0, locals := 133 } (va_Pc [.ref o_x, .int x1, .int x2, .ref qo] (mP D cs (List.flatten [w10 cs o_x a_x s_x, w9 cs (a_x 2) a_t s_t, w7 cs (a_x 1) a_g s_g, wO cs qo fo]) sz)) (qI D cs 0 (List.flatten [w10 cs o_x a_x s_x, w9 cs (a_x 2) a_t s_t, w7 cs (a_x 1) a_g res.2, wO cs qo (up64 fo res.1.toInt64)]) (va_A (List.flatten [w10 cs o_x a_x s_x, w9 cs (a_x 2) a_t s_t, w7 cs (a_x 1) a_g s_g, wO cs qo fo]) sz)) 0 0 (va_A (List.flatten [w10 cs o_x a_x s_x, w9 cs (a_x 2) a_t s_t, w7 cs (a_x 1) a_g s_g, wO cs qo fo]) sz) := by
  refine mgoW (hh := [(0, 10, 13, 18)]) (Qc := qI D cs 0 (List.flatten [w10 cs o_x a_x s_x, w9 cs (a_x 2) a_t s_t, w7 cs (a_x 1) a_g res.2, wO cs qo (up64 fo res.1.toInt64)])) (cc := cL_lamp) (maxL := 5) (ret := some .int) (by decide) rfl (Nat.le_of_ble_eq_true rfl) ?_
  intro p e s m below meth c ls A R Q args H hR hQ hx hb hml hr hlocks htab hown hts hP hK hD hA hS hG hl
  subst hR
  have hown : s.vm.findClass RL = some m.cls := hown
  have hl : lv_has ls 5 [(0, .ref o_x), (1, .int x1), (2, .int x2), (3, .ref qo)] := hl
  have hW : ∀ w ∈ WG, w.before args s = true := fun w h => hts w (List.mem_cons_of_mem _ h)
  refine lv_aload_n hx hb dL_lamp_0 rfl (lv_at hl 3 rfl) ?_
  refine lv_iconst (v := 0) hx hb dL_lamp_1 (by decide) ?_
  refine lv_aload_n hx hb dL_lamp_2 rfl (lv_at hl 0 rfl) ?_
  refine lv_iload_n hx hb dL_lamp_3 rfl (lv_at hl 1 rfl) ?_
  refine lv_iload_n hx hb dL_lamp_4 rfl (lv_at hl 2 rfl) ?_
  refine mcVi (v := res.1) (rest := [.int 0, .ref qo]) (Bn := [w10 cs o_x a_x s_x, w9 cs (a_x 2) a_t s_t, w7 cs (a_x 1) a_g res.2, wO cs qo fo]) (isR := [3]) (isC := [0, 1, 2]) (i0 := 0) ⟨hx, hb, hml, hown, hts⟩ hK hP hD hS hA hG (c10_lamp l D cs o_x a_x a_t a_g s_x s_t s_g H.size x1 x2 _ hf) (cwV 2 hts (gV wd948 wd949 wd950 wd105 wd951) rfl rfl rfl (by decide +kernel) ⟨(Nat.le_of_ble_eq_true rfl), (Nat.le_of_ble_eq_true rfl)⟩) 4 (by decide) rfl rfl rfl rfl rfl rfl rfl e10 rfl rfl rfl hl.1 rfl (Nat.le_of_ble_eq_true rfl) ⟨Nat.zero_le _, Nat.zero_le _⟩ dL_lamp_5 (fun H locs hP hD hS => ?_)
  refine lv_i2l hx hb dL_lamp_8 rfl ?_
  refine lsO (i0 := 3) (q := qo) (f := fo) hx hb hK hP hD hS rfl dL_lamp_9 rfl (fun H locs hP hD hS => ?_)
  refine lv_goto (tgt := 17) hx hb dL_lamp_10 (by decide) ?_
  refine lv_iconst (v := 0) hx hb dL_lamp_17 (by decide) ?_
  exact mretI hx hb hr hlocks hK hP hD hS rfl hQ dL_lamp_18
set_option maxHeartbeats 4000000 in
set_option maxRecDepth 100000 in
theorem wx_lamp (l : Launch) (D : va_G) (cs : xE) (hl0 : l.stackTraces = false) (o_x : Nat) (a_x : Nat → Nat) (a_t : Nat → Nat) (a_g : Nat → Nat) (s_x : St) (s_t : St) (s_g : St) (sz : Nat) (x1 : Int32) (x2 : Int32) (k : Nat) (hf : f10_lamp s_x s_t s_g x1 x2 = some (.inr k)) (hk : k ≠ 0) (qo : Nat) (fo : Nat → Int64) : Met l yL_lamp (Cond.codeWith yL_lamp cL_lamp 5 (some .int) [(0, 10, 13, 18)] :: WG) { frames := 8, cells := 1, slots := 6, locals := 133 } (va_Pc [.ref o_x, .int x1, .int x2, .ref qo] (mP D cs (List.flatten [w10 cs o_x a_x s_x, w9 cs (a_x 2) a_t s_t, w7 cs (a_x 1) a_g s_g, wO cs qo fo]) sz)) (qI D cs 1 (List.flatten [w10 cs o_x a_x s_x, w9 cs (a_x 2) a_t s_t, w7 cs (a_x 1) a_g s_g, wO cs qo fo]) (va_A (List.flatten [w10 cs o_x a_x s_x, w9 cs (a_x 2) a_t s_t, w7 cs (a_x 1) a_g s_g, wO cs qo fo]) sz)) 1 6 (va_A (List.flatten [w10 cs o_x a_x s_x, w9 cs (a_x 2) a_t s_t, w7 cs (a_x 1) a_g s_g, wO cs qo fo]) sz) := by
  refine mgoW (hh := [(0, 10, 13, 18)]) (Qc := qI D cs 1 (List.flatten [w10 cs o_x a_x s_x, w9 cs (a_x 2) a_t s_t, w7 cs (a_x 1) a_g s_g, wO cs qo fo])) (cc := cL_lamp) (maxL := 5) (ret := some .int) (by decide) rfl (Nat.le_of_ble_eq_true rfl) ?_
  intro p e s m below meth c ls A R Q args H hR hQ hx hb hml hr hlocks htab hown hts hP hK hD hA hS hG hl
  subst hR
  have hown : s.vm.findClass RL = some m.cls := hown
  have hl : lv_has ls 5 [(0, .ref o_x), (1, .int x1), (2, .int x2), (3, .ref qo)] := hl
  have hW : ∀ w ∈ WG, w.before args s = true := fun w h => hts w (List.mem_cons_of_mem _ h)
  refine lv_aload_n hx hb dL_lamp_0 rfl (lv_at hl 3 rfl) ?_
  refine lv_iconst (v := 0) hx hb dL_lamp_1 (by decide) ?_
  refine lv_aload_n hx hb dL_lamp_2 rfl (lv_at hl 0 rfl) ?_
  refine lv_iload_n hx hb dL_lamp_3 rfl (lv_at hl 1 rfl) ?_
  refine lv_iload_n hx hb dL_lamp_4 rfl (lv_at hl 2 rfl) ?_
  refine mxCV (k := k) (rest := [.int 0, .ref qo]) (isR := [3]) (isC := [0, 1, 2]) (i0 := 0) ⟨hx, hb, hml, hown, hts⟩ hK hP hD hS hA hG (c10x_lamp l D cs hl0 o_x a_x a_t a_g s_x s_t s_g H.size x1 x2 k hf) (cwV 2 hts (gV wd948 wd949 wd950 wd105 wd951) rfl rfl rfl (by decide +kernel) ⟨(Nat.le_of_ble_eq_true rfl), (Nat.le_of_ble_eq_true rfl)⟩) 4 (by decide) rfl rfl rfl rfl e10 rfl rfl rfl hl.1 rfl (Nat.le_of_ble_eq_true rfl) ⟨(Nat.le_of_ble_eq_true rfl), (Nat.le_of_ble_eq_true rfl)⟩ dL_lamp_5 (fun ce q9 H locs hP hD hS h1 h2 h3 => ?_)
  refine cTN (hi := 10) (hp := 13) (suf := []) hown hW hG htab (by decide) hk h1 h2 h3 ?_
  refine lv_astore (lv' := [(4, .ref q9), (0, .ref o_x), (1, .int x1), (2, .int x2), (3, .ref qo)]) hx hb dL_lamp_13 hl (by decide) rfl (fun ls hl => ?_)
  refine lv_iconst (v := 1) hx hb dL_lamp_15 (by decide) ?_
  exact mretI hx hb hr hlocks hK hP hD hS rfl hQ dL_lamp_16
set_option maxHeartbeats 4000000 in
set_option maxRecDepth 100000 in
theorem wl_flick (l : Launch) (D : va_G) (cs : xE) (o_x : Nat) (a_x : Nat → Nat) (a_t : Nat → Nat) (a_h : Nat → Nat) (s_x : St) (s_t : St) (s_h : HSt) (sz : Nat) (x1 : Int32) (res : Int32 × St × St × HSt) (hf : f10_flick s_x s_t s_h x1 = some (.inl res)) (qo : Nat) (fo : Nat → Int64) : Met l yL_flick (Cond.codeWith yL_flick cL_flick 4 (some .int) [(0, 9, 12, 18)] :: WG) { frames := 8, cells := 0, slots := 0, locals := 132 } (va_Pc [.ref o_x, .int x1, .ref qo] (mP D cs (List.flatten [w10 cs o_x a_x s_x, w9 cs (a_x 2) a_t s_t, w3 cs (a_x 3) a_h s_h, wO cs qo fo]) sz)) (qI D cs 0 (List.flatten [w10 cs o_x a_x res.2.1, w9 cs (a_x 2) a_t res.2.2.1, w3 cs (a_x 3) a_h res.2.2.2, wO cs qo (up64 fo res.1.toInt64)]) (va_A (List.flatten [w10 cs o_x a_x s_x, w9 cs (a_x 2) a_t s_t, w3 cs (a_x 3) a_h s_h, wO cs qo fo]) sz)) 0 0 (va_A (List.flatten [w10 cs o_x a_x s_x, w9 cs (a_x 2) a_t s_t, w3 cs (a_x 3) a_h s_h, wO cs qo fo]) sz) := by
  refine mgoW (hh := [(0, 9, 12, 18)]) (Qc := qI D cs 0 (List.flatten [w10 cs o_x a_x res.2.1, w9 cs (a_x 2) a_t res.2.2.1, w3 cs (a_x 3) a_h res.2.2.2, wO cs qo (up64 fo res.1.toInt64)])) (cc := cL_flick) (maxL := 4) (ret := some .int) (by decide) rfl (Nat.le_of_ble_eq_true rfl) ?_
  intro p e s m below meth c ls A R Q args H hR hQ hx hb hml hr hlocks htab hown hts hP hK hD hA hS hG hl
  subst hR
  have hown : s.vm.findClass RL = some m.cls := hown
  have hl : lv_has ls 4 [(0, .ref o_x), (1, .int x1), (2, .ref qo)] := hl
  have hW : ∀ w ∈ WG, w.before args s = true := fun w h => hts w (List.mem_cons_of_mem _ h)
  refine lv_aload_n hx hb dL_flick_0 rfl (lv_at hl 2 rfl) ?_
  refine lv_iconst (v := 0) hx hb dL_flick_1 (by decide) ?_
  refine lv_aload_n hx hb dL_flick_2 rfl (lv_at hl 0 rfl) ?_
  refine lv_iload_n hx hb dL_flick_3 rfl (lv_at hl 1 rfl) ?_
  refine mcVi (v := res.1) (rest := [.int 0, .ref qo]) (Bn := [w10 cs o_x a_x res.2.1, w9 cs (a_x 2) a_t res.2.2.1, w3 cs (a_x 3) a_h res.2.2.2, wO cs qo fo]) (isR := [3]) (isC := [0, 1, 2]) (i0 := 0) ⟨hx, hb, hml, hown, hts⟩ hK hP hD hS hA hG (c10_flick l D cs o_x a_x a_t a_h s_x s_t s_h H.size x1 _ hf) (cwV 1 hts (gV wd972 wd973 wd974 wd105 wd975) rfl rfl rfl (by decide +kernel) ⟨(Nat.le_of_ble_eq_true rfl), (Nat.le_of_ble_eq_true rfl)⟩) 4 (by decide) rfl rfl rfl rfl rfl rfl rfl e10 rfl rfl rfl hl.1 rfl (Nat.le_of_ble_eq_true rfl) ⟨Nat.zero_le _, Nat.zero_le _⟩ dL_flick_4 (fun H locs hP hD hS => ?_)
  refine lv_i2l hx hb dL_flick_7 rfl ?_
  refine lsO (i0 := 3) (q := qo) (f := fo) hx hb hK hP hD hS rfl dL_flick_8 rfl (fun H locs hP hD hS => ?_)
  refine lv_goto (tgt := 15) hx hb dL_flick_9 (by decide) ?_
  refine lv_iconst (v := 0) hx hb dL_flick_15 (by decide) ?_
  exact mretI hx hb hr hlocks hK hP hD hS rfl hQ dL_flick_16
set_option maxHeartbeats 4000000 in
set_option maxRecDepth 100000 in
theorem wx_flick (l : Launch) (D : va_G) (cs : xE) (hl0 : l.stackTraces = false) (o_x : Nat) (a_x : Nat → Nat) (a_t : Nat → Nat) (a_h : Nat → Nat) (s_x : St) (s_t : St) (s_h : HSt) (sz : Nat) (x1 : Int32) (k : Nat) (hf : f10_flick s_x s_t s_h x1 = some (.inr k)) (hk : k ≠ 0) (qo : Nat) (fo : Nat → Int64) : Met l yL_flick (Cond.codeWith yL_flick cL_flick 4 (some .int) [(0, 9, 12, 18)] :: WG) { frames := 8, cells := 1, slots := 6, locals := 132 } (va_Pc [.ref o_x, .int x1, .ref qo] (mP D cs (List.flatten [w10 cs o_x a_x s_x, w9 cs (a_x 2) a_t s_t, w3 cs (a_x 3) a_h s_h, wO cs qo fo]) sz)) (qI D cs 1 (List.flatten [w10 cs o_x a_x s_x, w9 cs (a_x 2) a_t s_t, w3 cs (a_x 3) a_h s_h, wO cs qo fo]) (va_A (List.flatten [w10 cs o_x a_x s_x, w9 cs (a_x 2) a_t s_t, w3 cs (a_x 3) a_h s_h, wO cs qo fo]) sz)) 1 6 (va_A (List.flatten [w10 cs o_x a_x s_x, w9 cs (a_x 2) a_t s_t, w3 cs (a_x 3) a_h s_h, wO cs qo fo]) sz) := by
  refine mgoW (hh := [(0, 9, 12, 18)]) (Qc := qI D cs 1 (List.flatten [w10 cs o_x a_x s_x, w9 cs (a_x 2) a_t s_t, w3 cs (a_x 3) a_h s_h, wO cs qo fo])) (cc := cL_flick) (maxL := 4) (ret := some .int) (by decide) rfl (Nat.le_of_ble_eq_true rfl) ?_
  intro p e s m below meth c ls A R Q args H hR hQ hx hb hml hr hlocks htab hown hts hP hK hD hA hS hG hl
  subst hR
  have hown : s.vm.findClass RL = some m.cls := hown
  have hl : lv_has ls 4 [(0, .ref o_x), (1, .int x1), (2, .ref qo)] := hl
  have hW : ∀ w ∈ WG, w.before args s = true := fun w h => hts w (List.mem_cons_of_mem _ h)
  refine lv_aload_n hx hb dL_flick_0 rfl (lv_at hl 2 rfl) ?_
  refine lv_iconst (v := 0) hx hb dL_flick_1 (by decide) ?_
  refine lv_aload_n hx hb dL_flick_2 rfl (lv_at hl 0 rfl) ?_
  refine lv_iload_n hx hb dL_flick_3 rfl (lv_at hl 1 rfl) ?_
  refine mxCV (k := k) (rest := [.int 0, .ref qo]) (isR := [3]) (isC := [0, 1, 2]) (i0 := 0) ⟨hx, hb, hml, hown, hts⟩ hK hP hD hS hA hG (c10x_flick l D cs hl0 o_x a_x a_t a_h s_x s_t s_h H.size x1 k hf) (cwV 1 hts (gV wd972 wd973 wd974 wd105 wd975) rfl rfl rfl (by decide +kernel) ⟨(Nat.le_of_ble_eq_true rfl), (Nat.le_of_ble_eq_true rfl)⟩) 4 (by decide) rfl rfl rfl rfl e10 rfl rfl rfl hl.1 rfl (Nat.le_of_ble_eq_true rfl) ⟨(Nat.le_of_ble_eq_true rfl), (Nat.le_of_ble_eq_true rfl)⟩ dL_flick_4 (fun ce q9 H locs hP hD hS h1 h2 h3 => ?_)
  refine cTN (hi := 9) (hp := 12) (suf := []) hown hW hG htab (by decide) hk h1 h2 h3 ?_
  refine lv_astore_n (lv' := [(3, .ref q9), (0, .ref o_x), (1, .int x1), (2, .ref qo)]) hx hb dL_flick_12 rfl hl (by decide) rfl (fun ls hl => ?_)
  refine lv_iconst (v := 1) hx hb dL_flick_13 (by decide) ?_
  exact mretI hx hb hr hlocks hK hP hD hS rfl hQ dL_flick_14
set_option maxHeartbeats 4000000 in
set_option maxRecDepth 100000 in
theorem wl_trim (l : Launch) (D : va_G) (cs : xE) (o_x : Nat) (a_x : Nat → Nat) (a_t : Nat → Nat) (a_h : Nat → Nat) (s_x : St) (s_t : St) (s_h : HSt) (sz : Nat) (x1 : Int32) (x2 : Int32) (res : Int32 × St × St × HSt) (hf : f10_trim s_x s_t s_h x1 x2 = some (.inl res)) (qo : Nat) (fo : Nat → Int64) : Met l yL_trim (Cond.codeWith yL_trim cL_trim 5 (some .int) [(0, 10, 13, 18)] :: WG) { frames := 8, cells := 0, slots := 0, locals := 134 } (va_Pc [.ref o_x, .int x1, .int x2, .ref qo] (mP D cs (List.flatten [w10 cs o_x a_x s_x, w9 cs (a_x 2) a_t s_t, w3 cs (a_x 3) a_h s_h, wO cs qo fo]) sz)) (qI D cs 0 (List.flatten [w10 cs o_x a_x res.2.1, w9 cs (a_x 2) a_t res.2.2.1, w3 cs (a_x 3) a_h res.2.2.2, wO cs qo (up64 fo res.1.toInt64)]) (va_A (List.flatten [w10 cs o_x a_x s_x, w9 cs (a_x 2) a_t s_t, w3 cs (a_x 3) a_h s_h, wO cs qo fo]) sz)) 0 0 (va_A (List.flatten [w10 cs o_x a_x s_x, w9 cs (a_x 2) a_t s_t, w3 cs (a_x 3) a_h s_h, wO cs qo fo]) sz) := by
  refine mgoW (hh := [(0, 10, 13, 18)]) (Qc := qI D cs 0 (List.flatten [w10 cs o_x a_x res.2.1, w9 cs (a_x 2) a_t res.2.2.1, w3 cs (a_x 3) a_h res.2.2.2, wO cs qo (up64 fo res.1.toInt64)])) (cc := cL_trim) (maxL := 5) (ret := some .int) (by decide) rfl (Nat.le_of_ble_eq_true rfl) ?_
  intro p e s m below meth c ls A R Q args H hR hQ hx hb hml hr hlocks htab hown hts hP hK hD hA hS hG hl
  subst hR
  have hown : s.vm.findClass RL = some m.cls := hown
  have hl : lv_has ls 5 [(0, .ref o_x), (1, .int x1), (2, .int x2), (3, .ref qo)] := hl
  have hW : ∀ w ∈ WG, w.before args s = true := fun w h => hts w (List.mem_cons_of_mem _ h)
  refine lv_aload_n hx hb dL_trim_0 rfl (lv_at hl 3 rfl) ?_
  refine lv_iconst (v := 0) hx hb dL_trim_1 (by decide) ?_
  refine lv_aload_n hx hb dL_trim_2 rfl (lv_at hl 0 rfl) ?_
  refine lv_iload_n hx hb dL_trim_3 rfl (lv_at hl 1 rfl) ?_
  refine lv_iload_n hx hb dL_trim_4 rfl (lv_at hl 2 rfl) ?_
  refine mcVi (v := res.1) (rest := [.int 0, .ref qo]) (Bn := [w10 cs o_x a_x res.2.1, w9 cs (a_x 2) a_t res.2.2.1, w3 cs (a_x 3) a_h res.2.2.2, wO cs qo fo]) (isR := [3]) (isC := [0, 1, 2]) (i0 := 0) ⟨hx, hb, hml, hown, hts⟩ hK hP hD hS hA hG (c10_trim l D cs o_x a_x a_t a_h s_x s_t s_h H.size x1 x2 _ hf) (cwV 2 hts (gV wd988 wd989 wd990 wd105 wd991) rfl rfl rfl (by decide +kernel) ⟨(Nat.le_of_ble_eq_true rfl), (Nat.le_of_ble_eq_true rfl)⟩) 4 (by decide) rfl rfl rfl rfl rfl rfl rfl e10 rfl rfl rfl hl.1 rfl (Nat.le_of_ble_eq_true rfl) ⟨Nat.zero_le _, Nat.zero_le _⟩ dL_trim_5 (fun H locs hP hD hS => ?_)
  refine lv_i2l hx hb dL_trim_8 rfl ?_
  refine lsO (i0 := 3) (q := qo) (f := fo) hx hb hK hP hD hS rfl dL_trim_9 rfl (fun H locs hP hD hS => ?_)
  refine lv_goto (tgt := 17) hx hb dL_trim_10 (by decide) ?_
  refine lv_iconst (v := 0) hx hb dL_trim_17 (by decide) ?_
  exact mretI hx hb hr hlocks hK hP hD hS rfl hQ dL_trim_18
set_option maxHeartbeats 4000000 in
set_option maxRecDepth 100000 in
theorem wx_trim (l : Launch) (D : va_G) (cs : xE) (hl0 : l.stackTraces = false) (o_x : Nat) (a_x : Nat → Nat) (a_t : Nat → Nat) (a_h : Nat → Nat) (s_x : St) (s_t : St) (s_h : HSt) (sz : Nat) (x1 : Int32) (x2 : Int32) (k : Nat) (hf : f10_trim s_x s_t s_h x1 x2 = some (.inr k)) (hk : k ≠ 0) (qo : Nat) (fo : Nat → Int64) : Met l yL_trim (Cond.codeWith yL_trim cL_trim 5 (some .int) [(0, 10, 13, 18)] :: WG) { frames := 8, cells := 1, slots := 6, locals := 134 } (va_Pc [.ref o_x, .int x1, .int x2, .ref qo] (mP D cs (List.flatten [w10 cs o_x a_x s_x, w9 cs (a_x 2) a_t s_t, w3 cs (a_x 3) a_h s_h, wO cs qo fo]) sz)) (qI D cs 1 (List.flatten [w10 cs o_x a_x s_x, w9 cs (a_x 2) a_t s_t, w3 cs (a_x 3) a_h s_h, wO cs qo fo]) (va_A (List.flatten [w10 cs o_x a_x s_x, w9 cs (a_x 2) a_t s_t, w3 cs (a_x 3) a_h s_h, wO cs qo fo]) sz)) 1 6 (va_A (List.flatten [w10 cs o_x a_x s_x, w9 cs (a_x 2) a_t s_t, w3 cs (a_x 3) a_h s_h, wO cs qo fo]) sz) := by
  refine mgoW (hh := [(0, 10, 13, 18)]) (Qc := qI D cs 1 (List.flatten [w10 cs o_x a_x s_x, w9 cs (a_x 2) a_t s_t, w3 cs (a_x 3) a_h s_h, wO cs qo fo])) (cc := cL_trim) (maxL := 5) (ret := some .int) (by decide) rfl (Nat.le_of_ble_eq_true rfl) ?_
  intro p e s m below meth c ls A R Q args H hR hQ hx hb hml hr hlocks htab hown hts hP hK hD hA hS hG hl
  subst hR
  have hown : s.vm.findClass RL = some m.cls := hown
  have hl : lv_has ls 5 [(0, .ref o_x), (1, .int x1), (2, .int x2), (3, .ref qo)] := hl
  have hW : ∀ w ∈ WG, w.before args s = true := fun w h => hts w (List.mem_cons_of_mem _ h)
  refine lv_aload_n hx hb dL_trim_0 rfl (lv_at hl 3 rfl) ?_
  refine lv_iconst (v := 0) hx hb dL_trim_1 (by decide) ?_
  refine lv_aload_n hx hb dL_trim_2 rfl (lv_at hl 0 rfl) ?_
  refine lv_iload_n hx hb dL_trim_3 rfl (lv_at hl 1 rfl) ?_
  refine lv_iload_n hx hb dL_trim_4 rfl (lv_at hl 2 rfl) ?_
  refine mxCV (k := k) (rest := [.int 0, .ref qo]) (isR := [3]) (isC := [0, 1, 2]) (i0 := 0) ⟨hx, hb, hml, hown, hts⟩ hK hP hD hS hA hG (c10x_trim l D cs hl0 o_x a_x a_t a_h s_x s_t s_h H.size x1 x2 k hf) (cwV 2 hts (gV wd988 wd989 wd990 wd105 wd991) rfl rfl rfl (by decide +kernel) ⟨(Nat.le_of_ble_eq_true rfl), (Nat.le_of_ble_eq_true rfl)⟩) 4 (by decide) rfl rfl rfl rfl e10 rfl rfl rfl hl.1 rfl (Nat.le_of_ble_eq_true rfl) ⟨(Nat.le_of_ble_eq_true rfl), (Nat.le_of_ble_eq_true rfl)⟩ dL_trim_5 (fun ce q9 H locs hP hD hS h1 h2 h3 => ?_)
  refine cTN (hi := 10) (hp := 13) (suf := []) hown hW hG htab (by decide) hk h1 h2 h3 ?_
  refine lv_astore (lv' := [(4, .ref q9), (0, .ref o_x), (1, .int x1), (2, .int x2), (3, .ref qo)]) hx hb dL_trim_13 hl (by decide) rfl (fun ls hl => ?_)
  refine lv_iconst (v := 1) hx hb dL_trim_15 (by decide) ?_
  exact mretI hx hb hr hlocks hK hP hD hS rfl hQ dL_trim_16
set_option maxHeartbeats 4000000 in
set_option maxRecDepth 100000 in
theorem wl_breaks (l : Launch) (D : va_G) (cs : xE) (o_x : Nat) (a_x : Nat → Nat) (a_t : Nat → Nat) (a_h : Nat → Nat) (s_x : St) (s_t : St) (s_h : HSt) (sz : Nat) (x1 : Int32) (res : Bool × St × St × HSt) (hf : f10_breaks s_x s_t s_h x1 = some (.inl res)) (qo : Nat) (fo : Nat → Int64) : Met l yL_breaks (Cond.codeWith yL_breaks cL_breaks 4 (some .int) [(0, 16, 19, 18)] :: WG) { frames := 8, cells := 0, slots := 0, locals := 132 } (va_Pc [.ref o_x, .int x1, .ref qo] (mP D cs (List.flatten [w10 cs o_x a_x s_x, w9 cs (a_x 2) a_t s_t, w3 cs (a_x 3) a_h s_h, wO cs qo fo]) sz)) (qI D cs 0 (List.flatten [w10 cs o_x a_x res.2.1, w9 cs (a_x 2) a_t res.2.2.1, w3 cs (a_x 3) a_h res.2.2.2, wO cs qo (up64 fo (if res.1 = true then 1 else 0))]) (va_A (List.flatten [w10 cs o_x a_x s_x, w9 cs (a_x 2) a_t s_t, w3 cs (a_x 3) a_h s_h, wO cs qo fo]) sz)) 0 0 (va_A (List.flatten [w10 cs o_x a_x s_x, w9 cs (a_x 2) a_t s_t, w3 cs (a_x 3) a_h s_h, wO cs qo fo]) sz) := by
  refine mgoW (hh := [(0, 16, 19, 18)]) (Qc := qI D cs 0 (List.flatten [w10 cs o_x a_x res.2.1, w9 cs (a_x 2) a_t res.2.2.1, w3 cs (a_x 3) a_h res.2.2.2, wO cs qo (up64 fo (if res.1 = true then 1 else 0))])) (cc := cL_breaks) (maxL := 4) (ret := some .int) (by decide) rfl (Nat.le_of_ble_eq_true rfl) ?_
  intro p e s m below meth c ls A R Q args H hR hQ hx hb hml hr hlocks htab hown hts hP hK hD hA hS hG hl
  subst hR
  have hown : s.vm.findClass RL = some m.cls := hown
  have hl : lv_has ls 4 [(0, .ref o_x), (1, .int x1), (2, .ref qo)] := hl
  have hW : ∀ w ∈ WG, w.before args s = true := fun w h => hts w (List.mem_cons_of_mem _ h)
  refine lv_aload_n hx hb dL_breaks_0 rfl (lv_at hl 2 rfl) ?_
  refine lv_iconst (v := 0) hx hb dL_breaks_1 (by decide) ?_
  refine lv_aload_n hx hb dL_breaks_2 rfl (lv_at hl 0 rfl) ?_
  refine lv_iload_n hx hb dL_breaks_3 rfl (lv_at hl 1 rfl) ?_
  refine mcVi (v := (zB res.1)) (rest := [.int 0, .ref qo]) (Bn := [w10 cs o_x a_x res.2.1, w9 cs (a_x 2) a_t res.2.2.1, w3 cs (a_x 3) a_h res.2.2.2, wO cs qo fo]) (isR := [3]) (isC := [0, 1, 2]) (i0 := 0) ⟨hx, hb, hml, hown, hts⟩ hK hP hD hS hA hG (c10_breaks l D cs o_x a_x a_t a_h s_x s_t s_h H.size x1 _ hf) (cwV 1 hts (gV wd996 wd997 wd998 wd105 wd999) rfl rfl rfl (by decide +kernel) ⟨(Nat.le_of_ble_eq_true rfl), (Nat.le_of_ble_eq_true rfl)⟩) 4 (by decide) rfl rfl rfl rfl rfl rfl rfl e10 rfl rfl rfl hl.1 rfl (Nat.le_of_ble_eq_true rfl) ⟨Nat.zero_le _, Nat.zero_le _⟩ dL_breaks_4 (fun H locs hP hD hS => ?_)
  refine lv_if_eq (tgt := 14) hx hb dL_breaks_7 (by decide) (fun hc => ?_) (fun hc => ?_)
  · refine lv_lconst (v := (if res.1 = true then 1 else 0)) hx hb dL_breaks_14 (by rw [if_neg (fun z => by rw [z] at hc; exact absurd hc (by decide))]; rfl) ?_
    refine lsO (i0 := 3) (q := qo) (f := fo) hx hb hK hP hD hS rfl dL_breaks_15 rfl (fun H locs hP hD hS => ?_)
    refine lv_goto (tgt := 22) hx hb dL_breaks_16 (by decide) ?_
    refine lv_iconst (v := 0) hx hb dL_breaks_22 (by decide) ?_
    exact mretI hx hb hr hlocks hK hP hD hS rfl hQ dL_breaks_23
  · refine lv_lconst (v := (if res.1 = true then 1 else 0)) hx hb dL_breaks_10 (by rw [if_pos (Classical.byContradiction fun z => hc (by rw [Bool.not_eq_true] at z; rw [z]; rfl))]; rfl) ?_
    refine lv_goto (tgt := 15) hx hb dL_breaks_11 (by decide) ?_
    refine lsO (i0 := 3) (q := qo) (f := fo) hx hb hK hP hD hS rfl dL_breaks_15 rfl (fun H locs hP hD hS => ?_)
    refine lv_goto (tgt := 22) hx hb dL_breaks_16 (by decide) ?_
    refine lv_iconst (v := 0) hx hb dL_breaks_22 (by decide) ?_
    exact mretI hx hb hr hlocks hK hP hD hS rfl hQ dL_breaks_23
set_option maxHeartbeats 4000000 in
set_option maxRecDepth 100000 in
theorem wx_breaks (l : Launch) (D : va_G) (cs : xE) (hl0 : l.stackTraces = false) (o_x : Nat) (a_x : Nat → Nat) (a_t : Nat → Nat) (a_h : Nat → Nat) (s_x : St) (s_t : St) (s_h : HSt) (sz : Nat) (x1 : Int32) (k : Nat) (hf : f10_breaks s_x s_t s_h x1 = some (.inr k)) (hk : k ≠ 0) (qo : Nat) (fo : Nat → Int64) : Met l yL_breaks (Cond.codeWith yL_breaks cL_breaks 4 (some .int) [(0, 16, 19, 18)] :: WG) { frames := 8, cells := 1, slots := 6, locals := 132 } (va_Pc [.ref o_x, .int x1, .ref qo] (mP D cs (List.flatten [w10 cs o_x a_x s_x, w9 cs (a_x 2) a_t s_t, w3 cs (a_x 3) a_h s_h, wO cs qo fo]) sz)) (qI D cs 1 (List.flatten [w10 cs o_x a_x s_x, w9 cs (a_x 2) a_t s_t, w3 cs (a_x 3) a_h s_h, wO cs qo fo]) (va_A (List.flatten [w10 cs o_x a_x s_x, w9 cs (a_x 2) a_t s_t, w3 cs (a_x 3) a_h s_h, wO cs qo fo]) sz)) 1 6 (va_A (List.flatten [w10 cs o_x a_x s_x, w9 cs (a_x 2) a_t s_t, w3 cs (a_x 3) a_h s_h, wO cs qo fo]) sz) := by
  refine mgoW (hh := [(0, 16, 19, 18)]) (Qc := qI D cs 1 (List.flatten [w10 cs o_x a_x s_x, w9 cs (a_x 2) a_t s_t, w3 cs (a_x 3) a_h s_h, wO cs qo fo])) (cc := cL_breaks) (maxL := 4) (ret := some .int) (by decide) rfl (Nat.le_of_ble_eq_true rfl) ?_
  intro p e s m below meth c ls A R Q args H hR hQ hx hb hml hr hlocks htab hown hts hP hK hD hA hS hG hl
  subst hR
  have hown : s.vm.findClass RL = some m.cls := hown
  have hl : lv_has ls 4 [(0, .ref o_x), (1, .int x1), (2, .ref qo)] := hl
  have hW : ∀ w ∈ WG, w.before args s = true := fun w h => hts w (List.mem_cons_of_mem _ h)
  refine lv_aload_n hx hb dL_breaks_0 rfl (lv_at hl 2 rfl) ?_
  refine lv_iconst (v := 0) hx hb dL_breaks_1 (by decide) ?_
  refine lv_aload_n hx hb dL_breaks_2 rfl (lv_at hl 0 rfl) ?_
  refine lv_iload_n hx hb dL_breaks_3 rfl (lv_at hl 1 rfl) ?_
  refine mxCV (k := k) (rest := [.int 0, .ref qo]) (isR := [3]) (isC := [0, 1, 2]) (i0 := 0) ⟨hx, hb, hml, hown, hts⟩ hK hP hD hS hA hG (c10x_breaks l D cs hl0 o_x a_x a_t a_h s_x s_t s_h H.size x1 k hf) (cwV 1 hts (gV wd996 wd997 wd998 wd105 wd999) rfl rfl rfl (by decide +kernel) ⟨(Nat.le_of_ble_eq_true rfl), (Nat.le_of_ble_eq_true rfl)⟩) 4 (by decide) rfl rfl rfl rfl e10 rfl rfl rfl hl.1 rfl (Nat.le_of_ble_eq_true rfl) ⟨(Nat.le_of_ble_eq_true rfl), (Nat.le_of_ble_eq_true rfl)⟩ dL_breaks_4 (fun ce q9 H locs hP hD hS h1 h2 h3 => ?_)
  refine cTN (hi := 16) (hp := 19) (suf := []) hown hW hG htab (by decide) hk h1 h2 h3 ?_
  refine lv_astore_n (lv' := [(3, .ref q9), (0, .ref o_x), (1, .int x1), (2, .ref qo)]) hx hb dL_breaks_19 rfl hl (by decide) rfl (fun ls hl => ?_)
  refine lv_iconst (v := 1) hx hb dL_breaks_20 (by decide) ?_
  exact mretI hx hb hr hlocks hK hP hD hS rfl hQ dL_breaks_21
