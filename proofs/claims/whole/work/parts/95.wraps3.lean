/-! the law's static methods -/
set_option maxHeartbeats 4000000 in
set_option maxRecDepth 100000 in
theorem wl_lasts (l : Launch) (D : va_G) (cs : xE) (o_x : Nat) (a_x : Nat → Nat) (a_t : Nat → Nat) (a_t2 : Nat → Nat) (a_g : Nat → Nat) (s_x : St) (s_t : St) (s_t2 : St) (s_e : St) (s_g : St) (sz : Nat) (x1 : Int32) (res : Int32 × St × St × St) (hf : f10_lasts s_x s_t s_t2 s_e s_g x1 = some (.inl res)) (qo : Nat) (fo : Nat → Int64) : Met l yL_lasts (Cond.codeWith yL_lasts cL_lasts 4 (some .int) [(0, 9, 12, 18)] :: WG) { frames := 8, cells := 0, slots := 0, locals := 133 } (va_Pc [.ref o_x, .int x1, .ref qo] (mP D cs (List.flatten [w10 cs o_x a_x s_x, w9 cs (a_x 2) a_t s_t, w9 cs (a_x 9) a_t2 s_t2, w2 cs (a_x 8) a0n s_e, w7 cs (a_x 1) a_g s_g, wO cs qo fo]) sz)) (qI D cs 0 (List.flatten [w10 cs o_x a_x s_x, w9 cs (a_x 2) a_t s_t, w9 cs (a_x 9) a_t2 res.2.1, w2 cs (a_x 8) a0n res.2.2.1, w7 cs (a_x 1) a_g res.2.2.2, wO cs qo (up64 fo res.1.toInt64)]) (va_A (List.flatten [w10 cs o_x a_x s_x, w9 cs (a_x 2) a_t s_t, w9 cs (a_x 9) a_t2 s_t2, w2 cs (a_x 8) a0n s_e, w7 cs (a_x 1) a_g s_g, wO cs qo fo]) sz)) 0 0 (va_A (List.flatten [w10 cs o_x a_x s_x, w9 cs (a_x 2) a_t s_t, w9 cs (a_x 9) a_t2 s_t2, w2 cs (a_x 8) a0n s_e, w7 cs (a_x 1) a_g s_g, wO cs qo fo]) sz) := by
  refine mgoW (hh := [(0, 9, 12, 18)]) (Qc := qI D cs 0 (List.flatten [w10 cs o_x a_x s_x, w9 cs (a_x 2) a_t s_t, w9 cs (a_x 9) a_t2 res.2.1, w2 cs (a_x 8) a0n res.2.2.1, w7 cs (a_x 1) a_g res.2.2.2, wO cs qo (up64 fo res.1.toInt64)])) (cc := cL_lasts) (maxL := 4) (ret := some .int) (by decide) rfl (Nat.le_of_ble_eq_true rfl) ?_
  intro p e s m below meth c ls A R Q args H hR hQ hx hb hml hr hlocks htab hown hts hP hK hD hA hS hG hl
  subst hR
  have hown : s.vm.findClass RL = some m.cls := hown
  have hl : lv_has ls 4 [(0, .ref o_x), (1, .int x1), (2, .ref qo)] := hl
  have hW : ∀ w ∈ WG, w.before args s = true := fun w h => hts w (List.mem_cons_of_mem _ h)
  refine lv_aload_n hx hb dL_lasts_0 rfl (lv_at hl 2 rfl) ?_
  refine lv_iconst (v := 0) hx hb dL_lasts_1 (by decide) ?_
  refine lv_aload_n hx hb dL_lasts_2 rfl (lv_at hl 0 rfl) ?_
  refine lv_iload_n hx hb dL_lasts_3 rfl (lv_at hl 1 rfl) ?_
  refine mcVi (v := res.1) (rest := [.int 0, .ref qo]) (Bn := [w10 cs o_x a_x s_x, w9 cs (a_x 2) a_t s_t, w9 cs (a_x 9) a_t2 res.2.1, w2 cs (a_x 8) a0n res.2.2.1, w7 cs (a_x 1) a_g res.2.2.2, wO cs qo fo]) (isR := [5]) (isC := [0, 1, 2, 3, 4]) (i0 := 0) ⟨hx, hb, hml, hown, hts⟩ hK hP hD hS hA hG (c10_lasts l D cs o_x a_x a_t a_t2 a_g s_x s_t s_t2 s_e s_g H.size x1 _ hf) (cwV 1 hts (gV wd1073 wd1074 wd1075 wd105 wd1076) rfl rfl rfl (by decide +kernel) ⟨(Nat.le_of_ble_eq_true rfl), (Nat.le_of_ble_eq_true rfl)⟩) 6 (by decide) rfl rfl rfl rfl rfl rfl rfl e10 rfl rfl rfl hl.1 rfl (Nat.le_of_ble_eq_true rfl) ⟨Nat.zero_le _, Nat.zero_le _⟩ dL_lasts_4 (fun H locs hP hD hS => ?_)
  refine lv_i2l hx hb dL_lasts_7 rfl ?_
  refine lsO (i0 := 5) (q := qo) (f := fo) hx hb hK hP hD hS rfl dL_lasts_8 rfl (fun H locs hP hD hS => ?_)
  refine lv_goto (tgt := 15) hx hb dL_lasts_9 (by decide) ?_
  refine lv_iconst (v := 0) hx hb dL_lasts_15 (by decide) ?_
  exact mretI hx hb hr hlocks hK hP hD hS rfl hQ dL_lasts_16
set_option maxHeartbeats 4000000 in
set_option maxRecDepth 100000 in
theorem wx_lasts (l : Launch) (D : va_G) (cs : xE) (hl0 : l.stackTraces = false) (o_x : Nat) (a_x : Nat → Nat) (a_t : Nat → Nat) (a_t2 : Nat → Nat) (a_g : Nat → Nat) (s_x : St) (s_t : St) (s_t2 : St) (s_e : St) (s_g : St) (sz : Nat) (x1 : Int32) (k : Nat) (hf : f10_lasts s_x s_t s_t2 s_e s_g x1 = some (.inr k)) (hk : k ≠ 0) (qo : Nat) (fo : Nat → Int64) : Met l yL_lasts (Cond.codeWith yL_lasts cL_lasts 4 (some .int) [(0, 9, 12, 18)] :: WG) { frames := 8, cells := 1, slots := 6, locals := 133 } (va_Pc [.ref o_x, .int x1, .ref qo] (mP D cs (List.flatten [w10 cs o_x a_x s_x, w9 cs (a_x 2) a_t s_t, w9 cs (a_x 9) a_t2 s_t2, w2 cs (a_x 8) a0n s_e, w7 cs (a_x 1) a_g s_g, wO cs qo fo]) sz)) (qI D cs 1 (List.flatten [w10 cs o_x a_x s_x, w9 cs (a_x 2) a_t s_t, w9 cs (a_x 9) a_t2 s_t2, w2 cs (a_x 8) a0n s_e, w7 cs (a_x 1) a_g s_g, wO cs qo fo]) (va_A (List.flatten [w10 cs o_x a_x s_x, w9 cs (a_x 2) a_t s_t, w9 cs (a_x 9) a_t2 s_t2, w2 cs (a_x 8) a0n s_e, w7 cs (a_x 1) a_g s_g, wO cs qo fo]) sz)) 1 6 (va_A (List.flatten [w10 cs o_x a_x s_x, w9 cs (a_x 2) a_t s_t, w9 cs (a_x 9) a_t2 s_t2, w2 cs (a_x 8) a0n s_e, w7 cs (a_x 1) a_g s_g, wO cs qo fo]) sz) := by
  refine mgoW (hh := [(0, 9, 12, 18)]) (Qc := qI D cs 1 (List.flatten [w10 cs o_x a_x s_x, w9 cs (a_x 2) a_t s_t, w9 cs (a_x 9) a_t2 s_t2, w2 cs (a_x 8) a0n s_e, w7 cs (a_x 1) a_g s_g, wO cs qo fo])) (cc := cL_lasts) (maxL := 4) (ret := some .int) (by decide) rfl (Nat.le_of_ble_eq_true rfl) ?_
  intro p e s m below meth c ls A R Q args H hR hQ hx hb hml hr hlocks htab hown hts hP hK hD hA hS hG hl
  subst hR
  have hown : s.vm.findClass RL = some m.cls := hown
  have hl : lv_has ls 4 [(0, .ref o_x), (1, .int x1), (2, .ref qo)] := hl
  have hW : ∀ w ∈ WG, w.before args s = true := fun w h => hts w (List.mem_cons_of_mem _ h)
  refine lv_aload_n hx hb dL_lasts_0 rfl (lv_at hl 2 rfl) ?_
  refine lv_iconst (v := 0) hx hb dL_lasts_1 (by decide) ?_
  refine lv_aload_n hx hb dL_lasts_2 rfl (lv_at hl 0 rfl) ?_
  refine lv_iload_n hx hb dL_lasts_3 rfl (lv_at hl 1 rfl) ?_
  refine mxCV (k := k) (rest := [.int 0, .ref qo]) (isR := [5]) (isC := [0, 1, 2, 3, 4]) (i0 := 0) ⟨hx, hb, hml, hown, hts⟩ hK hP hD hS hA hG (c10x_lasts l D cs hl0 o_x a_x a_t a_t2 a_g s_x s_t s_t2 s_e s_g H.size x1 k hf) (cwV 1 hts (gV wd1073 wd1074 wd1075 wd105 wd1076) rfl rfl rfl (by decide +kernel) ⟨(Nat.le_of_ble_eq_true rfl), (Nat.le_of_ble_eq_true rfl)⟩) 6 (by decide) rfl rfl rfl rfl e10 rfl rfl rfl hl.1 rfl (Nat.le_of_ble_eq_true rfl) ⟨(Nat.le_of_ble_eq_true rfl), (Nat.le_of_ble_eq_true rfl)⟩ dL_lasts_4 (fun ce q9 H locs hP hD hS h1 h2 h3 => ?_)
  refine cTN (hi := 9) (hp := 12) (suf := []) hown hW hG htab (by decide) hk h1 h2 h3 ?_
  refine lv_astore_n (lv' := [(3, .ref q9), (0, .ref o_x), (1, .int x1), (2, .ref qo)]) hx hb dL_lasts_12 rfl hl (by decide) rfl (fun ls hl => ?_)
  refine lv_iconst (v := 1) hx hb dL_lasts_13 (by decide) ?_
  exact mretI hx hb hr hlocks hK hP hD hS rfl hQ dL_lasts_14
set_option maxHeartbeats 4000000 in
set_option maxRecDepth 100000 in
theorem wl_grief (l : Launch) (D : va_G) (cs : xE) (o_x : Nat) (a_x : Nat → Nat) (a_t : Nat → Nat) (a_t2 : Nat → Nat) (a_g : Nat → Nat) (s_x : St) (s_t : St) (s_t2 : St) (s_e : St) (s_g : St) (sz : Nat) (x1 : Int32) (x2 : Int32) (res : Int32 × St × St × St) (hf : f10_grief s_x s_t s_t2 s_e s_g x1 x2 = some (.inl res)) (qo : Nat) (fo : Nat → Int64) : Met l yL_grief (Cond.codeWith yL_grief cL_grief 5 (some .int) [(0, 10, 13, 18), (0, 10, 17, 13)] :: WG) { frames := 8, cells := 0, slots := 0, locals := 136 } (va_Pc [.ref o_x, .int x1, .int x2, .ref qo] (mP D cs (List.flatten [w10 cs o_x a_x s_x, w9 cs (a_x 2) a_t s_t, w9 cs (a_x 9) a_t2 s_t2, w2 cs (a_x 8) a0n s_e, w7 cs (a_x 1) a_g s_g, wO cs qo fo]) sz)) (qI D cs 0 (List.flatten [w10 cs o_x a_x s_x, w9 cs (a_x 2) a_t s_t, w9 cs (a_x 9) a_t2 res.2.1, w2 cs (a_x 8) a0n res.2.2.1, w7 cs (a_x 1) a_g res.2.2.2, wO cs qo (up64 fo res.1.toInt64)]) (va_A (List.flatten [w10 cs o_x a_x s_x, w9 cs (a_x 2) a_t s_t, w9 cs (a_x 9) a_t2 s_t2, w2 cs (a_x 8) a0n s_e, w7 cs (a_x 1) a_g s_g, wO cs qo fo]) sz)) 0 0 (va_A (List.flatten [w10 cs o_x a_x s_x, w9 cs (a_x 2) a_t s_t, w9 cs (a_x 9) a_t2 s_t2, w2 cs (a_x 8) a0n s_e, w7 cs (a_x 1) a_g s_g, wO cs qo fo]) sz) := by
  refine mgoW (hh := [(0, 10, 13, 18), (0, 10, 17, 13)]) (Qc := qI D cs 0 (List.flatten [w10 cs o_x a_x s_x, w9 cs (a_x 2) a_t s_t, w9 cs (a_x 9) a_t2 res.2.1, w2 cs (a_x 8) a0n res.2.2.1, w7 cs (a_x 1) a_g res.2.2.2, wO cs qo (up64 fo res.1.toInt64)])) (cc := cL_grief) (maxL := 5) (ret := some .int) (by decide) rfl (Nat.le_of_ble_eq_true rfl) ?_
  intro p e s m below meth c ls A R Q args H hR hQ hx hb hml hr hlocks htab hown hts hP hK hD hA hS hG hl
  subst hR
  have hown : s.vm.findClass RL = some m.cls := hown
  have hl : lv_has ls 5 [(0, .ref o_x), (1, .int x1), (2, .int x2), (3, .ref qo)] := hl
  have hW : ∀ w ∈ WG, w.before args s = true := fun w h => hts w (List.mem_cons_of_mem _ h)
  refine lv_aload_n hx hb dL_grief_0 rfl (lv_at hl 3 rfl) ?_
  refine lv_iconst (v := 0) hx hb dL_grief_1 (by decide) ?_
  refine lv_aload_n hx hb dL_grief_2 rfl (lv_at hl 0 rfl) ?_
  refine lv_iload_n hx hb dL_grief_3 rfl (lv_at hl 1 rfl) ?_
  refine lv_iload_n hx hb dL_grief_4 rfl (lv_at hl 2 rfl) ?_
  refine mcVi (v := res.1) (rest := [.int 0, .ref qo]) (Bn := [w10 cs o_x a_x s_x, w9 cs (a_x 2) a_t s_t, w9 cs (a_x 9) a_t2 res.2.1, w2 cs (a_x 8) a0n res.2.2.1, w7 cs (a_x 1) a_g res.2.2.2, wO cs qo fo]) (isR := [5]) (isC := [0, 1, 2, 3, 4]) (i0 := 0) ⟨hx, hb, hml, hown, hts⟩ hK hP hD hS hA hG (c10_grief l D cs o_x a_x a_t a_t2 a_g s_x s_t s_t2 s_e s_g H.size x1 x2 _ hf) (cwV 2 hts (gV wd1080 wd1081 wd1082 wd105 wd1083) rfl rfl rfl (by decide +kernel) ⟨(Nat.le_of_ble_eq_true rfl), (Nat.le_of_ble_eq_true rfl)⟩) 6 (by decide) rfl rfl rfl rfl rfl rfl rfl e10 rfl rfl rfl hl.1 rfl (Nat.le_of_ble_eq_true rfl) ⟨Nat.zero_le _, Nat.zero_le _⟩ dL_grief_5 (fun H locs hP hD hS => ?_)
  refine lv_i2l hx hb dL_grief_8 rfl ?_
  refine lsO (i0 := 5) (q := qo) (f := fo) hx hb hK hP hD hS rfl dL_grief_9 rfl (fun H locs hP hD hS => ?_)
  refine lv_goto (tgt := 21) hx hb dL_grief_10 (by decide) ?_
  refine lv_iconst (v := 0) hx hb dL_grief_21 (by decide) ?_
  exact mretI hx hb hr hlocks hK hP hD hS rfl hQ dL_grief_22
set_option maxHeartbeats 4000000 in
set_option maxRecDepth 100000 in
theorem wx_grief (l : Launch) (D : va_G) (cs : xE) (hl0 : l.stackTraces = false) (o_x : Nat) (a_x : Nat → Nat) (a_t : Nat → Nat) (a_t2 : Nat → Nat) (a_g : Nat → Nat) (s_x : St) (s_t : St) (s_t2 : St) (s_e : St) (s_g : St) (sz : Nat) (x1 : Int32) (x2 : Int32) (k : Nat) (hf : f10_grief s_x s_t s_t2 s_e s_g x1 x2 = some (.inr k)) (hk : k = 0 ∨ k = 1) (qo : Nat) (fo : Nat → Int64) : Met l yL_grief (Cond.codeWith yL_grief cL_grief 5 (some .int) [(0, 10, 13, 18), (0, 10, 17, 13)] :: WG) { frames := 8, cells := 1, slots := 6, locals := 136 } (va_Pc [.ref o_x, .int x1, .int x2, .ref qo] (mP D cs (List.flatten [w10 cs o_x a_x s_x, w9 cs (a_x 2) a_t s_t, w9 cs (a_x 9) a_t2 s_t2, w2 cs (a_x 8) a0n s_e, w7 cs (a_x 1) a_g s_g, wO cs qo fo]) sz)) (qI D cs (kfN k) (List.flatten [w10 cs o_x a_x s_x, w9 cs (a_x 2) a_t s_t, w9 cs (a_x 9) a_t2 s_t2, w2 cs (a_x 8) a0n s_e, w7 cs (a_x 1) a_g s_g, wO cs qo fo]) (va_A (List.flatten [w10 cs o_x a_x s_x, w9 cs (a_x 2) a_t s_t, w9 cs (a_x 9) a_t2 s_t2, w2 cs (a_x 8) a0n s_e, w7 cs (a_x 1) a_g s_g, wO cs qo fo]) sz)) 1 6 (va_A (List.flatten [w10 cs o_x a_x s_x, w9 cs (a_x 2) a_t s_t, w9 cs (a_x 9) a_t2 s_t2, w2 cs (a_x 8) a0n s_e, w7 cs (a_x 1) a_g s_g, wO cs qo fo]) sz) := by
  refine mgoW (hh := [(0, 10, 13, 18), (0, 10, 17, 13)]) (Qc := qI D cs (kfN k) (List.flatten [w10 cs o_x a_x s_x, w9 cs (a_x 2) a_t s_t, w9 cs (a_x 9) a_t2 s_t2, w2 cs (a_x 8) a0n s_e, w7 cs (a_x 1) a_g s_g, wO cs qo fo])) (cc := cL_grief) (maxL := 5) (ret := some .int) (by decide) rfl (Nat.le_of_ble_eq_true rfl) ?_
  intro p e s m below meth c ls A R Q args H hR hQ hx hb hml hr hlocks htab hown hts hP hK hD hA hS hG hl
  subst hR
  have hown : s.vm.findClass RL = some m.cls := hown
  have hl : lv_has ls 5 [(0, .ref o_x), (1, .int x1), (2, .int x2), (3, .ref qo)] := hl
  have hW : ∀ w ∈ WG, w.before args s = true := fun w h => hts w (List.mem_cons_of_mem _ h)
  refine lv_aload_n hx hb dL_grief_0 rfl (lv_at hl 3 rfl) ?_
  refine lv_iconst (v := 0) hx hb dL_grief_1 (by decide) ?_
  refine lv_aload_n hx hb dL_grief_2 rfl (lv_at hl 0 rfl) ?_
  refine lv_iload_n hx hb dL_grief_3 rfl (lv_at hl 1 rfl) ?_
  refine lv_iload_n hx hb dL_grief_4 rfl (lv_at hl 2 rfl) ?_
  refine mxCV (k := k) (rest := [.int 0, .ref qo]) (isR := [5]) (isC := [0, 1, 2, 3, 4]) (i0 := 0) ⟨hx, hb, hml, hown, hts⟩ hK hP hD hS hA hG (c10x_grief l D cs hl0 o_x a_x a_t a_t2 a_g s_x s_t s_t2 s_e s_g H.size x1 x2 k hf) (cwV 2 hts (gV wd1080 wd1081 wd1082 wd105 wd1083) rfl rfl rfl (by decide +kernel) ⟨(Nat.le_of_ble_eq_true rfl), (Nat.le_of_ble_eq_true rfl)⟩) 6 (by decide) rfl rfl rfl rfl e10 rfl rfl rfl hl.1 rfl (Nat.le_of_ble_eq_true rfl) ⟨(Nat.le_of_ble_eq_true rfl), (Nat.le_of_ble_eq_true rfl)⟩ dL_grief_5 (fun ce q9 H locs hP hD hS h1 h2 h3 => ?_)
  by_cases hk0 : k = 0
  ·
    refine cTI2 (hi := 10) (hp := 17) (hp0 := 13) (suf := []) hown hW hG htab (by decide) hk0 h1 h2 h3 ?_
    refine lv_astore (lv' := [(4, .ref q9), (0, .ref o_x), (1, .int x1), (2, .int x2), (3, .ref qo)]) hx hb dL_grief_17 hl (by decide) rfl (fun ls hl => ?_)
    refine lv_iconst (v := 2) hx hb dL_grief_19 (by decide) ?_
    exact mretI hx hb hr hlocks hK hP hD hS (by rw [hk0]; rfl) hQ dL_grief_20
  ·
    refine cTN (hi := 10) (hp := 13) (suf := [(0, 10, 17, 13)]) hown hW hG htab (by decide) hk0 h1 h2 h3 ?_
    refine lv_astore (lv' := [(4, .ref q9), (0, .ref o_x), (1, .int x1), (2, .int x2), (3, .ref qo)]) hx hb dL_grief_13 hl (by decide) rfl (fun ls hl => ?_)
    refine lv_iconst (v := 1) hx hb dL_grief_15 (by decide) ?_
    exact mretI hx hb hr hlocks hK hP hD hS (by rw [hk.resolve_left hk0]; rfl) hQ dL_grief_16
set_option maxHeartbeats 4000000 in
set_option maxRecDepth 100000 in
theorem wl_quarrels (l : Launch) (D : va_G) (cs : xE) (o_x : Nat) (a_x : Nat → Nat) (a_t : Nat → Nat) (a_t2 : Nat → Nat) (a_g : Nat → Nat) (s_x : St) (s_t : St) (s_t2 : St) (s_e : St) (s_g : St) (sz : Nat) (x1 : Int32) (res : Int32 × St × St × St) (hf : f10_quarrels s_x s_t s_t2 s_e s_g x1 = some (.inl res)) (qo : Nat) (fo : Nat → Int64) : Met l yL_quarrels (Cond.codeWith yL_quarrels cL_quarrels 4 (some .int) [(0, 9, 12, 13)] :: WG) { frames := 8, cells := 0, slots := 0, locals := 133 } (va_Pc [.ref o_x, .int x1, .ref qo] (mP D cs (List.flatten [w10 cs o_x a_x s_x, w9 cs (a_x 2) a_t s_t, w9 cs (a_x 9) a_t2 s_t2, w2 cs (a_x 8) a0n s_e, w7 cs (a_x 1) a_g s_g, wO cs qo fo]) sz)) (qI D cs 0 (List.flatten [w10 cs o_x a_x s_x, w9 cs (a_x 2) a_t s_t, w9 cs (a_x 9) a_t2 res.2.1, w2 cs (a_x 8) a0n res.2.2.1, w7 cs (a_x 1) a_g res.2.2.2, wO cs qo (up64 fo res.1.toInt64)]) (va_A (List.flatten [w10 cs o_x a_x s_x, w9 cs (a_x 2) a_t s_t, w9 cs (a_x 9) a_t2 s_t2, w2 cs (a_x 8) a0n s_e, w7 cs (a_x 1) a_g s_g, wO cs qo fo]) sz)) 0 0 (va_A (List.flatten [w10 cs o_x a_x s_x, w9 cs (a_x 2) a_t s_t, w9 cs (a_x 9) a_t2 s_t2, w2 cs (a_x 8) a0n s_e, w7 cs (a_x 1) a_g s_g, wO cs qo fo]) sz) := by
  refine mgoW (hh := [(0, 9, 12, 13)]) (Qc := qI D cs 0 (List.flatten [w10 cs o_x a_x s_x, w9 cs (a_x 2) a_t s_t, w9 cs (a_x 9) a_t2 res.2.1, w2 cs (a_x 8) a0n res.2.2.1, w7 cs (a_x 1) a_g res.2.2.2, wO cs qo (up64 fo res.1.toInt64)])) (cc := cL_quarrels) (maxL := 4) (ret := some .int) (by decide) rfl (Nat.le_of_ble_eq_true rfl) ?_
  intro p e s m below meth c ls A R Q args H hR hQ hx hb hml hr hlocks htab hown hts hP hK hD hA hS hG hl
  subst hR
  have hown : s.vm.findClass RL = some m.cls := hown
  have hl : lv_has ls 4 [(0, .ref o_x), (1, .int x1), (2, .ref qo)] := hl
  have hW : ∀ w ∈ WG, w.before args s = true := fun w h => hts w (List.mem_cons_of_mem _ h)
  refine lv_aload_n hx hb dL_quarrels_0 rfl (lv_at hl 2 rfl) ?_
  refine lv_iconst (v := 0) hx hb dL_quarrels_1 (by decide) ?_
  refine lv_aload_n hx hb dL_quarrels_2 rfl (lv_at hl 0 rfl) ?_
  refine lv_iload_n hx hb dL_quarrels_3 rfl (lv_at hl 1 rfl) ?_
  refine mcVi (v := res.1) (rest := [.int 0, .ref qo]) (Bn := [w10 cs o_x a_x s_x, w9 cs (a_x 2) a_t s_t, w9 cs (a_x 9) a_t2 res.2.1, w2 cs (a_x 8) a0n res.2.2.1, w7 cs (a_x 1) a_g res.2.2.2, wO cs qo fo]) (isR := [5]) (isC := [0, 1, 2, 3, 4]) (i0 := 0) ⟨hx, hb, hml, hown, hts⟩ hK hP hD hS hA hG (c10_quarrels l D cs o_x a_x a_t a_t2 a_g s_x s_t s_t2 s_e s_g H.size x1 _ hf) (cwV 1 hts (gV wd1087 wd1088 wd1089 wd105 wd1090) rfl rfl rfl (by decide +kernel) ⟨(Nat.le_of_ble_eq_true rfl), (Nat.le_of_ble_eq_true rfl)⟩) 6 (by decide) rfl rfl rfl rfl rfl rfl rfl e10 rfl rfl rfl hl.1 rfl (Nat.le_of_ble_eq_true rfl) ⟨Nat.zero_le _, Nat.zero_le _⟩ dL_quarrels_4 (fun H locs hP hD hS => ?_)
  refine lv_i2l hx hb dL_quarrels_7 rfl ?_
  refine lsO (i0 := 5) (q := qo) (f := fo) hx hb hK hP hD hS rfl dL_quarrels_8 rfl (fun H locs hP hD hS => ?_)
  refine lv_goto (tgt := 15) hx hb dL_quarrels_9 (by decide) ?_
  refine lv_iconst (v := 0) hx hb dL_quarrels_15 (by decide) ?_
  exact mretI hx hb hr hlocks hK hP hD hS rfl hQ dL_quarrels_16
set_option maxHeartbeats 4000000 in
set_option maxRecDepth 100000 in
theorem wx_quarrels (l : Launch) (D : va_G) (cs : xE) (hl0 : l.stackTraces = false) (o_x : Nat) (a_x : Nat → Nat) (a_t : Nat → Nat) (a_t2 : Nat → Nat) (a_g : Nat → Nat) (s_x : St) (s_t : St) (s_t2 : St) (s_e : St) (s_g : St) (sz : Nat) (x1 : Int32) (k : Nat) (hf : f10_quarrels s_x s_t s_t2 s_e s_g x1 = some (.inr k)) (hk : k = 0) (qo : Nat) (fo : Nat → Int64) : Met l yL_quarrels (Cond.codeWith yL_quarrels cL_quarrels 4 (some .int) [(0, 9, 12, 13)] :: WG) { frames := 8, cells := 1, slots := 6, locals := 133 } (va_Pc [.ref o_x, .int x1, .ref qo] (mP D cs (List.flatten [w10 cs o_x a_x s_x, w9 cs (a_x 2) a_t s_t, w9 cs (a_x 9) a_t2 s_t2, w2 cs (a_x 8) a0n s_e, w7 cs (a_x 1) a_g s_g, wO cs qo fo]) sz)) (qI D cs 1 (List.flatten [w10 cs o_x a_x s_x, w9 cs (a_x 2) a_t s_t, w9 cs (a_x 9) a_t2 s_t2, w2 cs (a_x 8) a0n s_e, w7 cs (a_x 1) a_g s_g, wO cs qo fo]) (va_A (List.flatten [w10 cs o_x a_x s_x, w9 cs (a_x 2) a_t s_t, w9 cs (a_x 9) a_t2 s_t2, w2 cs (a_x 8) a0n s_e, w7 cs (a_x 1) a_g s_g, wO cs qo fo]) sz)) 1 6 (va_A (List.flatten [w10 cs o_x a_x s_x, w9 cs (a_x 2) a_t s_t, w9 cs (a_x 9) a_t2 s_t2, w2 cs (a_x 8) a0n s_e, w7 cs (a_x 1) a_g s_g, wO cs qo fo]) sz) := by
  refine mgoW (hh := [(0, 9, 12, 13)]) (Qc := qI D cs 1 (List.flatten [w10 cs o_x a_x s_x, w9 cs (a_x 2) a_t s_t, w9 cs (a_x 9) a_t2 s_t2, w2 cs (a_x 8) a0n s_e, w7 cs (a_x 1) a_g s_g, wO cs qo fo])) (cc := cL_quarrels) (maxL := 4) (ret := some .int) (by decide) rfl (Nat.le_of_ble_eq_true rfl) ?_
  intro p e s m below meth c ls A R Q args H hR hQ hx hb hml hr hlocks htab hown hts hP hK hD hA hS hG hl
  subst hR
  have hown : s.vm.findClass RL = some m.cls := hown
  have hl : lv_has ls 4 [(0, .ref o_x), (1, .int x1), (2, .ref qo)] := hl
  have hW : ∀ w ∈ WG, w.before args s = true := fun w h => hts w (List.mem_cons_of_mem _ h)
  refine lv_aload_n hx hb dL_quarrels_0 rfl (lv_at hl 2 rfl) ?_
  refine lv_iconst (v := 0) hx hb dL_quarrels_1 (by decide) ?_
  refine lv_aload_n hx hb dL_quarrels_2 rfl (lv_at hl 0 rfl) ?_
  refine lv_iload_n hx hb dL_quarrels_3 rfl (lv_at hl 1 rfl) ?_
  refine mxCV (k := k) (rest := [.int 0, .ref qo]) (isR := [5]) (isC := [0, 1, 2, 3, 4]) (i0 := 0) ⟨hx, hb, hml, hown, hts⟩ hK hP hD hS hA hG (c10x_quarrels l D cs hl0 o_x a_x a_t a_t2 a_g s_x s_t s_t2 s_e s_g H.size x1 k hf) (cwV 1 hts (gV wd1087 wd1088 wd1089 wd105 wd1090) rfl rfl rfl (by decide +kernel) ⟨(Nat.le_of_ble_eq_true rfl), (Nat.le_of_ble_eq_true rfl)⟩) 6 (by decide) rfl rfl rfl rfl e10 rfl rfl rfl hl.1 rfl (Nat.le_of_ble_eq_true rfl) ⟨(Nat.le_of_ble_eq_true rfl), (Nat.le_of_ble_eq_true rfl)⟩ dL_quarrels_4 (fun ce q9 H locs hP hD hS h1 h2 h3 => ?_)
  refine cTI (hi := 9) (hp := 12) (suf := []) hown hW hG htab (by decide) hk h1 h2 h3 ?_
  refine lv_astore_n (lv' := [(3, .ref q9), (0, .ref o_x), (1, .int x1), (2, .ref qo)]) hx hb dL_quarrels_12 rfl hl (by decide) rfl (fun ls hl => ?_)
  refine lv_iconst (v := 1) hx hb dL_quarrels_13 (by decide) ?_
  exact mretI hx hb hr hlocks hK hP hD hS rfl hQ dL_quarrels_14
set_option maxHeartbeats 4000000 in
set_option maxRecDepth 100000 in
theorem wl_joined (l : Launch) (D : va_G) (cs : xE) (o_x : Nat) (a_x : Nat → Nat) (a_t : Nat → Nat) (s_x : St) (s_t : St) (sz : Nat) (x1 : Int32) (x2 : Int32) (res : Int32) (hf : f10_joined s_x s_t x1 x2 = some (.inl res)) (qo : Nat) (fo : Nat → Int64) : Met l yL_joined (Cond.codeWith yL_joined cL_joined 5 (some .int) [(0, 10, 13, 18)] :: WG) { frames := 8, cells := 0, slots := 0, locals := 133 } (va_Pc [.ref o_x, .int x1, .int x2, .ref qo] (mP D cs (List.flatten [w10 cs o_x a_x s_x, w9 cs (a_x 2) a_t s_t, wO cs qo fo]) sz)) (qI D cs 0 (List.flatten [w10 cs o_x a_x s_x, w9 cs (a_x 2) a_t s_t, wO cs qo (up64 fo res.toInt64)]) (va_A (List.flatten [w10 cs o_x a_x s_x, w9 cs (a_x 2) a_t s_t, wO cs qo fo]) sz)) 0 0 (va_A (List.flatten [w10 cs o_x a_x s_x, w9 cs (a_x 2) a_t s_t, wO cs qo fo]) sz) := by
  refine mgoW (hh := [(0, 10, 13, 18)]) (Qc := qI D cs 0 (List.flatten [w10 cs o_x a_x s_x, w9 cs (a_x 2) a_t s_t, wO cs qo (up64 fo res.toInt64)])) (cc := cL_joined) (maxL := 5) (ret := some .int) (by decide) rfl (Nat.le_of_ble_eq_true rfl) ?_
  intro p e s m below meth c ls A R Q args H hR hQ hx hb hml hr hlocks htab hown hts hP hK hD hA hS hG hl
  subst hR
  have hown : s.vm.findClass RL = some m.cls := hown
  have hl : lv_has ls 5 [(0, .ref o_x), (1, .int x1), (2, .int x2), (3, .ref qo)] := hl
  have hW : ∀ w ∈ WG, w.before args s = true := fun w h => hts w (List.mem_cons_of_mem _ h)
  refine lv_aload_n hx hb dL_joined_0 rfl (lv_at hl 3 rfl) ?_
  refine lv_iconst (v := 0) hx hb dL_joined_1 (by decide) ?_
  refine lv_aload_n hx hb dL_joined_2 rfl (lv_at hl 0 rfl) ?_
  refine lv_iload_n hx hb dL_joined_3 rfl (lv_at hl 1 rfl) ?_
  refine lv_iload_n hx hb dL_joined_4 rfl (lv_at hl 2 rfl) ?_
  refine mcVi (v := res) (rest := [.int 0, .ref qo]) (Bn := [w10 cs o_x a_x s_x, w9 cs (a_x 2) a_t s_t, wO cs qo fo]) (isR := [2]) (isC := [0, 1]) (i0 := 0) ⟨hx, hb, hml, hown, hts⟩ hK hP hD hS hA hG (c10_joined l D cs o_x a_x a_t s_x s_t H.size x1 x2 _ hf) (cwV 2 hts (gV wd1094 wd1095 wd1096 wd105 wd1097) rfl rfl rfl (by decide +kernel) ⟨(Nat.le_of_ble_eq_true rfl), (Nat.le_of_ble_eq_true rfl)⟩) 3 (by decide) rfl rfl rfl rfl rfl rfl rfl e10 rfl rfl rfl hl.1 rfl (Nat.le_of_ble_eq_true rfl) ⟨Nat.zero_le _, Nat.zero_le _⟩ dL_joined_5 (fun H locs hP hD hS => ?_)
  refine lv_i2l hx hb dL_joined_8 rfl ?_
  refine lsO (i0 := 2) (q := qo) (f := fo) hx hb hK hP hD hS rfl dL_joined_9 rfl (fun H locs hP hD hS => ?_)
  refine lv_goto (tgt := 17) hx hb dL_joined_10 (by decide) ?_
  refine lv_iconst (v := 0) hx hb dL_joined_17 (by decide) ?_
  exact mretI hx hb hr hlocks hK hP hD hS rfl hQ dL_joined_18
set_option maxHeartbeats 4000000 in
set_option maxRecDepth 100000 in
theorem wx_joined (l : Launch) (D : va_G) (cs : xE) (hl0 : l.stackTraces = false) (o_x : Nat) (a_x : Nat → Nat) (a_t : Nat → Nat) (s_x : St) (s_t : St) (sz : Nat) (x1 : Int32) (x2 : Int32) (k : Nat) (hf : f10_joined s_x s_t x1 x2 = some (.inr k)) (hk : k ≠ 0) (qo : Nat) (fo : Nat → Int64) : Met l yL_joined (Cond.codeWith yL_joined cL_joined 5 (some .int) [(0, 10, 13, 18)] :: WG) { frames := 8, cells := 1, slots := 6, locals := 133 } (va_Pc [.ref o_x, .int x1, .int x2, .ref qo] (mP D cs (List.flatten [w10 cs o_x a_x s_x, w9 cs (a_x 2) a_t s_t, wO cs qo fo]) sz)) (qI D cs 1 (List.flatten [w10 cs o_x a_x s_x, w9 cs (a_x 2) a_t s_t, wO cs qo fo]) (va_A (List.flatten [w10 cs o_x a_x s_x, w9 cs (a_x 2) a_t s_t, wO cs qo fo]) sz)) 1 6 (va_A (List.flatten [w10 cs o_x a_x s_x, w9 cs (a_x 2) a_t s_t, wO cs qo fo]) sz) := by
  refine mgoW (hh := [(0, 10, 13, 18)]) (Qc := qI D cs 1 (List.flatten [w10 cs o_x a_x s_x, w9 cs (a_x 2) a_t s_t, wO cs qo fo])) (cc := cL_joined) (maxL := 5) (ret := some .int) (by decide) rfl (Nat.le_of_ble_eq_true rfl) ?_
  intro p e s m below meth c ls A R Q args H hR hQ hx hb hml hr hlocks htab hown hts hP hK hD hA hS hG hl
  subst hR
  have hown : s.vm.findClass RL = some m.cls := hown
  have hl : lv_has ls 5 [(0, .ref o_x), (1, .int x1), (2, .int x2), (3, .ref qo)] := hl
  have hW : ∀ w ∈ WG, w.before args s = true := fun w h => hts w (List.mem_cons_of_mem _ h)
  refine lv_aload_n hx hb dL_joined_0 rfl (lv_at hl 3 rfl) ?_
  refine lv_iconst (v := 0) hx hb dL_joined_1 (by decide) ?_
  refine lv_aload_n hx hb dL_joined_2 rfl (lv_at hl 0 rfl) ?_
  refine lv_iload_n hx hb dL_joined_3 rfl (lv_at hl 1 rfl) ?_
  refine lv_iload_n hx hb dL_joined_4 rfl (lv_at hl 2 rfl) ?_
  refine mxCV (k := k) (rest := [.int 0, .ref qo]) (isR := [2]) (isC := [0, 1]) (i0 := 0) ⟨hx, hb, hml, hown, hts⟩ hK hP hD hS hA hG (c10x_joined l D cs hl0 o_x a_x a_t s_x s_t H.size x1 x2 k hf) (cwV 2 hts (gV wd1094 wd1095 wd1096 wd105 wd1097) rfl rfl rfl (by decide +kernel) ⟨(Nat.le_of_ble_eq_true rfl), (Nat.le_of_ble_eq_true rfl)⟩) 3 (by decide) rfl rfl rfl rfl e10 rfl rfl rfl hl.1 rfl (Nat.le_of_ble_eq_true rfl) ⟨(Nat.le_of_ble_eq_true rfl), (Nat.le_of_ble_eq_true rfl)⟩ dL_joined_5 (fun ce q9 H locs hP hD hS h1 h2 h3 => ?_)
  refine cTN (hi := 10) (hp := 13) (suf := []) hown hW hG htab (by decide) hk h1 h2 h3 ?_
  refine lv_astore (lv' := [(4, .ref q9), (0, .ref o_x), (1, .int x1), (2, .int x2), (3, .ref qo)]) hx hb dL_joined_13 hl (by decide) rfl (fun ls hl => ?_)
  refine lv_iconst (v := 1) hx hb dL_joined_15 (by decide) ?_
  exact mretI hx hb hr hlocks hK hP hD hS rfl hQ dL_joined_16
set_option maxHeartbeats 4000000 in
set_option maxRecDepth 100000 in
theorem wl_strife (l : Launch) (D : va_G) (cs : xE) (o_x : Nat) (a_x : Nat → Nat) (a_t : Nat → Nat) (a_g : Nat → Nat) (a_m : Nat → Nat) (s_x : St) (s_t : St) (s_g : St) (s_m : St) (sz : Nat) (x1 : Int32) (x2 : Int32) (res : Int32 × St × St) (hf : f10_strife s_x s_t s_g s_m x1 x2 = some (.inl res)) (qo : Nat) (fo : Nat → Int64) : Met l yL_strife (Cond.codeWith yL_strife cL_strife 5 (some .int) [(0, 10, 13, 18)] :: WG) { frames := 8, cells := 0, slots := 0, locals := 133 } (va_Pc [.ref o_x, .int x1, .int x2, .ref qo] (mP D cs (List.flatten [w10 cs o_x a_x s_x, w9 cs (a_x 2) a_t s_t, w7 cs (a_x 1) a_g s_g, w4 cs (a_x 10) a_m s_m, wO cs qo fo]) sz)) (qI D cs 0 (List.flatten [w10 cs o_x a_x s_x, w9 cs (a_x 2) a_t s_t, w7 cs (a_x 1) a_g res.2.1, w4 cs (a_x 10) a_m res.2.2, wO cs qo (up64 fo res.1.toInt64)]) (va_A (List.flatten [w10 cs o_x a_x s_x, w9 cs (a_x 2) a_t s_t, w7 cs (a_x 1) a_g s_g, w4 cs (a_x 10) a_m s_m, wO cs qo fo]) sz)) 0 0 (va_A (List.flatten [w10 cs o_x a_x s_x, w9 cs (a_x 2) a_t s_t, w7 cs (a_x 1) a_g s_g, w4 cs (a_x 10) a_m s_m, wO cs qo fo]) sz) := by
  refine mgoW (hh := [(0, 10, 13, 18)]) (Qc := qI D cs 0 (List.flatten [w10 cs o_x a_x s_x, w9 cs (a_x 2) a_t s_t, w7 cs (a_x 1) a_g res.2.1, w4 cs (a_x 10) a_m res.2.2, wO cs qo (up64 fo res.1.toInt64)])) (cc := cL_strife) (maxL := 5) (ret := some .int) (by decide) rfl (Nat.le_of_ble_eq_true rfl) ?_
  intro p e s m below meth c ls A R Q args H hR hQ hx hb hml hr hlocks htab hown hts hP hK hD hA hS hG hl
  subst hR
  have hown : s.vm.findClass RL = some m.cls := hown
  have hl : lv_has ls 5 [(0, .ref o_x), (1, .int x1), (2, .int x2), (3, .ref qo)] := hl
  have hW : ∀ w ∈ WG, w.before args s = true := fun w h => hts w (List.mem_cons_of_mem _ h)
  refine lv_aload_n hx hb dL_strife_0 rfl (lv_at hl 3 rfl) ?_
  refine lv_iconst (v := 0) hx hb dL_strife_1 (by decide) ?_
  refine lv_aload_n hx hb dL_strife_2 rfl (lv_at hl 0 rfl) ?_
  refine lv_iload_n hx hb dL_strife_3 rfl (lv_at hl 1 rfl) ?_
  refine lv_iload_n hx hb dL_strife_4 rfl (lv_at hl 2 rfl) ?_
  refine mcVi (v := res.1) (rest := [.int 0, .ref qo]) (Bn := [w10 cs o_x a_x s_x, w9 cs (a_x 2) a_t s_t, w7 cs (a_x 1) a_g res.2.1, w4 cs (a_x 10) a_m res.2.2, wO cs qo fo]) (isR := [4]) (isC := [0, 1, 2, 3]) (i0 := 0) ⟨hx, hb, hml, hown, hts⟩ hK hP hD hS hA hG (c10_strife l D cs o_x a_x a_t a_g a_m s_x s_t s_g s_m H.size x1 x2 _ hf) (cwV 2 hts (gV wd1105 wd1106 wd1107 wd105 wd1108) rfl rfl rfl (by decide +kernel) ⟨(Nat.le_of_ble_eq_true rfl), (Nat.le_of_ble_eq_true rfl)⟩) 5 (by decide) rfl rfl rfl rfl rfl rfl rfl e10 rfl rfl rfl hl.1 rfl (Nat.le_of_ble_eq_true rfl) ⟨Nat.zero_le _, Nat.zero_le _⟩ dL_strife_5 (fun H locs hP hD hS => ?_)
  refine lv_i2l hx hb dL_strife_8 rfl ?_
  refine lsO (i0 := 4) (q := qo) (f := fo) hx hb hK hP hD hS rfl dL_strife_9 rfl (fun H locs hP hD hS => ?_)
  refine lv_goto (tgt := 17) hx hb dL_strife_10 (by decide) ?_
  refine lv_iconst (v := 0) hx hb dL_strife_17 (by decide) ?_
  exact mretI hx hb hr hlocks hK hP hD hS rfl hQ dL_strife_18
set_option maxHeartbeats 4000000 in
set_option maxRecDepth 100000 in
theorem wx_strife (l : Launch) (D : va_G) (cs : xE) (hl0 : l.stackTraces = false) (o_x : Nat) (a_x : Nat → Nat) (a_t : Nat → Nat) (a_g : Nat → Nat) (a_m : Nat → Nat) (s_x : St) (s_t : St) (s_g : St) (s_m : St) (sz : Nat) (x1 : Int32) (x2 : Int32) (k : Nat) (hf : f10_strife s_x s_t s_g s_m x1 x2 = some (.inr k)) (hk : k ≠ 0) (qo : Nat) (fo : Nat → Int64) : Met l yL_strife (Cond.codeWith yL_strife cL_strife 5 (some .int) [(0, 10, 13, 18)] :: WG) { frames := 8, cells := 1, slots := 6, locals := 133 } (va_Pc [.ref o_x, .int x1, .int x2, .ref qo] (mP D cs (List.flatten [w10 cs o_x a_x s_x, w9 cs (a_x 2) a_t s_t, w7 cs (a_x 1) a_g s_g, w4 cs (a_x 10) a_m s_m, wO cs qo fo]) sz)) (qI D cs 1 (List.flatten [w10 cs o_x a_x s_x, w9 cs (a_x 2) a_t s_t, w7 cs (a_x 1) a_g s_g, w4 cs (a_x 10) a_m s_m, wO cs qo fo]) (va_A (List.flatten [w10 cs o_x a_x s_x, w9 cs (a_x 2) a_t s_t, w7 cs (a_x 1) a_g s_g, w4 cs (a_x 10) a_m s_m, wO cs qo fo]) sz)) 1 6 (va_A (List.flatten [w10 cs o_x a_x s_x, w9 cs (a_x 2) a_t s_t, w7 cs (a_x 1) a_g s_g, w4 cs (a_x 10) a_m s_m, wO cs qo fo]) sz) := by
  refine mgoW (hh := [(0, 10, 13, 18)]) (Qc := qI D cs 1 (List.flatten [w10 cs o_x a_x s_x, w9 cs (a_x 2) a_t s_t, w7 cs (a_x 1) a_g s_g, w4 cs (a_x 10) a_m s_m, wO cs qo fo])) (cc := cL_strife) (maxL := 5) (ret := some .int) (by decide) rfl (Nat.le_of_ble_eq_true rfl) ?_
  intro p e s m below meth c ls A R Q args H hR hQ hx hb hml hr hlocks htab hown hts hP hK hD hA hS hG hl
  subst hR
  have hown : s.vm.findClass RL = some m.cls := hown
  have hl : lv_has ls 5 [(0, .ref o_x), (1, .int x1), (2, .int x2), (3, .ref qo)] := hl
  have hW : ∀ w ∈ WG, w.before args s = true := fun w h => hts w (List.mem_cons_of_mem _ h)
  refine lv_aload_n hx hb dL_strife_0 rfl (lv_at hl 3 rfl) ?_
  refine lv_iconst (v := 0) hx hb dL_strife_1 (by decide) ?_
  refine lv_aload_n hx hb dL_strife_2 rfl (lv_at hl 0 rfl) ?_
  refine lv_iload_n hx hb dL_strife_3 rfl (lv_at hl 1 rfl) ?_
  refine lv_iload_n hx hb dL_strife_4 rfl (lv_at hl 2 rfl) ?_
  refine mxCV (k := k) (rest := [.int 0, .ref qo]) (isR := [4]) (isC := [0, 1, 2, 3]) (i0 := 0) ⟨hx, hb, hml, hown, hts⟩ hK hP hD hS hA hG (c10x_strife l D cs hl0 o_x a_x a_t a_g a_m s_x s_t s_g s_m H.size x1 x2 k hf) (cwV 2 hts (gV wd1105 wd1106 wd1107 wd105 wd1108) rfl rfl rfl (by decide +kernel) ⟨(Nat.le_of_ble_eq_true rfl), (Nat.le_of_ble_eq_true rfl)⟩) 5 (by decide) rfl rfl rfl rfl e10 rfl rfl rfl hl.1 rfl (Nat.le_of_ble_eq_true rfl) ⟨(Nat.le_of_ble_eq_true rfl), (Nat.le_of_ble_eq_true rfl)⟩ dL_strife_5 (fun ce q9 H locs hP hD hS h1 h2 h3 => ?_)
  refine cTN (hi := 10) (hp := 13) (suf := []) hown hW hG htab (by decide) hk h1 h2 h3 ?_
  refine lv_astore (lv' := [(4, .ref q9), (0, .ref o_x), (1, .int x1), (2, .int x2), (3, .ref qo)]) hx hb dL_strife_13 hl (by decide) rfl (fun ls hl => ?_)
  refine lv_iconst (v := 1) hx hb dL_strife_15 (by decide) ?_
  exact mretI hx hb hr hlocks hK hP hD hS rfl hQ dL_strife_16
set_option maxHeartbeats 4000000 in
set_option maxRecDepth 100000 in
theorem wl_better (l : Launch) (D : va_G) (cs : xE) (o_x : Nat) (a_x : Nat → Nat) (a_t : Nat → Nat) (a_g : Nat → Nat) (a_m : Nat → Nat) (s_x : St) (s_t : St) (s_g : St) (s_m : St) (sz : Nat) (x1 : Int32) (res : Int32 × St × St) (hf : f10_better s_x s_t s_g s_m x1 = some (.inl res)) (qo : Nat) (fo : Nat → Int64) : Met l yL_better (Cond.codeWith yL_better cL_better 4 (some .int) [(0, 9, 12, 18)] :: WG) { frames := 8, cells := 0, slots := 0, locals := 134 } (va_Pc [.ref o_x, .int x1, .ref qo] (mP D cs (List.flatten [w10 cs o_x a_x s_x, w9 cs (a_x 2) a_t s_t, w7 cs (a_x 1) a_g s_g, w4 cs (a_x 10) a_m s_m, wO cs qo fo]) sz)) (qI D cs 0 (List.flatten [w10 cs o_x a_x s_x, w9 cs (a_x 2) a_t s_t, w7 cs (a_x 1) a_g res.2.1, w4 cs (a_x 10) a_m res.2.2, wO cs qo (up64 fo res.1.toInt64)]) (va_A (List.flatten [w10 cs o_x a_x s_x, w9 cs (a_x 2) a_t s_t, w7 cs (a_x 1) a_g s_g, w4 cs (a_x 10) a_m s_m, wO cs qo fo]) sz)) 0 0 (va_A (List.flatten [w10 cs o_x a_x s_x, w9 cs (a_x 2) a_t s_t, w7 cs (a_x 1) a_g s_g, w4 cs (a_x 10) a_m s_m, wO cs qo fo]) sz) := by
  refine mgoW (hh := [(0, 9, 12, 18)]) (Qc := qI D cs 0 (List.flatten [w10 cs o_x a_x s_x, w9 cs (a_x 2) a_t s_t, w7 cs (a_x 1) a_g res.2.1, w4 cs (a_x 10) a_m res.2.2, wO cs qo (up64 fo res.1.toInt64)])) (cc := cL_better) (maxL := 4) (ret := some .int) (by decide) rfl (Nat.le_of_ble_eq_true rfl) ?_
  intro p e s m below meth c ls A R Q args H hR hQ hx hb hml hr hlocks htab hown hts hP hK hD hA hS hG hl
  subst hR
  have hown : s.vm.findClass RL = some m.cls := hown
  have hl : lv_has ls 4 [(0, .ref o_x), (1, .int x1), (2, .ref qo)] := hl
  have hW : ∀ w ∈ WG, w.before args s = true := fun w h => hts w (List.mem_cons_of_mem _ h)
  refine lv_aload_n hx hb dL_better_0 rfl (lv_at hl 2 rfl) ?_
  refine lv_iconst (v := 0) hx hb dL_better_1 (by decide) ?_
  refine lv_aload_n hx hb dL_better_2 rfl (lv_at hl 0 rfl) ?_
  refine lv_iload_n hx hb dL_better_3 rfl (lv_at hl 1 rfl) ?_
  refine mcVi (v := res.1) (rest := [.int 0, .ref qo]) (Bn := [w10 cs o_x a_x s_x, w9 cs (a_x 2) a_t s_t, w7 cs (a_x 1) a_g res.2.1, w4 cs (a_x 10) a_m res.2.2, wO cs qo fo]) (isR := [4]) (isC := [0, 1, 2, 3]) (i0 := 0) ⟨hx, hb, hml, hown, hts⟩ hK hP hD hS hA hG (c10_better l D cs o_x a_x a_t a_g a_m s_x s_t s_g s_m H.size x1 _ hf) (cwV 1 hts (gV wd1125 wd1126 wd1127 wd105 wd1128) rfl rfl rfl (by decide +kernel) ⟨(Nat.le_of_ble_eq_true rfl), (Nat.le_of_ble_eq_true rfl)⟩) 5 (by decide) rfl rfl rfl rfl rfl rfl rfl e10 rfl rfl rfl hl.1 rfl (Nat.le_of_ble_eq_true rfl) ⟨Nat.zero_le _, Nat.zero_le _⟩ dL_better_4 (fun H locs hP hD hS => ?_)
  refine lv_i2l hx hb dL_better_7 rfl ?_
  refine lsO (i0 := 4) (q := qo) (f := fo) hx hb hK hP hD hS rfl dL_better_8 rfl (fun H locs hP hD hS => ?_)
  refine lv_goto (tgt := 15) hx hb dL_better_9 (by decide) ?_
  refine lv_iconst (v := 0) hx hb dL_better_15 (by decide) ?_
  exact mretI hx hb hr hlocks hK hP hD hS rfl hQ dL_better_16
set_option maxHeartbeats 4000000 in
set_option maxRecDepth 100000 in
theorem wx_better (l : Launch) (D : va_G) (cs : xE) (hl0 : l.stackTraces = false) (o_x : Nat) (a_x : Nat → Nat) (a_t : Nat → Nat) (a_g : Nat → Nat) (a_m : Nat → Nat) (s_x : St) (s_t : St) (s_g : St) (s_m : St) (sz : Nat) (x1 : Int32) (k : Nat) (hf : f10_better s_x s_t s_g s_m x1 = some (.inr k)) (hk : k ≠ 0) (qo : Nat) (fo : Nat → Int64) : Met l yL_better (Cond.codeWith yL_better cL_better 4 (some .int) [(0, 9, 12, 18)] :: WG) { frames := 8, cells := 1, slots := 6, locals := 134 } (va_Pc [.ref o_x, .int x1, .ref qo] (mP D cs (List.flatten [w10 cs o_x a_x s_x, w9 cs (a_x 2) a_t s_t, w7 cs (a_x 1) a_g s_g, w4 cs (a_x 10) a_m s_m, wO cs qo fo]) sz)) (qI D cs 1 (List.flatten [w10 cs o_x a_x s_x, w9 cs (a_x 2) a_t s_t, w7 cs (a_x 1) a_g s_g, w4 cs (a_x 10) a_m s_m, wO cs qo fo]) (va_A (List.flatten [w10 cs o_x a_x s_x, w9 cs (a_x 2) a_t s_t, w7 cs (a_x 1) a_g s_g, w4 cs (a_x 10) a_m s_m, wO cs qo fo]) sz)) 1 6 (va_A (List.flatten [w10 cs o_x a_x s_x, w9 cs (a_x 2) a_t s_t, w7 cs (a_x 1) a_g s_g, w4 cs (a_x 10) a_m s_m, wO cs qo fo]) sz) := by
  refine mgoW (hh := [(0, 9, 12, 18)]) (Qc := qI D cs 1 (List.flatten [w10 cs o_x a_x s_x, w9 cs (a_x 2) a_t s_t, w7 cs (a_x 1) a_g s_g, w4 cs (a_x 10) a_m s_m, wO cs qo fo])) (cc := cL_better) (maxL := 4) (ret := some .int) (by decide) rfl (Nat.le_of_ble_eq_true rfl) ?_
  intro p e s m below meth c ls A R Q args H hR hQ hx hb hml hr hlocks htab hown hts hP hK hD hA hS hG hl
  subst hR
  have hown : s.vm.findClass RL = some m.cls := hown
  have hl : lv_has ls 4 [(0, .ref o_x), (1, .int x1), (2, .ref qo)] := hl
  have hW : ∀ w ∈ WG, w.before args s = true := fun w h => hts w (List.mem_cons_of_mem _ h)
  refine lv_aload_n hx hb dL_better_0 rfl (lv_at hl 2 rfl) ?_
  refine lv_iconst (v := 0) hx hb dL_better_1 (by decide) ?_
  refine lv_aload_n hx hb dL_better_2 rfl (lv_at hl 0 rfl) ?_
  refine lv_iload_n hx hb dL_better_3 rfl (lv_at hl 1 rfl) ?_
  refine mxCV (k := k) (rest := [.int 0, .ref qo]) (isR := [4]) (isC := [0, 1, 2, 3]) (i0 := 0) ⟨hx, hb, hml, hown, hts⟩ hK hP hD hS hA hG (c10x_better l D cs hl0 o_x a_x a_t a_g a_m s_x s_t s_g s_m H.size x1 k hf) (cwV 1 hts (gV wd1125 wd1126 wd1127 wd105 wd1128) rfl rfl rfl (by decide +kernel) ⟨(Nat.le_of_ble_eq_true rfl), (Nat.le_of_ble_eq_true rfl)⟩) 5 (by decide) rfl rfl rfl rfl e10 rfl rfl rfl hl.1 rfl (Nat.le_of_ble_eq_true rfl) ⟨(Nat.le_of_ble_eq_true rfl), (Nat.le_of_ble_eq_true rfl)⟩ dL_better_4 (fun ce q9 H locs hP hD hS h1 h2 h3 => ?_)
  refine cTN (hi := 9) (hp := 12) (suf := []) hown hW hG htab (by decide) hk h1 h2 h3 ?_
  refine lv_astore_n (lv' := [(3, .ref q9), (0, .ref o_x), (1, .int x1), (2, .ref qo)]) hx hb dL_better_12 rfl hl (by decide) rfl (fun ls hl => ?_)
  refine lv_iconst (v := 1) hx hb dL_better_13 (by decide) ?_
  exact mretI hx hb hr hlocks hK hP hD hS rfl hQ dL_better_14
set_option maxHeartbeats 4000000 in
set_option maxRecDepth 100000 in
theorem wl_treaty (l : Launch) (D : va_G) (cs : xE) (o_x : Nat) (a_x : Nat → Nat) (a_t : Nat → Nat) (a_t2 : Nat → Nat) (a_g : Nat → Nat) (s_x : St) (s_t : St) (s_t2 : St) (s_e : St) (s_g : St) (sz : Nat) (x1 : Int32) (res : Int32 × St × St × St) (hf : f10_treaty s_x s_t s_t2 s_e s_g x1 = some (.inl res)) (qo : Nat) (fo : Nat → Int64) : Met l yL_treaty (Cond.codeWith yL_treaty cL_treaty 4 (some .int) [(0, 9, 12, 18)] :: WG) { frames := 8, cells := 0, slots := 0, locals := 141 } (va_Pc [.ref o_x, .int x1, .ref qo] (mP D cs (List.flatten [w10 cs o_x a_x s_x, w9 cs (a_x 2) a_t s_t, w9 cs (a_x 9) a_t2 s_t2, w2 cs (a_x 8) a0n s_e, w7 cs (a_x 1) a_g s_g, wO cs qo fo]) sz)) (qI D cs 0 (List.flatten [w10 cs o_x a_x s_x, w9 cs (a_x 2) a_t s_t, w9 cs (a_x 9) a_t2 res.2.1, w2 cs (a_x 8) a0n res.2.2.1, w7 cs (a_x 1) a_g res.2.2.2, wO cs qo (up64 fo res.1.toInt64)]) (va_A (List.flatten [w10 cs o_x a_x s_x, w9 cs (a_x 2) a_t s_t, w9 cs (a_x 9) a_t2 s_t2, w2 cs (a_x 8) a0n s_e, w7 cs (a_x 1) a_g s_g, wO cs qo fo]) sz)) 0 0 (va_A (List.flatten [w10 cs o_x a_x s_x, w9 cs (a_x 2) a_t s_t, w9 cs (a_x 9) a_t2 s_t2, w2 cs (a_x 8) a0n s_e, w7 cs (a_x 1) a_g s_g, wO cs qo fo]) sz) := by
  refine mgoW (hh := [(0, 9, 12, 18)]) (Qc := qI D cs 0 (List.flatten [w10 cs o_x a_x s_x, w9 cs (a_x 2) a_t s_t, w9 cs (a_x 9) a_t2 res.2.1, w2 cs (a_x 8) a0n res.2.2.1, w7 cs (a_x 1) a_g res.2.2.2, wO cs qo (up64 fo res.1.toInt64)])) (cc := cL_treaty) (maxL := 4) (ret := some .int) (by decide) rfl (Nat.le_of_ble_eq_true rfl) ?_
  intro p e s m below meth c ls A R Q args H hR hQ hx hb hml hr hlocks htab hown hts hP hK hD hA hS hG hl
  subst hR
  have hown : s.vm.findClass RL = some m.cls := hown
  have hl : lv_has ls 4 [(0, .ref o_x), (1, .int x1), (2, .ref qo)] := hl
  have hW : ∀ w ∈ WG, w.before args s = true := fun w h => hts w (List.mem_cons_of_mem _ h)
  refine lv_aload_n hx hb dL_treaty_0 rfl (lv_at hl 2 rfl) ?_
  refine lv_iconst (v := 0) hx hb dL_treaty_1 (by decide) ?_
  refine lv_aload_n hx hb dL_treaty_2 rfl (lv_at hl 0 rfl) ?_
  refine lv_iload_n hx hb dL_treaty_3 rfl (lv_at hl 1 rfl) ?_
  refine mcVi (v := res.1) (rest := [.int 0, .ref qo]) (Bn := [w10 cs o_x a_x s_x, w9 cs (a_x 2) a_t s_t, w9 cs (a_x 9) a_t2 res.2.1, w2 cs (a_x 8) a0n res.2.2.1, w7 cs (a_x 1) a_g res.2.2.2, wO cs qo fo]) (isR := [5]) (isC := [0, 1, 2, 3, 4]) (i0 := 0) ⟨hx, hb, hml, hown, hts⟩ hK hP hD hS hA hG (c10_treaty l D cs o_x a_x a_t a_t2 a_g s_x s_t s_t2 s_e s_g H.size x1 _ hf) (cwV 1 hts (gV wd1169 wd1170 wd1171 wd105 wd1172) rfl rfl rfl (by decide +kernel) ⟨(Nat.le_of_ble_eq_true rfl), (Nat.le_of_ble_eq_true rfl)⟩) 6 (by decide) rfl rfl rfl rfl rfl rfl rfl e10 rfl rfl rfl hl.1 rfl (Nat.le_of_ble_eq_true rfl) ⟨Nat.zero_le _, Nat.zero_le _⟩ dL_treaty_4 (fun H locs hP hD hS => ?_)
  refine lv_i2l hx hb dL_treaty_7 rfl ?_
  refine lsO (i0 := 5) (q := qo) (f := fo) hx hb hK hP hD hS rfl dL_treaty_8 rfl (fun H locs hP hD hS => ?_)
  refine lv_goto (tgt := 15) hx hb dL_treaty_9 (by decide) ?_
  refine lv_iconst (v := 0) hx hb dL_treaty_15 (by decide) ?_
  exact mretI hx hb hr hlocks hK hP hD hS rfl hQ dL_treaty_16
set_option maxHeartbeats 4000000 in
set_option maxRecDepth 100000 in
theorem wx_treaty (l : Launch) (D : va_G) (cs : xE) (hl0 : l.stackTraces = false) (o_x : Nat) (a_x : Nat → Nat) (a_t : Nat → Nat) (a_t2 : Nat → Nat) (a_g : Nat → Nat) (s_x : St) (s_t : St) (s_t2 : St) (s_e : St) (s_g : St) (sz : Nat) (x1 : Int32) (k : Nat) (hf : f10_treaty s_x s_t s_t2 s_e s_g x1 = some (.inr k)) (hk : k ≠ 0) (qo : Nat) (fo : Nat → Int64) : Met l yL_treaty (Cond.codeWith yL_treaty cL_treaty 4 (some .int) [(0, 9, 12, 18)] :: WG) { frames := 8, cells := 1, slots := 6, locals := 141 } (va_Pc [.ref o_x, .int x1, .ref qo] (mP D cs (List.flatten [w10 cs o_x a_x s_x, w9 cs (a_x 2) a_t s_t, w9 cs (a_x 9) a_t2 s_t2, w2 cs (a_x 8) a0n s_e, w7 cs (a_x 1) a_g s_g, wO cs qo fo]) sz)) (qI D cs 1 (List.flatten [w10 cs o_x a_x s_x, w9 cs (a_x 2) a_t s_t, w9 cs (a_x 9) a_t2 s_t2, w2 cs (a_x 8) a0n s_e, w7 cs (a_x 1) a_g s_g, wO cs qo fo]) (va_A (List.flatten [w10 cs o_x a_x s_x, w9 cs (a_x 2) a_t s_t, w9 cs (a_x 9) a_t2 s_t2, w2 cs (a_x 8) a0n s_e, w7 cs (a_x 1) a_g s_g, wO cs qo fo]) sz)) 1 6 (va_A (List.flatten [w10 cs o_x a_x s_x, w9 cs (a_x 2) a_t s_t, w9 cs (a_x 9) a_t2 s_t2, w2 cs (a_x 8) a0n s_e, w7 cs (a_x 1) a_g s_g, wO cs qo fo]) sz) := by
  refine mgoW (hh := [(0, 9, 12, 18)]) (Qc := qI D cs 1 (List.flatten [w10 cs o_x a_x s_x, w9 cs (a_x 2) a_t s_t, w9 cs (a_x 9) a_t2 s_t2, w2 cs (a_x 8) a0n s_e, w7 cs (a_x 1) a_g s_g, wO cs qo fo])) (cc := cL_treaty) (maxL := 4) (ret := some .int) (by decide) rfl (Nat.le_of_ble_eq_true rfl) ?_
  intro p e s m below meth c ls A R Q args H hR hQ hx hb hml hr hlocks htab hown hts hP hK hD hA hS hG hl
  subst hR
  have hown : s.vm.findClass RL = some m.cls := hown
  have hl : lv_has ls 4 [(0, .ref o_x), (1, .int x1), (2, .ref qo)] := hl
  have hW : ∀ w ∈ WG, w.before args s = true := fun w h => hts w (List.mem_cons_of_mem _ h)
  refine lv_aload_n hx hb dL_treaty_0 rfl (lv_at hl 2 rfl) ?_
  refine lv_iconst (v := 0) hx hb dL_treaty_1 (by decide) ?_
  refine lv_aload_n hx hb dL_treaty_2 rfl (lv_at hl 0 rfl) ?_
  refine lv_iload_n hx hb dL_treaty_3 rfl (lv_at hl 1 rfl) ?_
  refine mxCV (k := k) (rest := [.int 0, .ref qo]) (isR := [5]) (isC := [0, 1, 2, 3, 4]) (i0 := 0) ⟨hx, hb, hml, hown, hts⟩ hK hP hD hS hA hG (c10x_treaty l D cs hl0 o_x a_x a_t a_t2 a_g s_x s_t s_t2 s_e s_g H.size x1 k hf) (cwV 1 hts (gV wd1169 wd1170 wd1171 wd105 wd1172) rfl rfl rfl (by decide +kernel) ⟨(Nat.le_of_ble_eq_true rfl), (Nat.le_of_ble_eq_true rfl)⟩) 6 (by decide) rfl rfl rfl rfl e10 rfl rfl rfl hl.1 rfl (Nat.le_of_ble_eq_true rfl) ⟨(Nat.le_of_ble_eq_true rfl), (Nat.le_of_ble_eq_true rfl)⟩ dL_treaty_4 (fun ce q9 H locs hP hD hS h1 h2 h3 => ?_)
  refine cTN (hi := 9) (hp := 12) (suf := []) hown hW hG htab (by decide) hk h1 h2 h3 ?_
  refine lv_astore_n (lv' := [(3, .ref q9), (0, .ref o_x), (1, .int x1), (2, .ref qo)]) hx hb dL_treaty_12 rfl hl (by decide) rfl (fun ls hl => ?_)
  refine lv_iconst (v := 1) hx hb dL_treaty_13 (by decide) ?_
  exact mretI hx hb hr hlocks hK hP hD hS rfl hQ dL_treaty_14
