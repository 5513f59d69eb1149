/-! the constructors, one by one -/
set_option maxHeartbeats 4000000 in
set_option maxRecDepth 100000 in
theorem i0 (l : Launch) (D : va_G) (cs : xE) (o sz : Nat) : Met l yX0_init (Cond.code yX0_init cX0_init 1 none :: WG) { frames := 1, cells := 0, slots := 0, locals := 12 } (va_Pc [.ref o] (mCo D cs [(o, .inr (0, [.int 0]))] sz)) (qC D cs (fun x : Nat → Nat => [w0 cs o x zS]) (va_A [(o, .inr (0, [.int 0]))] sz)) 0 0 (va_A [(o, .inr (0, [.int 0]))] sz) := by
  refine mgC (cc := cX0_init) (maxL := 1) (by decide) rfl (Nat.le_of_ble_eq_true rfl) rfl ?_
  intro p e s m below meth c ls A Q args H hQ hx hb hml hr hlocks hin hown hts hP hK hD hA hS hG hX hl
  have hown : s.vm.findClass RX0 = some m.cls := hown
  have hl : lv_has ls 1 [(0, .ref o)] := hl
  have hW : ∀ w ∈ WG, w.before args s = true := fun w h => hts w (List.mem_cons_of_mem _ h)
  have htX0 : ∀ w ∈ u_ws RX0 TX0 1, w.before args s = true := fun w h => hW w (inW_X0 w h)
  have hP : va_P D vwCl ([(o, .inr (0, [.int 0]))] :: []).flatten H := hP
  have hD : va_D A ([(o, .inr (0, [.int 0]))] :: []).flatten := hD
  refine lv_aload_n hx hb dX0_init_0 rfl (lv_at hl 0 rfl) ?_
  refine W.objInit hx hb hown (hW _ wd392) (hW _ wd135) (hW _ wd136) rfl (hl.1.trans hml.symm) rfl dX0_init_1 (Nat.le_of_ble_eq_true rfl) (Nat.le_of_ble_eq_true rfl) ?_
  refine W.eq (g2 := F0 m 4 ls []) rfl ?_
  exact cRet (x := (fun _ => 0)) (Wx := fun x : Nat → Nat => [w0 cs o x zS]) hx hb hr hlocks hK hP hD hS hQ dX0_init_4
set_option maxHeartbeats 4000000 in
set_option maxRecDepth 100000 in
theorem i1 (l : Launch) (D : va_G) (cs : xE) (o sz : Nat) : Met l yX1_init (Cond.code yX1_init cX1_init 1 none :: WG) { frames := 1, cells := 0, slots := 0, locals := 12 } (va_Pc [.ref o] (mCo D cs [(o, .inr (1, [.int 0, .int 0, .int 0, .int 0, .int 0, .int 0]))] sz)) (qC D cs (fun x : Nat → Nat => [w1 cs o x zS]) (va_A [(o, .inr (1, [.int 0, .int 0, .int 0, .int 0, .int 0, .int 0]))] sz)) 0 0 (va_A [(o, .inr (1, [.int 0, .int 0, .int 0, .int 0, .int 0, .int 0]))] sz) := by
  refine mgC (cc := cX1_init) (maxL := 1) (by decide) rfl (Nat.le_of_ble_eq_true rfl) rfl ?_
  intro p e s m below meth c ls A Q args H hQ hx hb hml hr hlocks hin hown hts hP hK hD hA hS hG hX hl
  have hown : s.vm.findClass RX1 = some m.cls := hown
  have hl : lv_has ls 1 [(0, .ref o)] := hl
  have hW : ∀ w ∈ WG, w.before args s = true := fun w h => hts w (List.mem_cons_of_mem _ h)
  have htX1 : ∀ w ∈ u_ws RX1 TX1 6, w.before args s = true := fun w h => hW w (inW_X1 w h)
  have hP : va_P D vwCl ([(o, .inr (1, [.int 0, .int 0, .int 0, .int 0, .int 0, .int 0]))] :: []).flatten H := hP
  have hD : va_D A ([(o, .inr (1, [.int 0, .int 0, .int 0, .int 0, .int 0, .int 0]))] :: []).flatten := hD
  refine lv_aload_n hx hb dX1_init_0 rfl (lv_at hl 0 rfl) ?_
  refine W.objInit hx hb hown (hW _ wd403) (hW _ wd135) (hW _ wd136) rfl (hl.1.trans hml.symm) rfl dX1_init_1 (Nat.le_of_ble_eq_true rfl) (Nat.le_of_ble_eq_true rfl) ?_
  refine W.eq (g2 := F0 m 4 ls []) rfl ?_
  exact cRet (x := (fun _ => 0)) (Wx := fun x : Nat → Nat => [w1 cs o x zS]) hx hb hr hlocks hK hP hD hS hQ dX1_init_4
set_option maxHeartbeats 4000000 in
set_option maxRecDepth 100000 in
theorem i2 (l : Launch) (D : va_G) (cs : xE) (o sz : Nat) : Met l yX2_init (Cond.code yX2_init cX2_init 1 none :: WG) { frames := 1, cells := 0, slots := 0, locals := 12 } (va_Pc [.ref o] (mCo D cs [(o, .inr (2, [.int 0, .int 0, .int 0, .int 0, .int 0]))] sz)) (qC D cs (fun x : Nat → Nat => [w2 cs o x zS]) (va_A [(o, .inr (2, [.int 0, .int 0, .int 0, .int 0, .int 0]))] sz)) 0 0 (va_A [(o, .inr (2, [.int 0, .int 0, .int 0, .int 0, .int 0]))] sz) := by
  refine mgC (cc := cX2_init) (maxL := 1) (by decide) rfl (Nat.le_of_ble_eq_true rfl) rfl ?_
  intro p e s m below meth c ls A Q args H hQ hx hb hml hr hlocks hin hown hts hP hK hD hA hS hG hX hl
  have hown : s.vm.findClass RX2 = some m.cls := hown
  have hl : lv_has ls 1 [(0, .ref o)] := hl
  have hW : ∀ w ∈ WG, w.before args s = true := fun w h => hts w (List.mem_cons_of_mem _ h)
  have htX2 : ∀ w ∈ u_ws RX2 TX2 5, w.before args s = true := fun w h => hW w (inW_X2 w h)
  have hP : va_P D vwCl ([(o, .inr (2, [.int 0, .int 0, .int 0, .int 0, .int 0]))] :: []).flatten H := hP
  have hD : va_D A ([(o, .inr (2, [.int 0, .int 0, .int 0, .int 0, .int 0]))] :: []).flatten := hD
  refine lv_aload_n hx hb dX2_init_0 rfl (lv_at hl 0 rfl) ?_
  refine W.objInit hx hb hown (hW _ wd346) (hW _ wd135) (hW _ wd136) rfl (hl.1.trans hml.symm) rfl dX2_init_1 (Nat.le_of_ble_eq_true rfl) (Nat.le_of_ble_eq_true rfl) ?_
  refine W.eq (g2 := F0 m 4 ls []) rfl ?_
  exact cRet (x := (fun _ => 0)) (Wx := fun x : Nat → Nat => [w2 cs o x zS]) hx hb hr hlocks hK hP hD hS hQ dX2_init_4
set_option maxHeartbeats 4000000 in
set_option maxRecDepth 100000 in
theorem i7 (l : Launch) (D : va_G) (cs : xE) (o sz : Nat) : Met l yX7_init (Cond.code yX7_init cX7_init 1 none :: WG) { frames := 1, cells := 3, slots := 670, locals := 12 } (va_Pc [.ref o] (mCo D cs [(o, .inr (7, [.null, .null, .null, .int 0]))] sz)) (qC D cs (fun x : Nat → Nat => [w7 cs o x zS]) (va_A [(o, .inr (7, [.null, .null, .null, .int 0]))] sz)) 3 670 (va_A [(o, .inr (7, [.null, .null, .null, .int 0]))] sz) := by
  refine mgC (cc := cX7_init) (maxL := 1) (by decide) rfl (Nat.le_of_ble_eq_true rfl) rfl ?_
  intro p e s m below meth c ls A Q args H hQ hx hb hml hr hlocks hin hown hts hP hK hD hA hS hG hX hl
  have hown : s.vm.findClass RX7 = some m.cls := hown
  have hl : lv_has ls 1 [(0, .ref o)] := hl
  have hW : ∀ w ∈ WG, w.before args s = true := fun w h => hts w (List.mem_cons_of_mem _ h)
  have htX7 : ∀ w ∈ u_ws RX7 TX7 4, w.before args s = true := fun w h => hW w (inW_X7 w h)
  have hP : va_P D vwCl ([(o, .inr (7, [.null, .null, .null, .int 0]))] :: []).flatten H := hP
  have hD : va_D A ([(o, .inr (7, [.null, .null, .null, .int 0]))] :: []).flatten := hD
  refine lv_aload_n hx hb dX7_init_0 rfl (lv_at hl 0 rfl) ?_
  refine W.objInit hx hb hown (hW _ wd212) (hW _ wd135) (hW _ wd136) rfl (hl.1.trans hml.symm) rfl dX7_init_1 (Nat.le_of_ble_eq_true rfl) (Nat.le_of_ble_eq_true rfl) ?_
  refine W.eq (g2 := F0 m 4 ls []) rfl ?_
  refine lv_aload_n hx hb dX7_init_4 rfl (lv_at hl 0 rfl) ?_
  refine lv_sipush (v := 600) hx hb dX7_init_5 (by decide) ?_
  refine cNI (N := 600) hx hb hW hK hP hD hS hA (by decide) (by decide +kernel) (Nat.le_of_ble_eq_true rfl) (Nat.le_of_ble_eq_true rfl) (Nat.le_of_ble_eq_true rfl) dX7_init_8 (fun q8 H hP hD hS => ?_)
  refine W.widen (k := 1) (n := 600) (Nat.le_of_ble_eq_true rfl) (Nat.le_of_ble_eq_true rfl) ?_
  refine cPF (k := 0) (C := RX7) (T := TX7) (N := 4) (fs' := [.ref q8, .null, .null, .int 0]) tyX7 tyX7_ok nmX7 hx hb htX7 hown hK hP hD hS rfl (by decide) (hW _ wd213) rfl hin rfl rfl rfl (Nat.le_of_ble_eq_true rfl) dX7_init_10 rfl (fun H locs hP hD hS => ?_)
  refine lv_aload_n hx hb dX7_init_13 rfl (lv_at hl 0 rfl) ?_
  refine lv_bipush (v := 64) hx hb dX7_init_14 (by decide) ?_
  refine cNI (N := 64) hx hb hW hK hP hD hS hA (by decide) (by decide +kernel) (Nat.le_of_ble_eq_true rfl) (Nat.le_of_ble_eq_true rfl) (Nat.le_of_ble_eq_true rfl) dX7_init_16 (fun q16 H hP hD hS => ?_)
  refine W.widen (k := 2) (n := 664) (Nat.le_of_ble_eq_true rfl) (Nat.le_of_ble_eq_true rfl) ?_
  refine cPF (k := 1) (C := RX7) (T := TX7) (N := 4) (fs' := [.ref q8, .ref q16, .null, .int 0]) tyX7 tyX7_ok nmX7 hx hb htX7 hown hK hP hD hS rfl (by decide) (hW _ wd214) rfl hin rfl rfl rfl (Nat.le_of_ble_eq_true rfl) dX7_init_18 rfl (fun H locs hP hD hS => ?_)
  refine lv_aload_n hx hb dX7_init_21 rfl (lv_at hl 0 rfl) ?_
  refine lv_bipush (v := 6) hx hb dX7_init_22 (by decide) ?_
  refine cNI (N := 6) hx hb hW hK hP hD hS hA (by decide) (by decide +kernel) (Nat.le_of_ble_eq_true rfl) (Nat.le_of_ble_eq_true rfl) (Nat.le_of_ble_eq_true rfl) dX7_init_24 (fun q24 H hP hD hS => ?_)
  refine W.widen (k := 3) (n := 670) (Nat.le_of_ble_eq_true rfl) (Nat.le_of_ble_eq_true rfl) ?_
  refine cPF (k := 2) (C := RX7) (T := TX7) (N := 4) (fs' := [.ref q8, .ref q16, .ref q24, .int 0]) tyX7 tyX7_ok nmX7 hx hb htX7 hown hK hP hD hS rfl (by decide) (hW _ wd215) rfl hin rfl rfl rfl (Nat.le_of_ble_eq_true rfl) dX7_init_26 rfl (fun H locs hP hD hS => ?_)
  obtain ⟨hP, hD⟩ := cOrd (is := [0, 3, 2, 1]) 4 hP hD rfl (by decide) rfl
  exact cRet (x := (fun k : Nat => if k = 0 then q8 else if k = 1 then q16 else if k = 2 then q24 else 0)) (Wx := fun x : Nat → Nat => [w7 cs o x zS]) hx hb hr hlocks hK hP hD hS hQ dX7_init_29
set_option maxHeartbeats 4000000 in
set_option maxRecDepth 100000 in
theorem i8 (l : Launch) (D : va_G) (cs : xE) (o sz : Nat) : Met l yX8_init (Cond.code yX8_init cX8_init 1 none :: WG) { frames := 1, cells := 2, slots := 16, locals := 12 } (va_Pc [.ref o] (mCo D cs [(o, .inr (8, [.int 0, .int 0, .null, .null]))] sz)) (qC D cs (fun x : Nat → Nat => [w8 cs o x zS]) (va_A [(o, .inr (8, [.int 0, .int 0, .null, .null]))] sz)) 2 16 (va_A [(o, .inr (8, [.int 0, .int 0, .null, .null]))] sz) := by
  refine mgC (cc := cX8_init) (maxL := 1) (by decide) rfl (Nat.le_of_ble_eq_true rfl) rfl ?_
  intro p e s m below meth c ls A Q args H hQ hx hb hml hr hlocks hin hown hts hP hK hD hA hS hG hX hl
  have hown : s.vm.findClass RX8 = some m.cls := hown
  have hl : lv_has ls 1 [(0, .ref o)] := hl
  have hW : ∀ w ∈ WG, w.before args s = true := fun w h => hts w (List.mem_cons_of_mem _ h)
  have htX8 : ∀ w ∈ u_ws RX8 TX8 4, w.before args s = true := fun w h => hW w (inW_X8 w h)
  have hP : va_P D vwCl ([(o, .inr (8, [.int 0, .int 0, .null, .null]))] :: []).flatten H := hP
  have hD : va_D A ([(o, .inr (8, [.int 0, .int 0, .null, .null]))] :: []).flatten := hD
  refine lv_aload_n hx hb dX8_init_0 rfl (lv_at hl 0 rfl) ?_
  refine W.objInit hx hb hown (hW _ wd294) (hW _ wd135) (hW _ wd136) rfl (hl.1.trans hml.symm) rfl dX8_init_1 (Nat.le_of_ble_eq_true rfl) (Nat.le_of_ble_eq_true rfl) ?_
  refine W.eq (g2 := F0 m 4 ls []) rfl ?_
  refine lv_aload_n hx hb dX8_init_4 rfl (lv_at hl 0 rfl) ?_
  refine lv_bipush (v := 8) hx hb dX8_init_5 (by decide) ?_
  refine cNI (N := 8) hx hb hW hK hP hD hS hA (by decide) (by decide +kernel) (Nat.le_of_ble_eq_true rfl) (Nat.le_of_ble_eq_true rfl) (Nat.le_of_ble_eq_true rfl) dX8_init_7 (fun q7 H hP hD hS => ?_)
  refine W.widen (k := 1) (n := 8) (Nat.le_of_ble_eq_true rfl) (Nat.le_of_ble_eq_true rfl) ?_
  refine cPF (k := 2) (C := RX8) (T := TX8) (N := 4) (fs' := [.int 0, .int 0, .ref q7, .null]) tyX8 tyX8_ok nmX8 hx hb htX8 hown hK hP hD hS rfl (by decide) (hW _ wd298) rfl hin rfl rfl rfl (Nat.le_of_ble_eq_true rfl) dX8_init_9 rfl (fun H locs hP hD hS => ?_)
  refine lv_aload_n hx hb dX8_init_12 rfl (lv_at hl 0 rfl) ?_
  refine lv_bipush (v := 8) hx hb dX8_init_13 (by decide) ?_
  refine cNI (N := 8) hx hb hW hK hP hD hS hA (by decide) (by decide +kernel) (Nat.le_of_ble_eq_true rfl) (Nat.le_of_ble_eq_true rfl) (Nat.le_of_ble_eq_true rfl) dX8_init_15 (fun q15 H hP hD hS => ?_)
  refine W.widen (k := 2) (n := 16) (Nat.le_of_ble_eq_true rfl) (Nat.le_of_ble_eq_true rfl) ?_
  refine cPF (k := 3) (C := RX8) (T := TX8) (N := 4) (fs' := [.int 0, .int 0, .ref q7, .ref q15]) tyX8 tyX8_ok nmX8 hx hb htX8 hown hK hP hD hS rfl (by decide) (hW _ wd299) rfl hin rfl rfl rfl (Nat.le_of_ble_eq_true rfl) dX8_init_17 rfl (fun H locs hP hD hS => ?_)
  obtain ⟨hP, hD⟩ := cOrd (is := [0, 2, 1]) 3 hP hD rfl (by decide) rfl
  exact cRet (x := (fun k : Nat => if k = 2 then q7 else if k = 3 then q15 else 0)) (Wx := fun x : Nat → Nat => [w8 cs o x zS]) hx hb hr hlocks hK hP hD hS hQ dX8_init_20
set_option maxHeartbeats 4000000 in
set_option maxRecDepth 100000 in
theorem i9 (l : Launch) (D : va_G) (cs : xE) (o sz : Nat) : Met l yX9_init (Cond.code yX9_init cX9_init 1 none :: WG) { frames := 1, cells := 6, slots := 60, locals := 12 } (va_Pc [.ref o] (mCo D cs [(o, .inr (9, [.int 0, .int 0, .int 0, .int 0, .int 0, .null, .null, .null, .null, .null, .null]))] sz)) (qC D cs (fun x : Nat → Nat => [w9 cs o x zS]) (va_A [(o, .inr (9, [.int 0, .int 0, .int 0, .int 0, .int 0, .null, .null, .null, .null, .null, .null]))] sz)) 6 60 (va_A [(o, .inr (9, [.int 0, .int 0, .int 0, .int 0, .int 0, .null, .null, .null, .null, .null, .null]))] sz) := by
  refine mgC (cc := cX9_init) (maxL := 1) (by decide) rfl (Nat.le_of_ble_eq_true rfl) rfl ?_
  intro p e s m below meth c ls A Q args H hQ hx hb hml hr hlocks hin hown hts hP hK hD hA hS hG hX hl
  have hown : s.vm.findClass RX9 = some m.cls := hown
  have hl : lv_has ls 1 [(0, .ref o)] := hl
  have hW : ∀ w ∈ WG, w.before args s = true := fun w h => hts w (List.mem_cons_of_mem _ h)
  have htX9 : ∀ w ∈ u_ws RX9 TX9 11, w.before args s = true := fun w h => hW w (inW_X9 w h)
  have hP : va_P D vwCl ([(o, .inr (9, [.int 0, .int 0, .int 0, .int 0, .int 0, .null, .null, .null, .null, .null, .null]))] :: []).flatten H := hP
  have hD : va_D A ([(o, .inr (9, [.int 0, .int 0, .int 0, .int 0, .int 0, .null, .null, .null, .null, .null, .null]))] :: []).flatten := hD
  refine lv_aload_n hx hb dX9_init_0 rfl (lv_at hl 0 rfl) ?_
  refine W.objInit hx hb hown (hW _ wd148) (hW _ wd135) (hW _ wd136) rfl (hl.1.trans hml.symm) rfl dX9_init_1 (Nat.le_of_ble_eq_true rfl) (Nat.le_of_ble_eq_true rfl) ?_
  refine W.eq (g2 := F0 m 4 ls []) rfl ?_
  refine lv_aload_n hx hb dX9_init_4 rfl (lv_at hl 0 rfl) ?_
  refine lv_bipush (v := 8) hx hb dX9_init_5 (by decide) ?_
  refine cNI (N := 8) hx hb hW hK hP hD hS hA (by decide) (by decide +kernel) (Nat.le_of_ble_eq_true rfl) (Nat.le_of_ble_eq_true rfl) (Nat.le_of_ble_eq_true rfl) dX9_init_7 (fun q7 H hP hD hS => ?_)
  refine W.widen (k := 1) (n := 8) (Nat.le_of_ble_eq_true rfl) (Nat.le_of_ble_eq_true rfl) ?_
  refine cPF (k := 5) (C := RX9) (T := TX9) (N := 11) (fs' := [.int 0, .int 0, .int 0, .int 0, .int 0, .ref q7, .null, .null, .null, .null, .null]) tyX9 tyX9_ok nmX9 hx hb htX9 hown hK hP hD hS rfl (by decide) (hW _ wd165) rfl hin rfl rfl rfl (Nat.le_of_ble_eq_true rfl) dX9_init_9 rfl (fun H locs hP hD hS => ?_)
  refine lv_aload_n hx hb dX9_init_12 rfl (lv_at hl 0 rfl) ?_
  refine lv_bipush (v := 8) hx hb dX9_init_13 (by decide) ?_
  refine cNI (N := 8) hx hb hW hK hP hD hS hA (by decide) (by decide +kernel) (Nat.le_of_ble_eq_true rfl) (Nat.le_of_ble_eq_true rfl) (Nat.le_of_ble_eq_true rfl) dX9_init_15 (fun q15 H hP hD hS => ?_)
  refine W.widen (k := 2) (n := 16) (Nat.le_of_ble_eq_true rfl) (Nat.le_of_ble_eq_true rfl) ?_
  refine cPF (k := 6) (C := RX9) (T := TX9) (N := 11) (fs' := [.int 0, .int 0, .int 0, .int 0, .int 0, .ref q7, .ref q15, .null, .null, .null, .null]) tyX9 tyX9_ok nmX9 hx hb htX9 hown hK hP hD hS rfl (by decide) (hW _ wd168) rfl hin rfl rfl rfl (Nat.le_of_ble_eq_true rfl) dX9_init_17 rfl (fun H locs hP hD hS => ?_)
  refine lv_aload_n hx hb dX9_init_20 rfl (lv_at hl 0 rfl) ?_
  refine lv_bipush (v := 8) hx hb dX9_init_21 (by decide) ?_
  refine cNI (N := 8) hx hb hW hK hP hD hS hA (by decide) (by decide +kernel) (Nat.le_of_ble_eq_true rfl) (Nat.le_of_ble_eq_true rfl) (Nat.le_of_ble_eq_true rfl) dX9_init_23 (fun q23 H hP hD hS => ?_)
  refine W.widen (k := 3) (n := 24) (Nat.le_of_ble_eq_true rfl) (Nat.le_of_ble_eq_true rfl) ?_
  refine cPF (k := 7) (C := RX9) (T := TX9) (N := 11) (fs' := [.int 0, .int 0, .int 0, .int 0, .int 0, .ref q7, .ref q15, .ref q23, .null, .null, .null]) tyX9 tyX9_ok nmX9 hx hb htX9 hown hK hP hD hS rfl (by decide) (hW _ wd170) rfl hin rfl rfl rfl (Nat.le_of_ble_eq_true rfl) dX9_init_25 rfl (fun H locs hP hD hS => ?_)
  refine lv_aload_n hx hb dX9_init_28 rfl (lv_at hl 0 rfl) ?_
  refine lv_bipush (v := 12) hx hb dX9_init_29 (by decide) ?_
  refine cNI (N := 12) hx hb hW hK hP hD hS hA (by decide) (by decide +kernel) (Nat.le_of_ble_eq_true rfl) (Nat.le_of_ble_eq_true rfl) (Nat.le_of_ble_eq_true rfl) dX9_init_31 (fun q31 H hP hD hS => ?_)
  refine W.widen (k := 4) (n := 36) (Nat.le_of_ble_eq_true rfl) (Nat.le_of_ble_eq_true rfl) ?_
  refine cPF (k := 8) (C := RX9) (T := TX9) (N := 11) (fs' := [.int 0, .int 0, .int 0, .int 0, .int 0, .ref q7, .ref q15, .ref q23, .ref q31, .null, .null]) tyX9 tyX9_ok nmX9 hx hb htX9 hown hK hP hD hS rfl (by decide) (hW _ wd172) rfl hin rfl rfl rfl (Nat.le_of_ble_eq_true rfl) dX9_init_33 rfl (fun H locs hP hD hS => ?_)
  refine lv_aload_n hx hb dX9_init_36 rfl (lv_at hl 0 rfl) ?_
  refine lv_bipush (v := 12) hx hb dX9_init_37 (by decide) ?_
  refine cNI (N := 12) hx hb hW hK hP hD hS hA (by decide) (by decide +kernel) (Nat.le_of_ble_eq_true rfl) (Nat.le_of_ble_eq_true rfl) (Nat.le_of_ble_eq_true rfl) dX9_init_39 (fun q39 H hP hD hS => ?_)
  refine W.widen (k := 5) (n := 48) (Nat.le_of_ble_eq_true rfl) (Nat.le_of_ble_eq_true rfl) ?_
  refine cPF (k := 9) (C := RX9) (T := TX9) (N := 11) (fs' := [.int 0, .int 0, .int 0, .int 0, .int 0, .ref q7, .ref q15, .ref q23, .ref q31, .ref q39, .null]) tyX9 tyX9_ok nmX9 hx hb htX9 hown hK hP hD hS rfl (by decide) (hW _ wd175) rfl hin rfl rfl rfl (Nat.le_of_ble_eq_true rfl) dX9_init_41 rfl (fun H locs hP hD hS => ?_)
  refine lv_aload_n hx hb dX9_init_44 rfl (lv_at hl 0 rfl) ?_
  refine lv_bipush (v := 12) hx hb dX9_init_45 (by decide) ?_
  refine cNI (N := 12) hx hb hW hK hP hD hS hA (by decide) (by decide +kernel) (Nat.le_of_ble_eq_true rfl) (Nat.le_of_ble_eq_true rfl) (Nat.le_of_ble_eq_true rfl) dX9_init_47 (fun q47 H hP hD hS => ?_)
  refine W.widen (k := 6) (n := 60) (Nat.le_of_ble_eq_true rfl) (Nat.le_of_ble_eq_true rfl) ?_
  refine cPF (k := 10) (C := RX9) (T := TX9) (N := 11) (fs' := [.int 0, .int 0, .int 0, .int 0, .int 0, .ref q7, .ref q15, .ref q23, .ref q31, .ref q39, .ref q47]) tyX9 tyX9_ok nmX9 hx hb htX9 hown hK hP hD hS rfl (by decide) (hW _ wd180) rfl hin rfl rfl rfl (Nat.le_of_ble_eq_true rfl) dX9_init_49 rfl (fun H locs hP hD hS => ?_)
  obtain ⟨hP, hD⟩ := cOrd (is := [0, 6, 5, 4, 3, 2, 1]) 7 hP hD rfl (by decide) rfl
  exact cRet (x := (fun k : Nat => if k = 5 then q7 else if k = 6 then q15 else if k = 7 then q23 else if k = 8 then q31 else if k = 9 then q39 else if k = 10 then q47 else 0)) (Wx := fun x : Nat → Nat => [w9 cs o x zS]) hx hb hr hlocks hK hP hD hS hQ dX9_init_52
set_option maxHeartbeats 4000000 in
set_option maxRecDepth 100000 in
theorem i6 (l : Launch) (D : va_G) (cs : xE) (o sz : Nat) : Met l yX6_init (Cond.code yX6_init cX6_init 1 none :: WG) { frames := 2, cells := 12, slots := 1345, locals := 32 } (va_Pc [.ref o] (mCo D cs [(o, .inr (6, [.null, .null, .int 0, .int 0, .null, .int 0, .int 0, .int 0, .int 0, .int 0, .int 0, .int 0]))] sz)) (qC D cs (fun x : Nat → Nat → Nat => [w6 cs o (x 0) zR, w9 cs (x 0 0) (x 1) zS, w7 cs (x 0 1) (x 2) zS]) (va_A [(o, .inr (6, [.null, .null, .int 0, .int 0, .null, .int 0, .int 0, .int 0, .int 0, .int 0, .int 0, .int 0]))] sz)) 12 1345 (va_A [(o, .inr (6, [.null, .null, .int 0, .int 0, .null, .int 0, .int 0, .int 0, .int 0, .int 0, .int 0, .int 0]))] sz) := by
  refine mgC (cc := cX6_init) (maxL := 1) (by decide) rfl (Nat.le_of_ble_eq_true rfl) rfl ?_
  intro p e s m below meth c ls A Q args H hQ hx hb hml hr hlocks hin hown hts hP hK hD hA hS hG hX hl
  have hown : s.vm.findClass RX6 = some m.cls := hown
  have hl : lv_has ls 1 [(0, .ref o)] := hl
  have hW : ∀ w ∈ WG, w.before args s = true := fun w h => hts w (List.mem_cons_of_mem _ h)
  have htX6 : ∀ w ∈ u_ws RX6 TX6 12, w.before args s = true := fun w h => hW w (inW_X6 w h)
  have hP : va_P D vwCl ([(o, .inr (6, [.null, .null, .int 0, .int 0, .null, .int 0, .int 0, .int 0, .int 0, .int 0, .int 0, .int 0]))] :: []).flatten H := hP
  have hD : va_D A ([(o, .inr (6, [.null, .null, .int 0, .int 0, .null, .int 0, .int 0, .int 0, .int 0, .int 0, .int 0, .int 0]))] :: []).flatten := hD
  refine lv_aload_n hx hb dX6_init_0 rfl (lv_at hl 0 rfl) ?_
  refine W.objInit hx hb hown (hW _ wd142) (hW _ wd135) (hW _ wd136) rfl (hl.1.trans hml.symm) rfl dX6_init_1 (Nat.le_of_ble_eq_true rfl) (Nat.le_of_ble_eq_true rfl) ?_
  refine W.eq (g2 := F0 m 4 ls []) rfl ?_
  refine lv_aload_n hx hb dX6_init_4 rfl (lv_at hl 0 rfl) ?_
  refine cNWn (own := RX6) (C := RX9) (T := TX9) (N := 11) (ci := 9) (y := yX9_init) (fs0 := [.int 0, .int 0, .int 0, .int 0, .int 0, .null, .null, .null, .null, .null, .null]) (Wf := fun o x => [w9 cs o x zS]) ⟨hx, hb, hml, hown, hts⟩ tyX9 tyX9_ok (fun w h => hW w (inW_X9 w h)) (hW _ wd143) (hW _ wd144) (hW _ wd107) hK hP hD hS hA hG hX rfl (fun j hj => by rcases (show j = 0 ∨ j = 1 ∨ j = 2 ∨ j = 3 ∨ j = 4 ∨ j = 5 ∨ j = 6 ∨ j = 7 ∨ j = 8 ∨ j = 9 ∨ j = 10 by omega) with rfl | rfl | rfl | rfl | rfl | rfl | rfl | rfl | rfl | rfl | rfl <;> rfl) (fun q sz => i9 l D cs q sz) (⟨va_cnB 0 hts (gI wd147) rfl rfl rfl (hG.2.2.2.2.2.2.1 _ (by decide +kernel) : va_Nw (Cond.methodLinkNest "TwinLamps$Reader" 11 yX9_init "TwinLamps") s) (hW _ wd107) (by decide +kernel) ⟨(Nat.le_of_ble_eq_true rfl), (Nat.le_of_ble_eq_true rfl)⟩, rfl, hW _ wd146⟩) hl.1 (Nat.le_of_ble_eq_true rfl) (Nat.le_of_ble_eq_true rfl) (Nat.le_of_ble_eq_true rfl) dX6_init_5 dX6_init_8 dX6_init_9 (fun q5 x5 H locs hP hD hS => ?_)
  refine W.widen (k := 7) (n := 71) (Nat.le_of_ble_eq_true rfl) (Nat.le_of_ble_eq_true rfl) ?_
  refine cPF (k := 0) (C := RX6) (T := TX6) (N := 12) (fs' := [.ref q5, .null, .int 0, .int 0, .null, .int 0, .int 0, .int 0, .int 0, .int 0, .int 0, .int 0]) tyX6 tyX6_ok nmX6 hx hb htX6 hown hK hP hD hS rfl (by decide) (hW _ wd226) rfl hin rfl rfl rfl (Nat.le_of_ble_eq_true rfl) dX6_init_12 rfl (fun H locs hP hD hS => ?_)
  refine lv_aload_n hx hb dX6_init_15 rfl (lv_at hl 0 rfl) ?_
  refine cNWn (own := RX6) (C := RX7) (T := TX7) (N := 4) (ci := 7) (y := yX7_init) (fs0 := [.null, .null, .null, .int 0]) (Wf := fun o x => [w7 cs o x zS]) ⟨hx, hb, hml, hown, hts⟩ tyX7 tyX7_ok (fun w h => hW w (inW_X7 w h)) (hW _ wd207) (hW _ wd208) (hW _ wd108) hK hP hD hS hA hG hX rfl (fun j hj => by rcases (show j = 0 ∨ j = 1 ∨ j = 2 ∨ j = 3 by omega) with rfl | rfl | rfl | rfl <;> rfl) (fun q sz => i7 l D cs q sz) (⟨va_cnB 0 hts (gI wd211) rfl rfl rfl (hG.2.2.2.2.2.2.1 _ (by decide +kernel) : va_Nw (Cond.methodLinkNest "TwinLamps$Reader" 20 yX7_init "TwinLamps") s) (hW _ wd108) (by decide +kernel) ⟨(Nat.le_of_ble_eq_true rfl), (Nat.le_of_ble_eq_true rfl)⟩, rfl, hW _ wd210⟩) hl.1 (Nat.le_of_ble_eq_true rfl) (Nat.le_of_ble_eq_true rfl) (Nat.le_of_ble_eq_true rfl) dX6_init_16 dX6_init_19 dX6_init_20 (fun q16 x16 H locs hP hD hS => ?_)
  refine W.widen (k := 11) (n := 745) (Nat.le_of_ble_eq_true rfl) (Nat.le_of_ble_eq_true rfl) ?_
  refine cPF (k := 1) (C := RX6) (T := TX6) (N := 12) (fs' := [.ref q5, .ref q16, .int 0, .int 0, .null, .int 0, .int 0, .int 0, .int 0, .int 0, .int 0, .int 0]) tyX6 tyX6_ok nmX6 hx hb htX6 hown hK hP hD hS rfl (by decide) (hW _ wd228) rfl hin rfl rfl rfl (Nat.le_of_ble_eq_true rfl) dX6_init_23 rfl (fun H locs hP hD hS => ?_)
  refine lv_aload_n hx hb dX6_init_26 rfl (lv_at hl 0 rfl) ?_
  refine lv_iconst (v := (-1)) hx hb dX6_init_27 (by decide) ?_
  refine cPN (k := 3) (C := RX6) (T := TX6) (N := 12) (fs' := [.ref q5, .ref q16, .int 0, .int (-1), .null, .int 0, .int 0, .int 0, .int 0, .int 0, .int 0, .int 0]) tyX6 tyX6_ok nmX6 hx hb htX6 hown hK hP hD hS rfl (by decide) (hW _ wd232) rfl rfl rfl (Nat.le_of_ble_eq_true rfl) dX6_init_28 rfl (fun H locs hP hD hS => ?_)
  refine lv_aload_n hx hb dX6_init_31 rfl (lv_at hl 0 rfl) ?_
  refine lv_sipush (v := 600) hx hb dX6_init_32 (by decide) ?_
  refine cNB (N := 600) hx hb hW hK hP hD hS hA (by decide) (by decide +kernel) (Nat.le_of_ble_eq_true rfl) (Nat.le_of_ble_eq_true rfl) (Nat.le_of_ble_eq_true rfl) dX6_init_35 (fun q35 H hP hD hS => ?_)
  refine W.widen (k := 12) (n := 1345) (Nat.le_of_ble_eq_true rfl) (Nat.le_of_ble_eq_true rfl) ?_
  refine cPF (k := 4) (C := RX6) (T := TX6) (N := 12) (fs' := [.ref q5, .ref q16, .int 0, .int (-1), .ref q35, .int 0, .int 0, .int 0, .int 0, .int 0, .int 0, .int 0]) tyX6 tyX6_ok nmX6 hx hb htX6 hown hK hP hD hS rfl (by decide) (hW _ wd234) rfl hin rfl rfl rfl (Nat.le_of_ble_eq_true rfl) dX6_init_37 rfl (fun H locs hP hD hS => ?_)
  obtain ⟨hP, hD⟩ := cOrd (is := [0, 1, 3, 2]) 4 hP hD rfl (by decide +kernel) rfl
  exact cRet (x := (fun i : Nat => if i = 0 then (fun k : Nat => if k = 0 then q5 else if k = 1 then q16 else if k = 4 then q35 else 0) else if i = 1 then x5 else x16)) (Wx := fun x : Nat → Nat → Nat => [w6 cs o (x 0) zR, w9 cs (x 0 0) (x 1) zS, w7 cs (x 0 1) (x 2) zS]) hx hb hr hlocks hK hP hD hS hQ dX6_init_40
set_option maxHeartbeats 4000000 in
set_option maxRecDepth 100000 in
theorem i4 (l : Launch) (D : va_G) (cs : xE) (o sz : Nat) : Met l yX4_init (Cond.code yX4_init cX4_init 1 none :: WG) { frames := 1, cells := 16, slots := 4276, locals := 12 } (va_Pc [.ref o] (mCo D cs [(o, .inr (4, [.null, .null, .null, .null]))] sz)) (qC D cs (fun x : Nat → Nat => [w4 cs o x zS]) (va_A [(o, .inr (4, [.null, .null, .null, .null]))] sz)) 16 4276 (va_A [(o, .inr (4, [.null, .null, .null, .null]))] sz) := by
  refine mgC (cc := cX4_init) (maxL := 1) (by decide) rfl (Nat.le_of_ble_eq_true rfl) rfl ?_
  intro p e s m below meth c ls A Q args H hQ hx hb hml hr hlocks hin hown hts hP hK hD hA hS hG hX hl
  have hown : s.vm.findClass RX4 = some m.cls := hown
  have hl : lv_has ls 1 [(0, .ref o)] := hl
  have hW : ∀ w ∈ WG, w.before args s = true := fun w h => hts w (List.mem_cons_of_mem _ h)
  have htX4 : ∀ w ∈ u_ws RX4 TX4 4, w.before args s = true := fun w h => hW w (inW_X4 w h)
  have hP : va_P D vwCl ([(o, .inr (4, [.null, .null, .null, .null]))] :: []).flatten H := hP
  have hD : va_D A ([(o, .inr (4, [.null, .null, .null, .null]))] :: []).flatten := hD
  refine lv_aload_n hx hb dX4_init_0 rfl (lv_at hl 0 rfl) ?_
  refine W.objInit hx hb hown (hW _ wd371) (hW _ wd135) (hW _ wd136) rfl (hl.1.trans hml.symm) rfl dX4_init_1 (Nat.le_of_ble_eq_true rfl) (Nat.le_of_ble_eq_true rfl) ?_
  refine W.eq (g2 := F0 m 4 ls []) rfl ?_
  refine lv_aload_n hx hb dX4_init_4 rfl (lv_at hl 0 rfl) ?_
  refine lv_bipush (v := 12) hx hb dX4_init_5 (by decide) ?_
  refine cNI (N := 12) hx hb hW hK hP hD hS hA (by decide) (by decide +kernel) (Nat.le_of_ble_eq_true rfl) (Nat.le_of_ble_eq_true rfl) (Nat.le_of_ble_eq_true rfl) dX4_init_7 (fun q7 H hP hD hS => ?_)
  refine W.widen (k := 1) (n := 12) (Nat.le_of_ble_eq_true rfl) (Nat.le_of_ble_eq_true rfl) ?_
  refine cPF (k := 0) (C := RX4) (T := TX4) (N := 4) (fs' := [.ref q7, .null, .null, .null]) tyX4 tyX4_ok nmX4 hx hb htX4 hown hK hP hD hS rfl (by decide) (hW _ wd374) rfl hin rfl rfl rfl (Nat.le_of_ble_eq_true rfl) dX4_init_9 rfl (fun H locs hP hD hS => ?_)
  refine lv_aload_n hx hb dX4_init_12 rfl (lv_at hl 0 rfl) ?_
  refine lv_bipush (v := 12) hx hb dX4_init_13 (by decide) ?_
  refine cNI (N := 12) hx hb hW hK hP hD hS hA (by decide) (by decide +kernel) (Nat.le_of_ble_eq_true rfl) (Nat.le_of_ble_eq_true rfl) (Nat.le_of_ble_eq_true rfl) dX4_init_15 (fun q15 H hP hD hS => ?_)
  refine W.widen (k := 2) (n := 24) (Nat.le_of_ble_eq_true rfl) (Nat.le_of_ble_eq_true rfl) ?_
  refine cPF (k := 1) (C := RX4) (T := TX4) (N := 4) (fs' := [.ref q7, .ref q15, .null, .null]) tyX4 tyX4_ok nmX4 hx hb htX4 hown hK hP hD hS rfl (by decide) (hW _ wd375) rfl hin rfl rfl rfl (Nat.le_of_ble_eq_true rfl) dX4_init_17 rfl (fun H locs hP hD hS => ?_)
  refine lv_aload_n hx hb dX4_init_20 rfl (lv_at hl 0 rfl) ?_
  refine lv_bipush (v := 12) hx hb dX4_init_21 (by decide) ?_
  refine lv_bipush (v := 12) hx hb dX4_init_23 (by decide) ?_
  refine cNM (own := RX4) (n' := 12) (k' := 12) hx hb hown (hW _ wd372) hW hX hK hP hD hS hA (by decide) (by decide) (by decide +kernel) (by decide +kernel) (Nat.le_of_ble_eq_true rfl) (Nat.le_of_ble_eq_true rfl) (Nat.le_of_ble_eq_true rfl) (Nat.le_of_ble_eq_true rfl) dX4_init_25 (fun q25 r25 H hP hD hS => ?_)
  refine W.widen (k := 15) (n := 180) (Nat.le_of_ble_eq_true rfl) (Nat.le_of_ble_eq_true rfl) ?_
  refine cPF (k := 2) (C := RX4) (T := TX4) (N := 4) (fs' := [.ref q7, .ref q15, .ref q25, .null]) tyX4 tyX4_ok nmX4 hx hb htX4 hown hK hP hD hS rfl (by decide) (hW _ wd376) rfl hin rfl rfl rfl (Nat.le_of_ble_eq_true rfl) dX4_init_29 rfl (fun H locs hP hD hS => ?_)
  refine lv_aload_n hx hb dX4_init_32 rfl (lv_at hl 0 rfl) ?_
  refine lv_sipush (v := 4096) hx hb dX4_init_33 (by decide) ?_
  refine cNI (N := 4096) hx hb hW hK hP hD hS hA (by decide) (by decide +kernel) (Nat.le_of_ble_eq_true rfl) (Nat.le_of_ble_eq_true rfl) (Nat.le_of_ble_eq_true rfl) dX4_init_36 (fun q36 H hP hD hS => ?_)
  refine W.widen (k := 16) (n := 4276) (Nat.le_of_ble_eq_true rfl) (Nat.le_of_ble_eq_true rfl) ?_
  refine cPF (k := 3) (C := RX4) (T := TX4) (N := 4) (fs' := [.ref q7, .ref q15, .ref q25, .ref q36]) tyX4 tyX4_ok nmX4 hx hb htX4 hown hK hP hD hS rfl (by decide) (hW _ wd377) rfl hin rfl rfl rfl (Nat.le_of_ble_eq_true rfl) dX4_init_38 rfl (fun H locs hP hD hS => ?_)
  obtain ⟨hP, hD⟩ := cOrd (is := [0, 2, 5, 4, 1, 3]) 6 hP hD rfl (by decide +kernel) rfl
  have hP := extP (g := (fun i => some ((fun k => if k = 0 then q7 else if k = 1 then q15 else if k = 2 then q25 else if k = 3 then q36 else r25 (k - 100)) (100 + i)))) (fun j hj => by show some (r25 j) = some (if 100 + j = 0 then _ else if 100 + j = 1 then _ else if 100 + j = 2 then _ else if 100 + j = 3 then _ else r25 (100 + j - 100)); rw [if_neg (by omega), if_neg (by omega), if_neg (by omega), if_neg (by omega), Nat.add_sub_cancel_left]) hP
  have hD := extD (y := .inl (cs.1 3, 12, .inr (.inr (.inr (.inr (fun i => some ((fun k => if k = 0 then q7 else if k = 1 then q15 else if k = 2 then q25 else if k = 3 then q36 else r25 (k - 100)) (100 + i)))))))) hD
  obtain ⟨hP, hD⟩ := cOrd (is := [0, 2, 3, 4, 1, 5]) 6 hP hD rfl (by decide +kernel) rfl
  exact cRet (x := (fun k => if k = 0 then q7 else if k = 1 then q15 else if k = 2 then q25 else if k = 3 then q36 else r25 (k - 100))) (Wx := fun x : Nat → Nat => [w4 cs o x zS]) hx hb hr hlocks hK hP hD hS hQ dX4_init_41
set_option maxHeartbeats 4000000 in
set_option maxRecDepth 100000 in
theorem i11 (l : Launch) (D : va_G) (cs : xE) (o sz : Nat) : Met l yX11_init (Cond.code yX11_init cX11_init 1 none :: WG) { frames := 1, cells := 36, slots := 10515, locals := 12 } (va_Pc [.ref o] (mCo D cs [(o, .inr (11, [.null, .null, .int 0, .null, .null, .null, .null, .null, .null, .null, .null, .null, .null, .int 0, .int 0, .int 0, .int 0, .int 0, .int 0, .int 0, .int 0, .int 0, .int 0, .null, .null, .null, .null, .null, .int 0, .int 0, .int 0, .int 0, .int 0, .null, .null, .int 0, .int 0, .null, .null, .null, .null, .null, .null, .null, .null, .null, .null, .null, .int 0, .int 0, .int 0, .int 0, .null, .null, .null, .null, .null, .null]))] sz)) (qC D cs (fun x : Nat → Nat => [w11 cs o x zM]) (va_A [(o, .inr (11, [.null, .null, .int 0, .null, .null, .null, .null, .null, .null, .null, .null, .null, .null, .int 0, .int 0, .int 0, .int 0, .int 0, .int 0, .int 0, .int 0, .int 0, .int 0, .null, .null, .null, .null, .null, .int 0, .int 0, .int 0, .int 0, .int 0, .null, .null, .int 0, .int 0, .null, .null, .null, .null, .null, .null, .null, .null, .null, .null, .null, .int 0, .int 0, .int 0, .int 0, .null, .null, .null, .null, .null, .null]))] sz)) 36 10515 (va_A [(o, .inr (11, [.null, .null, .int 0, .null, .null, .null, .null, .null, .null, .null, .null, .null, .null, .int 0, .int 0, .int 0, .int 0, .int 0, .int 0, .int 0, .int 0, .int 0, .int 0, .null, .null, .null, .null, .null, .int 0, .int 0, .int 0, .int 0, .int 0, .null, .null, .int 0, .int 0, .null, .null, .null, .null, .null, .null, .null, .null, .null, .null, .null, .int 0, .int 0, .int 0, .int 0, .null, .null, .null, .null, .null, .null]))] sz) := by
  refine mgC (cc := cX11_init) (maxL := 1) (by decide) rfl (Nat.le_of_ble_eq_true rfl) rfl ?_
  intro p e s m below meth c ls A Q args H hQ hx hb hml hr hlocks hin hown hts hP hK hD hA hS hG hX hl
  have hown : s.vm.findClass RX11 = some m.cls := hown
  have hl : lv_has ls 1 [(0, .ref o)] := hl
  have hW : ∀ w ∈ WG, w.before args s = true := fun w h => hts w (List.mem_cons_of_mem _ h)
  have htX11 : ∀ w ∈ u_ws RX11 TX11 58, w.before args s = true := fun w h => hW w (inW_X11 w h)
  have hP : va_P D vwCl ([(o, .inr (11, [.null, .null, .int 0, .null, .null, .null, .null, .null, .null, .null, .null, .null, .null, .int 0, .int 0, .int 0, .int 0, .int 0, .int 0, .int 0, .int 0, .int 0, .int 0, .null, .null, .null, .null, .null, .int 0, .int 0, .int 0, .int 0, .int 0, .null, .null, .int 0, .int 0, .null, .null, .null, .null, .null, .null, .null, .null, .null, .null, .null, .int 0, .int 0, .int 0, .int 0, .null, .null, .null, .null, .null, .null]))] :: []).flatten H := hP
  have hD : va_D A ([(o, .inr (11, [.null, .null, .int 0, .null, .null, .null, .null, .null, .null, .null, .null, .null, .null, .int 0, .int 0, .int 0, .int 0, .int 0, .int 0, .int 0, .int 0, .int 0, .int 0, .null, .null, .null, .null, .null, .int 0, .int 0, .int 0, .int 0, .int 0, .null, .null, .int 0, .int 0, .null, .null, .null, .null, .null, .null, .null, .null, .null, .null, .null, .int 0, .int 0, .int 0, .int 0, .null, .null, .null, .null, .null, .null]))] :: []).flatten := hD
  refine lv_aload_n hx hb dX11_init_0 rfl (lv_at hl 0 rfl) ?_
  refine W.objInit hx hb hown (hW _ wd1309) (hW _ wd135) (hW _ wd136) rfl (hl.1.trans hml.symm) rfl dX11_init_1 (Nat.le_of_ble_eq_true rfl) (Nat.le_of_ble_eq_true rfl) ?_
  refine W.eq (g2 := F0 m 4 ls []) rfl ?_
  refine lv_aload_n hx hb dX11_init_4 rfl (lv_at hl 0 rfl) ?_
  refine lv_iconst (v := 4) hx hb dX11_init_5 (by decide) ?_
  refine cNQ (t0 := 4) (N := 4) rfl hx hb hown (hW _ wd1310) hX.2.1 hK hP hD hS hA (by decide) (by decide +kernel) (Nat.le_of_ble_eq_true rfl) (Nat.le_of_ble_eq_true rfl) (Nat.le_of_ble_eq_true rfl) dX11_init_6 (fun q6 H hP hD hS => ?_)
  refine W.widen (k := 1) (n := 4) (Nat.le_of_ble_eq_true rfl) (Nat.le_of_ble_eq_true rfl) ?_
  refine lv_dup hx hb dX11_init_9 rfl ?_
  refine lv_iconst (v := 0) hx hb dX11_init_10 (by decide) ?_
  refine va_ldcS (own := "TwinLampsModel") (tx := "home") (index := 11) (q := cs.2.1 0) hx hb hown (hG.1 ("TwinLampsModel", 11, "home", 0) (by decide +kernel)) dX11_init_11 ?_
  refine cSA (i0 := 0) (j := 0) hx hb hG hK hP hD hS (by decide) (by decide +kernel) (vpc (by decide +kernel)) dX11_init_13 (fun H locs hP hD hS => ?_)
  refine lv_dup hx hb dX11_init_14 rfl ?_
  refine lv_iconst (v := 1) hx hb dX11_init_15 (by decide) ?_
  refine va_ldcS (own := "TwinLampsModel") (tx := "tower") (index := 13) (q := cs.2.1 1) hx hb hown (hG.1 ("TwinLampsModel", 13, "tower", 1) (by decide +kernel)) dX11_init_16 ?_
  refine cSA (i0 := 1) (j := 1) hx hb hG hK hP hD hS (by decide) (by decide +kernel) (vpc (by decide +kernel)) dX11_init_18 (fun H locs hP hD hS => ?_)
  refine lv_dup hx hb dX11_init_19 rfl ?_
  refine lv_iconst (v := 2) hx hb dX11_init_20 (by decide) ?_
  refine va_ldcS (own := "TwinLampsModel") (tx := "alley") (index := 15) (q := cs.2.1 2) hx hb hown (hG.1 ("TwinLampsModel", 15, "alley", 2) (by decide +kernel)) dX11_init_21 ?_
  refine cSA (i0 := 2) (j := 2) hx hb hG hK hP hD hS (by decide) (by decide +kernel) (vpc (by decide +kernel)) dX11_init_23 (fun H locs hP hD hS => ?_)
  refine lv_dup hx hb dX11_init_24 rfl ?_
  refine lv_iconst (v := 3) hx hb dX11_init_25 (by decide) ?_
  refine va_ldcS (own := "TwinLampsModel") (tx := "ballroom") (index := 17) (q := cs.2.1 3) hx hb hown (hG.1 ("TwinLampsModel", 17, "ballroom", 3) (by decide +kernel)) dX11_init_26 ?_
  refine cSA (i0 := 3) (j := 3) hx hb hG hK hP hD hS (by decide) (by decide +kernel) (vpc (by decide +kernel)) dX11_init_28 (fun H locs hP hD hS => ?_)
  have hP := extP (g := fun j => some (cs.2.1 (0 + j))) (fun j hj => by rcases (show j = 0 ∨ j = 1 ∨ j = 2 ∨ j = 3 by omega) with rfl | rfl | rfl | rfl <;> rfl) hP
  have hD := extD (y := .inl (cs.1 4, 4, .inr (.inr (.inr (.inr (fun j => some (cs.2.1 (0 + j)))))))) hD
  refine cPF (k := 0) (C := RX11) (T := TX11) (N := 58) (fs' := [.ref q6, .null, .int 0, .null, .null, .null, .null, .null, .null, .null, .null, .null, .null, .int 0, .int 0, .int 0, .int 0, .int 0, .int 0, .int 0, .int 0, .int 0, .int 0, .null, .null, .null, .null, .null, .int 0, .int 0, .int 0, .int 0, .int 0, .null, .null, .int 0, .int 0, .null, .null, .null, .null, .null, .null, .null, .null, .null, .null, .null, .int 0, .int 0, .int 0, .int 0, .null, .null, .null, .null, .null, .null]) tyX11 tyX11_ok nmX11 hx hb htX11 hown hK hP hD hS rfl (by decide) (hW _ wd1322) rfl hin rfl rfl rfl (Nat.le_of_ble_eq_true rfl) dX11_init_29 rfl (fun H locs hP hD hS => ?_)
  refine lv_aload_n hx hb dX11_init_32 rfl (lv_at hl 0 rfl) ?_
  refine lv_bipush (v := 6) hx hb dX11_init_33 (by decide) ?_
  refine cNQ (t0 := 4) (N := 6) rfl hx hb hown (hW _ wd1310) hX.2.1 hK hP hD hS hA (by decide) (by decide +kernel) (Nat.le_of_ble_eq_true rfl) (Nat.le_of_ble_eq_true rfl) (Nat.le_of_ble_eq_true rfl) dX11_init_35 (fun q35 H hP hD hS => ?_)
  refine W.widen (k := 2) (n := 10) (Nat.le_of_ble_eq_true rfl) (Nat.le_of_ble_eq_true rfl) ?_
  refine lv_dup hx hb dX11_init_38 rfl ?_
  refine lv_iconst (v := 0) hx hb dX11_init_39 (by decide) ?_
  refine va_ldcS (own := "TwinLampsModel") (tx := "hour") (index := 23) (q := cs.2.1 10) hx hb hown (hG.1 ("TwinLampsModel", 23, "hour", 10) (by decide +kernel)) dX11_init_40 ?_
  refine cSA (i0 := 0) (j := 10) hx hb hG hK hP hD hS (by decide) (by decide +kernel) (vpc (by decide +kernel)) dX11_init_42 (fun H locs hP hD hS => ?_)
  refine lv_dup hx hb dX11_init_43 rfl ?_
  refine lv_iconst (v := 1) hx hb dX11_init_44 (by decide) ?_
  refine va_ldcS (own := "TwinLampsModel") (tx := "kind") (index := 25) (q := cs.2.1 11) hx hb hown (hG.1 ("TwinLampsModel", 25, "kind", 11) (by decide +kernel)) dX11_init_45 ?_
  refine cSA (i0 := 1) (j := 11) hx hb hG hK hP hD hS (by decide) (by decide +kernel) (vpc (by decide +kernel)) dX11_init_47 (fun H locs hP hD hS => ?_)
  refine lv_dup hx hb dX11_init_48 rfl ?_
  refine lv_iconst (v := 2) hx hb dX11_init_49 (by decide) ?_
  refine va_ldcS (own := "TwinLampsModel") (tx := "oil") (index := 27) (q := cs.2.1 12) hx hb hown (hG.1 ("TwinLampsModel", 27, "oil", 12) (by decide +kernel)) dX11_init_50 ?_
  refine cSA (i0 := 2) (j := 12) hx hb hG hK hP hD hS (by decide) (by decide +kernel) (vpc (by decide +kernel)) dX11_init_52 (fun H locs hP hD hS => ?_)
  refine lv_dup hx hb dX11_init_53 rfl ?_
  refine lv_iconst (v := 3) hx hb dX11_init_54 (by decide) ?_
  refine va_ldcS (own := "TwinLampsModel") (tx := "house") (index := 29) (q := cs.2.1 13) hx hb hown (hG.1 ("TwinLampsModel", 29, "house", 13) (by decide +kernel)) dX11_init_55 ?_
  refine cSA (i0 := 3) (j := 13) hx hb hG hK hP hD hS (by decide) (by decide +kernel) (vpc (by decide +kernel)) dX11_init_57 (fun H locs hP hD hS => ?_)
  refine lv_dup hx hb dX11_init_58 rfl ?_
  refine lv_iconst (v := 4) hx hb dX11_init_59 (by decide) ?_
  refine va_ldcS (own := "TwinLampsModel") (tx := "lamps") (index := 31) (q := cs.2.1 14) hx hb hown (hG.1 ("TwinLampsModel", 31, "lamps", 14) (by decide +kernel)) dX11_init_60 ?_
  refine cSA (i0 := 4) (j := 14) hx hb hG hK hP hD hS (by decide) (by decide +kernel) (vpc (by decide +kernel)) dX11_init_62 (fun H locs hP hD hS => ?_)
  refine lv_dup hx hb dX11_init_63 rfl ?_
  refine lv_iconst (v := 5) hx hb dX11_init_64 (by decide) ?_
  refine va_ldcS (own := "TwinLampsModel") (tx := "awake") (index := 33) (q := cs.2.1 15) hx hb hown (hG.1 ("TwinLampsModel", 33, "awake", 15) (by decide +kernel)) dX11_init_65 ?_
  refine cSA (i0 := 5) (j := 15) hx hb hG hK hP hD hS (by decide) (by decide +kernel) (vpc (by decide +kernel)) dX11_init_67 (fun H locs hP hD hS => ?_)
  have hP := extP (g := fun j => some (cs.2.1 (10 + j))) (fun j hj => by rcases (show j = 0 ∨ j = 1 ∨ j = 2 ∨ j = 3 ∨ j = 4 ∨ j = 5 by omega) with rfl | rfl | rfl | rfl | rfl | rfl <;> rfl) hP
  have hD := extD (y := .inl (cs.1 4, 6, .inr (.inr (.inr (.inr (fun j => some (cs.2.1 (10 + j)))))))) hD
  refine cPF (k := 1) (C := RX11) (T := TX11) (N := 58) (fs' := [.ref q6, .ref q35, .int 0, .null, .null, .null, .null, .null, .null, .null, .null, .null, .null, .int 0, .int 0, .int 0, .int 0, .int 0, .int 0, .int 0, .int 0, .int 0, .int 0, .null, .null, .null, .null, .null, .int 0, .int 0, .int 0, .int 0, .int 0, .null, .null, .int 0, .int 0, .null, .null, .null, .null, .null, .null, .null, .null, .null, .null, .null, .int 0, .int 0, .int 0, .int 0, .null, .null, .null, .null, .null, .null]) tyX11 tyX11_ok nmX11 hx hb htX11 hown hK hP hD hS rfl (by decide) (hW _ wd1323) rfl hin rfl rfl rfl (Nat.le_of_ble_eq_true rfl) dX11_init_68 rfl (fun H locs hP hD hS => ?_)
  refine lv_aload_n hx hb dX11_init_71 rfl (lv_at hl 0 rfl) ?_
  refine lv_bipush (v := 8) hx hb dX11_init_72 (by decide) ?_
  refine cNI (N := 8) hx hb hW hK hP hD hS hA (by decide) (by decide +kernel) (Nat.le_of_ble_eq_true rfl) (Nat.le_of_ble_eq_true rfl) (Nat.le_of_ble_eq_true rfl) dX11_init_74 (fun q74 H hP hD hS => ?_)
  refine W.widen (k := 3) (n := 18) (Nat.le_of_ble_eq_true rfl) (Nat.le_of_ble_eq_true rfl) ?_
  refine cPF (k := 3) (C := RX11) (T := TX11) (N := 58) (fs' := [.ref q6, .ref q35, .int 0, .ref q74, .null, .null, .null, .null, .null, .null, .null, .null, .null, .int 0, .int 0, .int 0, .int 0, .int 0, .int 0, .int 0, .int 0, .int 0, .int 0, .null, .null, .null, .null, .null, .int 0, .int 0, .int 0, .int 0, .int 0, .null, .null, .int 0, .int 0, .null, .null, .null, .null, .null, .null, .null, .null, .null, .null, .null, .int 0, .int 0, .int 0, .int 0, .null, .null, .null, .null, .null, .null]) tyX11 tyX11_ok nmX11 hx hb htX11 hown hK hP hD hS rfl (by decide) (hW _ wd1325) rfl hin rfl rfl rfl (Nat.le_of_ble_eq_true rfl) dX11_init_76 rfl (fun H locs hP hD hS => ?_)
  refine lv_aload_n hx hb dX11_init_79 rfl (lv_at hl 0 rfl) ?_
  refine lv_bipush (v := 16) hx hb dX11_init_80 (by decide) ?_
  refine cNI (N := 16) hx hb hW hK hP hD hS hA (by decide) (by decide +kernel) (Nat.le_of_ble_eq_true rfl) (Nat.le_of_ble_eq_true rfl) (Nat.le_of_ble_eq_true rfl) dX11_init_82 (fun q82 H hP hD hS => ?_)
  refine W.widen (k := 4) (n := 34) (Nat.le_of_ble_eq_true rfl) (Nat.le_of_ble_eq_true rfl) ?_
  refine cPF (k := 4) (C := RX11) (T := TX11) (N := 58) (fs' := [.ref q6, .ref q35, .int 0, .ref q74, .ref q82, .null, .null, .null, .null, .null, .null, .null, .null, .int 0, .int 0, .int 0, .int 0, .int 0, .int 0, .int 0, .int 0, .int 0, .int 0, .null, .null, .null, .null, .null, .int 0, .int 0, .int 0, .int 0, .int 0, .null, .null, .int 0, .int 0, .null, .null, .null, .null, .null, .null, .null, .null, .null, .null, .null, .int 0, .int 0, .int 0, .int 0, .null, .null, .null, .null, .null, .null]) tyX11 tyX11_ok nmX11 hx hb htX11 hown hK hP hD hS rfl (by decide) (hW _ wd1326) rfl hin rfl rfl rfl (Nat.le_of_ble_eq_true rfl) dX11_init_84 rfl (fun H locs hP hD hS => ?_)
  refine lv_aload_n hx hb dX11_init_87 rfl (lv_at hl 0 rfl) ?_
  refine lv_bipush (v := 16) hx hb dX11_init_88 (by decide) ?_
  refine cNI (N := 16) hx hb hW hK hP hD hS hA (by decide) (by decide +kernel) (Nat.le_of_ble_eq_true rfl) (Nat.le_of_ble_eq_true rfl) (Nat.le_of_ble_eq_true rfl) dX11_init_90 (fun q90 H hP hD hS => ?_)
  refine W.widen (k := 5) (n := 50) (Nat.le_of_ble_eq_true rfl) (Nat.le_of_ble_eq_true rfl) ?_
  refine cPF (k := 5) (C := RX11) (T := TX11) (N := 58) (fs' := [.ref q6, .ref q35, .int 0, .ref q74, .ref q82, .ref q90, .null, .null, .null, .null, .null, .null, .null, .int 0, .int 0, .int 0, .int 0, .int 0, .int 0, .int 0, .int 0, .int 0, .int 0, .null, .null, .null, .null, .null, .int 0, .int 0, .int 0, .int 0, .int 0, .null, .null, .int 0, .int 0, .null, .null, .null, .null, .null, .null, .null, .null, .null, .null, .null, .int 0, .int 0, .int 0, .int 0, .null, .null, .null, .null, .null, .null]) tyX11 tyX11_ok nmX11 hx hb htX11 hown hK hP hD hS rfl (by decide) (hW _ wd1327) rfl hin rfl rfl rfl (Nat.le_of_ble_eq_true rfl) dX11_init_92 rfl (fun H locs hP hD hS => ?_)
  refine lv_aload_n hx hb dX11_init_95 rfl (lv_at hl 0 rfl) ?_
  refine lv_bipush (v := 16) hx hb dX11_init_96 (by decide) ?_
  refine cNI (N := 16) hx hb hW hK hP hD hS hA (by decide) (by decide +kernel) (Nat.le_of_ble_eq_true rfl) (Nat.le_of_ble_eq_true rfl) (Nat.le_of_ble_eq_true rfl) dX11_init_98 (fun q98 H hP hD hS => ?_)
  refine W.widen (k := 6) (n := 66) (Nat.le_of_ble_eq_true rfl) (Nat.le_of_ble_eq_true rfl) ?_
  refine cPF (k := 6) (C := RX11) (T := TX11) (N := 58) (fs' := [.ref q6, .ref q35, .int 0, .ref q74, .ref q82, .ref q90, .ref q98, .null, .null, .null, .null, .null, .null, .int 0, .int 0, .int 0, .int 0, .int 0, .int 0, .int 0, .int 0, .int 0, .int 0, .null, .null, .null, .null, .null, .int 0, .int 0, .int 0, .int 0, .int 0, .null, .null, .int 0, .int 0, .null, .null, .null, .null, .null, .null, .null, .null, .null, .null, .null, .int 0, .int 0, .int 0, .int 0, .null, .null, .null, .null, .null, .null]) tyX11 tyX11_ok nmX11 hx hb htX11 hown hK hP hD hS rfl (by decide) (hW _ wd1328) rfl hin rfl rfl rfl (Nat.le_of_ble_eq_true rfl) dX11_init_100 rfl (fun H locs hP hD hS => ?_)
  refine lv_aload_n hx hb dX11_init_103 rfl (lv_at hl 0 rfl) ?_
  refine lv_bipush (v := 24) hx hb dX11_init_104 (by decide) ?_
  refine cNI (N := 24) hx hb hW hK hP hD hS hA (by decide) (by decide +kernel) (Nat.le_of_ble_eq_true rfl) (Nat.le_of_ble_eq_true rfl) (Nat.le_of_ble_eq_true rfl) dX11_init_106 (fun q106 H hP hD hS => ?_)
  refine W.widen (k := 7) (n := 90) (Nat.le_of_ble_eq_true rfl) (Nat.le_of_ble_eq_true rfl) ?_
  refine cPF (k := 7) (C := RX11) (T := TX11) (N := 58) (fs' := [.ref q6, .ref q35, .int 0, .ref q74, .ref q82, .ref q90, .ref q98, .ref q106, .null, .null, .null, .null, .null, .int 0, .int 0, .int 0, .int 0, .int 0, .int 0, .int 0, .int 0, .int 0, .int 0, .null, .null, .null, .null, .null, .int 0, .int 0, .int 0, .int 0, .int 0, .null, .null, .int 0, .int 0, .null, .null, .null, .null, .null, .null, .null, .null, .null, .null, .null, .int 0, .int 0, .int 0, .int 0, .null, .null, .null, .null, .null, .null]) tyX11 tyX11_ok nmX11 hx hb htX11 hown hK hP hD hS rfl (by decide) (hW _ wd1329) rfl hin rfl rfl rfl (Nat.le_of_ble_eq_true rfl) dX11_init_108 rfl (fun H locs hP hD hS => ?_)
  refine lv_aload_n hx hb dX11_init_111 rfl (lv_at hl 0 rfl) ?_
  refine lv_bipush (v := 24) hx hb dX11_init_112 (by decide) ?_
  refine cNI (N := 24) hx hb hW hK hP hD hS hA (by decide) (by decide +kernel) (Nat.le_of_ble_eq_true rfl) (Nat.le_of_ble_eq_true rfl) (Nat.le_of_ble_eq_true rfl) dX11_init_114 (fun q114 H hP hD hS => ?_)
  refine W.widen (k := 8) (n := 114) (Nat.le_of_ble_eq_true rfl) (Nat.le_of_ble_eq_true rfl) ?_
  refine cPF (k := 8) (C := RX11) (T := TX11) (N := 58) (fs' := [.ref q6, .ref q35, .int 0, .ref q74, .ref q82, .ref q90, .ref q98, .ref q106, .ref q114, .null, .null, .null, .null, .int 0, .int 0, .int 0, .int 0, .int 0, .int 0, .int 0, .int 0, .int 0, .int 0, .null, .null, .null, .null, .null, .int 0, .int 0, .int 0, .int 0, .int 0, .null, .null, .int 0, .int 0, .null, .null, .null, .null, .null, .null, .null, .null, .null, .null, .null, .int 0, .int 0, .int 0, .int 0, .null, .null, .null, .null, .null, .null]) tyX11 tyX11_ok nmX11 hx hb htX11 hown hK hP hD hS rfl (by decide) (hW _ wd1330) rfl hin rfl rfl rfl (Nat.le_of_ble_eq_true rfl) dX11_init_116 rfl (fun H locs hP hD hS => ?_)
  refine lv_aload_n hx hb dX11_init_119 rfl (lv_at hl 0 rfl) ?_
  refine lv_bipush (v := 24) hx hb dX11_init_120 (by decide) ?_
  refine cNI (N := 24) hx hb hW hK hP hD hS hA (by decide) (by decide +kernel) (Nat.le_of_ble_eq_true rfl) (Nat.le_of_ble_eq_true rfl) (Nat.le_of_ble_eq_true rfl) dX11_init_122 (fun q122 H hP hD hS => ?_)
  refine W.widen (k := 9) (n := 138) (Nat.le_of_ble_eq_true rfl) (Nat.le_of_ble_eq_true rfl) ?_
  refine cPF (k := 9) (C := RX11) (T := TX11) (N := 58) (fs' := [.ref q6, .ref q35, .int 0, .ref q74, .ref q82, .ref q90, .ref q98, .ref q106, .ref q114, .ref q122, .null, .null, .null, .int 0, .int 0, .int 0, .int 0, .int 0, .int 0, .int 0, .int 0, .int 0, .int 0, .null, .null, .null, .null, .null, .int 0, .int 0, .int 0, .int 0, .int 0, .null, .null, .int 0, .int 0, .null, .null, .null, .null, .null, .null, .null, .null, .null, .null, .null, .int 0, .int 0, .int 0, .int 0, .null, .null, .null, .null, .null, .null]) tyX11 tyX11_ok nmX11 hx hb htX11 hown hK hP hD hS rfl (by decide) (hW _ wd1331) rfl hin rfl rfl rfl (Nat.le_of_ble_eq_true rfl) dX11_init_124 rfl (fun H locs hP hD hS => ?_)
  refine lv_aload_n hx hb dX11_init_127 rfl (lv_at hl 0 rfl) ?_
  refine lv_sipush (v := 1200) hx hb dX11_init_128 (by decide) ?_
  refine cNI (N := 1200) hx hb hW hK hP hD hS hA (by decide) (by decide +kernel) (Nat.le_of_ble_eq_true rfl) (Nat.le_of_ble_eq_true rfl) (Nat.le_of_ble_eq_true rfl) dX11_init_131 (fun q131 H hP hD hS => ?_)
  refine W.widen (k := 10) (n := 1338) (Nat.le_of_ble_eq_true rfl) (Nat.le_of_ble_eq_true rfl) ?_
  refine cPF (k := 10) (C := RX11) (T := TX11) (N := 58) (fs' := [.ref q6, .ref q35, .int 0, .ref q74, .ref q82, .ref q90, .ref q98, .ref q106, .ref q114, .ref q122, .ref q131, .null, .null, .int 0, .int 0, .int 0, .int 0, .int 0, .int 0, .int 0, .int 0, .int 0, .int 0, .null, .null, .null, .null, .null, .int 0, .int 0, .int 0, .int 0, .int 0, .null, .null, .int 0, .int 0, .null, .null, .null, .null, .null, .null, .null, .null, .null, .null, .null, .int 0, .int 0, .int 0, .int 0, .null, .null, .null, .null, .null, .null]) tyX11 tyX11_ok nmX11 hx hb htX11 hown hK hP hD hS rfl (by decide) (hW _ wd1332) rfl hin rfl rfl rfl (Nat.le_of_ble_eq_true rfl) dX11_init_133 rfl (fun H locs hP hD hS => ?_)
  refine lv_aload_n hx hb dX11_init_136 rfl (lv_at hl 0 rfl) ?_
  refine lv_iconst (v := 3) hx hb dX11_init_137 (by decide) ?_
  refine cNI (N := 3) hx hb hW hK hP hD hS hA (by decide) (by decide +kernel) (Nat.le_of_ble_eq_true rfl) (Nat.le_of_ble_eq_true rfl) (Nat.le_of_ble_eq_true rfl) dX11_init_138 (fun q138 H hP hD hS => ?_)
  refine W.widen (k := 11) (n := 1341) (Nat.le_of_ble_eq_true rfl) (Nat.le_of_ble_eq_true rfl) ?_
  refine cPF (k := 11) (C := RX11) (T := TX11) (N := 58) (fs' := [.ref q6, .ref q35, .int 0, .ref q74, .ref q82, .ref q90, .ref q98, .ref q106, .ref q114, .ref q122, .ref q131, .ref q138, .null, .int 0, .int 0, .int 0, .int 0, .int 0, .int 0, .int 0, .int 0, .int 0, .int 0, .null, .null, .null, .null, .null, .int 0, .int 0, .int 0, .int 0, .int 0, .null, .null, .int 0, .int 0, .null, .null, .null, .null, .null, .null, .null, .null, .null, .null, .null, .int 0, .int 0, .int 0, .int 0, .null, .null, .null, .null, .null, .null]) tyX11 tyX11_ok nmX11 hx hb htX11 hown hK hP hD hS rfl (by decide) (hW _ wd1333) rfl hin rfl rfl rfl (Nat.le_of_ble_eq_true rfl) dX11_init_140 rfl (fun H locs hP hD hS => ?_)
  refine lv_aload_n hx hb dX11_init_143 rfl (lv_at hl 0 rfl) ?_
  refine lv_sipush (v := 600) hx hb dX11_init_144 (by decide) ?_
  refine cNI (N := 600) hx hb hW hK hP hD hS hA (by decide) (by decide +kernel) (Nat.le_of_ble_eq_true rfl) (Nat.le_of_ble_eq_true rfl) (Nat.le_of_ble_eq_true rfl) dX11_init_147 (fun q147 H hP hD hS => ?_)
  refine W.widen (k := 12) (n := 1941) (Nat.le_of_ble_eq_true rfl) (Nat.le_of_ble_eq_true rfl) ?_
  refine cPF (k := 12) (C := RX11) (T := TX11) (N := 58) (fs' := [.ref q6, .ref q35, .int 0, .ref q74, .ref q82, .ref q90, .ref q98, .ref q106, .ref q114, .ref q122, .ref q131, .ref q138, .ref q147, .int 0, .int 0, .int 0, .int 0, .int 0, .int 0, .int 0, .int 0, .int 0, .int 0, .null, .null, .null, .null, .null, .int 0, .int 0, .int 0, .int 0, .int 0, .null, .null, .int 0, .int 0, .null, .null, .null, .null, .null, .null, .null, .null, .null, .null, .null, .int 0, .int 0, .int 0, .int 0, .null, .null, .null, .null, .null, .null]) tyX11 tyX11_ok nmX11 hx hb htX11 hown hK hP hD hS rfl (by decide) (hW _ wd1334) rfl hin rfl rfl rfl (Nat.le_of_ble_eq_true rfl) dX11_init_149 rfl (fun H locs hP hD hS => ?_)
  refine lv_aload_n hx hb dX11_init_152 rfl (lv_at hl 0 rfl) ?_
  refine lv_iconst (v := (-1)) hx hb dX11_init_153 (by decide) ?_
  refine cPN (k := 22) (C := RX11) (T := TX11) (N := 58) (fs' := [.ref q6, .ref q35, .int 0, .ref q74, .ref q82, .ref q90, .ref q98, .ref q106, .ref q114, .ref q122, .ref q131, .ref q138, .ref q147, .int 0, .int 0, .int 0, .int 0, .int 0, .int 0, .int 0, .int 0, .int 0, .int (-1), .null, .null, .null, .null, .null, .int 0, .int 0, .int 0, .int 0, .int 0, .null, .null, .int 0, .int 0, .null, .null, .null, .null, .null, .null, .null, .null, .null, .null, .null, .int 0, .int 0, .int 0, .int 0, .null, .null, .null, .null, .null, .null]) tyX11 tyX11_ok nmX11 hx hb htX11 hown hK hP hD hS rfl (by decide) (hW _ wd1344) rfl rfl rfl (Nat.le_of_ble_eq_true rfl) dX11_init_154 rfl (fun H locs hP hD hS => ?_)
  refine lv_aload_n hx hb dX11_init_157 rfl (lv_at hl 0 rfl) ?_
  refine lv_bipush (v := 12) hx hb dX11_init_158 (by decide) ?_
  refine cNI (N := 12) hx hb hW hK hP hD hS hA (by decide) (by decide +kernel) (Nat.le_of_ble_eq_true rfl) (Nat.le_of_ble_eq_true rfl) (Nat.le_of_ble_eq_true rfl) dX11_init_160 (fun q160 H hP hD hS => ?_)
  refine W.widen (k := 13) (n := 1953) (Nat.le_of_ble_eq_true rfl) (Nat.le_of_ble_eq_true rfl) ?_
  refine cPF (k := 23) (C := RX11) (T := TX11) (N := 58) (fs' := [.ref q6, .ref q35, .int 0, .ref q74, .ref q82, .ref q90, .ref q98, .ref q106, .ref q114, .ref q122, .ref q131, .ref q138, .ref q147, .int 0, .int 0, .int 0, .int 0, .int 0, .int 0, .int 0, .int 0, .int 0, .int (-1), .ref q160, .null, .null, .null, .null, .int 0, .int 0, .int 0, .int 0, .int 0, .null, .null, .int 0, .int 0, .null, .null, .null, .null, .null, .null, .null, .null, .null, .null, .null, .int 0, .int 0, .int 0, .int 0, .null, .null, .null, .null, .null, .null]) tyX11 tyX11_ok nmX11 hx hb htX11 hown hK hP hD hS rfl (by decide) (hW _ wd1345) rfl hin rfl rfl rfl (Nat.le_of_ble_eq_true rfl) dX11_init_162 rfl (fun H locs hP hD hS => ?_)
  refine lv_aload_n hx hb dX11_init_165 rfl (lv_at hl 0 rfl) ?_
  refine lv_bipush (v := 12) hx hb dX11_init_166 (by decide) ?_
  refine cNI (N := 12) hx hb hW hK hP hD hS hA (by decide) (by decide +kernel) (Nat.le_of_ble_eq_true rfl) (Nat.le_of_ble_eq_true rfl) (Nat.le_of_ble_eq_true rfl) dX11_init_168 (fun q168 H hP hD hS => ?_)
  refine W.widen (k := 14) (n := 1965) (Nat.le_of_ble_eq_true rfl) (Nat.le_of_ble_eq_true rfl) ?_
  refine cPF (k := 24) (C := RX11) (T := TX11) (N := 58) (fs' := [.ref q6, .ref q35, .int 0, .ref q74, .ref q82, .ref q90, .ref q98, .ref q106, .ref q114, .ref q122, .ref q131, .ref q138, .ref q147, .int 0, .int 0, .int 0, .int 0, .int 0, .int 0, .int 0, .int 0, .int 0, .int (-1), .ref q160, .ref q168, .null, .null, .null, .int 0, .int 0, .int 0, .int 0, .int 0, .null, .null, .int 0, .int 0, .null, .null, .null, .null, .null, .null, .null, .null, .null, .null, .null, .int 0, .int 0, .int 0, .int 0, .null, .null, .null, .null, .null, .null]) tyX11 tyX11_ok nmX11 hx hb htX11 hown hK hP hD hS rfl (by decide) (hW _ wd1346) rfl hin rfl rfl rfl (Nat.le_of_ble_eq_true rfl) dX11_init_170 rfl (fun H locs hP hD hS => ?_)
  refine lv_aload_n hx hb dX11_init_173 rfl (lv_at hl 0 rfl) ?_
  refine lv_bipush (v := 8) hx hb dX11_init_174 (by decide) ?_
  refine cNI (N := 8) hx hb hW hK hP hD hS hA (by decide) (by decide +kernel) (Nat.le_of_ble_eq_true rfl) (Nat.le_of_ble_eq_true rfl) (Nat.le_of_ble_eq_true rfl) dX11_init_176 (fun q176 H hP hD hS => ?_)
  refine W.widen (k := 15) (n := 1973) (Nat.le_of_ble_eq_true rfl) (Nat.le_of_ble_eq_true rfl) ?_
  refine cPF (k := 25) (C := RX11) (T := TX11) (N := 58) (fs' := [.ref q6, .ref q35, .int 0, .ref q74, .ref q82, .ref q90, .ref q98, .ref q106, .ref q114, .ref q122, .ref q131, .ref q138, .ref q147, .int 0, .int 0, .int 0, .int 0, .int 0, .int 0, .int 0, .int 0, .int 0, .int (-1), .ref q160, .ref q168, .ref q176, .null, .null, .int 0, .int 0, .int 0, .int 0, .int 0, .null, .null, .int 0, .int 0, .null, .null, .null, .null, .null, .null, .null, .null, .null, .null, .null, .int 0, .int 0, .int 0, .int 0, .null, .null, .null, .null, .null, .null]) tyX11 tyX11_ok nmX11 hx hb htX11 hown hK hP hD hS rfl (by decide) (hW _ wd1347) rfl hin rfl rfl rfl (Nat.le_of_ble_eq_true rfl) dX11_init_178 rfl (fun H locs hP hD hS => ?_)
  refine lv_aload_n hx hb dX11_init_181 rfl (lv_at hl 0 rfl) ?_
  refine lv_bipush (v := 8) hx hb dX11_init_182 (by decide) ?_
  refine cNI (N := 8) hx hb hW hK hP hD hS hA (by decide) (by decide +kernel) (Nat.le_of_ble_eq_true rfl) (Nat.le_of_ble_eq_true rfl) (Nat.le_of_ble_eq_true rfl) dX11_init_184 (fun q184 H hP hD hS => ?_)
  refine W.widen (k := 16) (n := 1981) (Nat.le_of_ble_eq_true rfl) (Nat.le_of_ble_eq_true rfl) ?_
  refine cPF (k := 26) (C := RX11) (T := TX11) (N := 58) (fs' := [.ref q6, .ref q35, .int 0, .ref q74, .ref q82, .ref q90, .ref q98, .ref q106, .ref q114, .ref q122, .ref q131, .ref q138, .ref q147, .int 0, .int 0, .int 0, .int 0, .int 0, .int 0, .int 0, .int 0, .int 0, .int (-1), .ref q160, .ref q168, .ref q176, .ref q184, .null, .int 0, .int 0, .int 0, .int 0, .int 0, .null, .null, .int 0, .int 0, .null, .null, .null, .null, .null, .null, .null, .null, .null, .null, .null, .int 0, .int 0, .int 0, .int 0, .null, .null, .null, .null, .null, .null]) tyX11 tyX11_ok nmX11 hx hb htX11 hown hK hP hD hS rfl (by decide) (hW _ wd1348) rfl hin rfl rfl rfl (Nat.le_of_ble_eq_true rfl) dX11_init_186 rfl (fun H locs hP hD hS => ?_)
  refine lv_aload_n hx hb dX11_init_189 rfl (lv_at hl 0 rfl) ?_
  refine lv_sipush (v := 1720) hx hb dX11_init_190 (by decide) ?_
  refine cNI (N := 1720) hx hb hW hK hP hD hS hA (by decide) (by decide +kernel) (Nat.le_of_ble_eq_true rfl) (Nat.le_of_ble_eq_true rfl) (Nat.le_of_ble_eq_true rfl) dX11_init_193 (fun q193 H hP hD hS => ?_)
  refine W.widen (k := 17) (n := 3701) (Nat.le_of_ble_eq_true rfl) (Nat.le_of_ble_eq_true rfl) ?_
  refine cPF (k := 27) (C := RX11) (T := TX11) (N := 58) (fs' := [.ref q6, .ref q35, .int 0, .ref q74, .ref q82, .ref q90, .ref q98, .ref q106, .ref q114, .ref q122, .ref q131, .ref q138, .ref q147, .int 0, .int 0, .int 0, .int 0, .int 0, .int 0, .int 0, .int 0, .int 0, .int (-1), .ref q160, .ref q168, .ref q176, .ref q184, .ref q193, .int 0, .int 0, .int 0, .int 0, .int 0, .null, .null, .int 0, .int 0, .null, .null, .null, .null, .null, .null, .null, .null, .null, .null, .null, .int 0, .int 0, .int 0, .int 0, .null, .null, .null, .null, .null, .null]) tyX11 tyX11_ok nmX11 hx hb htX11 hown hK hP hD hS rfl (by decide) (hW _ wd1349) rfl hin rfl rfl rfl (Nat.le_of_ble_eq_true rfl) dX11_init_195 rfl (fun H locs hP hD hS => ?_)
  refine lv_aload_n hx hb dX11_init_198 rfl (lv_at hl 0 rfl) ?_
  refine lv_bipush (v := 6) hx hb dX11_init_199 (by decide) ?_
  refine cNI (N := 6) hx hb hW hK hP hD hS hA (by decide) (by decide +kernel) (Nat.le_of_ble_eq_true rfl) (Nat.le_of_ble_eq_true rfl) (Nat.le_of_ble_eq_true rfl) dX11_init_201 (fun q201 H hP hD hS => ?_)
  refine W.widen (k := 18) (n := 3707) (Nat.le_of_ble_eq_true rfl) (Nat.le_of_ble_eq_true rfl) ?_
  refine cPF (k := 33) (C := RX11) (T := TX11) (N := 58) (fs' := [.ref q6, .ref q35, .int 0, .ref q74, .ref q82, .ref q90, .ref q98, .ref q106, .ref q114, .ref q122, .ref q131, .ref q138, .ref q147, .int 0, .int 0, .int 0, .int 0, .int 0, .int 0, .int 0, .int 0, .int 0, .int (-1), .ref q160, .ref q168, .ref q176, .ref q184, .ref q193, .int 0, .int 0, .int 0, .int 0, .int 0, .ref q201, .null, .int 0, .int 0, .null, .null, .null, .null, .null, .null, .null, .null, .null, .null, .null, .int 0, .int 0, .int 0, .int 0, .null, .null, .null, .null, .null, .null]) tyX11 tyX11_ok nmX11 hx hb htX11 hown hK hP hD hS rfl (by decide) (hW _ wd1355) rfl hin rfl rfl rfl (Nat.le_of_ble_eq_true rfl) dX11_init_203 rfl (fun H locs hP hD hS => ?_)
  refine lv_aload_n hx hb dX11_init_206 rfl (lv_at hl 0 rfl) ?_
  refine lv_bipush (v := 64) hx hb dX11_init_207 (by decide) ?_
  refine cNI (N := 64) hx hb hW hK hP hD hS hA (by decide) (by decide +kernel) (Nat.le_of_ble_eq_true rfl) (Nat.le_of_ble_eq_true rfl) (Nat.le_of_ble_eq_true rfl) dX11_init_209 (fun q209 H hP hD hS => ?_)
  refine W.widen (k := 19) (n := 3771) (Nat.le_of_ble_eq_true rfl) (Nat.le_of_ble_eq_true rfl) ?_
  refine cPF (k := 34) (C := RX11) (T := TX11) (N := 58) (fs' := [.ref q6, .ref q35, .int 0, .ref q74, .ref q82, .ref q90, .ref q98, .ref q106, .ref q114, .ref q122, .ref q131, .ref q138, .ref q147, .int 0, .int 0, .int 0, .int 0, .int 0, .int 0, .int 0, .int 0, .int 0, .int (-1), .ref q160, .ref q168, .ref q176, .ref q184, .ref q193, .int 0, .int 0, .int 0, .int 0, .int 0, .ref q201, .ref q209, .int 0, .int 0, .null, .null, .null, .null, .null, .null, .null, .null, .null, .null, .null, .int 0, .int 0, .int 0, .int 0, .null, .null, .null, .null, .null, .null]) tyX11 tyX11_ok nmX11 hx hb htX11 hown hK hP hD hS rfl (by decide) (hW _ wd1356) rfl hin rfl rfl rfl (Nat.le_of_ble_eq_true rfl) dX11_init_211 rfl (fun H locs hP hD hS => ?_)
  refine lv_aload_n hx hb dX11_init_214 rfl (lv_at hl 0 rfl) ?_
  refine lv_bipush (v := 8) hx hb dX11_init_215 (by decide) ?_
  refine cNI (N := 8) hx hb hW hK hP hD hS hA (by decide) (by decide +kernel) (Nat.le_of_ble_eq_true rfl) (Nat.le_of_ble_eq_true rfl) (Nat.le_of_ble_eq_true rfl) dX11_init_217 (fun q217 H hP hD hS => ?_)
  refine W.widen (k := 20) (n := 3779) (Nat.le_of_ble_eq_true rfl) (Nat.le_of_ble_eq_true rfl) ?_
  refine cPF (k := 37) (C := RX11) (T := TX11) (N := 58) (fs' := [.ref q6, .ref q35, .int 0, .ref q74, .ref q82, .ref q90, .ref q98, .ref q106, .ref q114, .ref q122, .ref q131, .ref q138, .ref q147, .int 0, .int 0, .int 0, .int 0, .int 0, .int 0, .int 0, .int 0, .int 0, .int (-1), .ref q160, .ref q168, .ref q176, .ref q184, .ref q193, .int 0, .int 0, .int 0, .int 0, .int 0, .ref q201, .ref q209, .int 0, .int 0, .ref q217, .null, .null, .null, .null, .null, .null, .null, .null, .null, .null, .int 0, .int 0, .int 0, .int 0, .null, .null, .null, .null, .null, .null]) tyX11 tyX11_ok nmX11 hx hb htX11 hown hK hP hD hS rfl (by decide) (hW _ wd1359) rfl hin rfl rfl rfl (Nat.le_of_ble_eq_true rfl) dX11_init_219 rfl (fun H locs hP hD hS => ?_)
  refine lv_aload_n hx hb dX11_init_222 rfl (lv_at hl 0 rfl) ?_
  refine lv_bipush (v := 8) hx hb dX11_init_223 (by decide) ?_
  refine cNI (N := 8) hx hb hW hK hP hD hS hA (by decide) (by decide +kernel) (Nat.le_of_ble_eq_true rfl) (Nat.le_of_ble_eq_true rfl) (Nat.le_of_ble_eq_true rfl) dX11_init_225 (fun q225 H hP hD hS => ?_)
  refine W.widen (k := 21) (n := 3787) (Nat.le_of_ble_eq_true rfl) (Nat.le_of_ble_eq_true rfl) ?_
  refine cPF (k := 38) (C := RX11) (T := TX11) (N := 58) (fs' := [.ref q6, .ref q35, .int 0, .ref q74, .ref q82, .ref q90, .ref q98, .ref q106, .ref q114, .ref q122, .ref q131, .ref q138, .ref q147, .int 0, .int 0, .int 0, .int 0, .int 0, .int 0, .int 0, .int 0, .int 0, .int (-1), .ref q160, .ref q168, .ref q176, .ref q184, .ref q193, .int 0, .int 0, .int 0, .int 0, .int 0, .ref q201, .ref q209, .int 0, .int 0, .ref q217, .ref q225, .null, .null, .null, .null, .null, .null, .null, .null, .null, .int 0, .int 0, .int 0, .int 0, .null, .null, .null, .null, .null, .null]) tyX11 tyX11_ok nmX11 hx hb htX11 hown hK hP hD hS rfl (by decide) (hW _ wd1360) rfl hin rfl rfl rfl (Nat.le_of_ble_eq_true rfl) dX11_init_227 rfl (fun H locs hP hD hS => ?_)
  refine lv_aload_n hx hb dX11_init_230 rfl (lv_at hl 0 rfl) ?_
  refine lv_bipush (v := 43) hx hb dX11_init_231 (by decide) ?_
  refine cNI (N := 43) hx hb hW hK hP hD hS hA (by decide) (by decide +kernel) (Nat.le_of_ble_eq_true rfl) (Nat.le_of_ble_eq_true rfl) (Nat.le_of_ble_eq_true rfl) dX11_init_233 (fun q233 H hP hD hS => ?_)
  refine W.widen (k := 22) (n := 3830) (Nat.le_of_ble_eq_true rfl) (Nat.le_of_ble_eq_true rfl) ?_
  refine cPF (k := 39) (C := RX11) (T := TX11) (N := 58) (fs' := [.ref q6, .ref q35, .int 0, .ref q74, .ref q82, .ref q90, .ref q98, .ref q106, .ref q114, .ref q122, .ref q131, .ref q138, .ref q147, .int 0, .int 0, .int 0, .int 0, .int 0, .int 0, .int 0, .int 0, .int 0, .int (-1), .ref q160, .ref q168, .ref q176, .ref q184, .ref q193, .int 0, .int 0, .int 0, .int 0, .int 0, .ref q201, .ref q209, .int 0, .int 0, .ref q217, .ref q225, .ref q233, .null, .null, .null, .null, .null, .null, .null, .null, .int 0, .int 0, .int 0, .int 0, .null, .null, .null, .null, .null, .null]) tyX11 tyX11_ok nmX11 hx hb htX11 hown hK hP hD hS rfl (by decide) (hW _ wd1361) rfl hin rfl rfl rfl (Nat.le_of_ble_eq_true rfl) dX11_init_235 rfl (fun H locs hP hD hS => ?_)
  refine lv_aload_n hx hb dX11_init_238 rfl (lv_at hl 0 rfl) ?_
  refine lv_sipush (v := 144) hx hb dX11_init_239 (by decide) ?_
  refine cNI (N := 144) hx hb hW hK hP hD hS hA (by decide) (by decide +kernel) (Nat.le_of_ble_eq_true rfl) (Nat.le_of_ble_eq_true rfl) (Nat.le_of_ble_eq_true rfl) dX11_init_242 (fun q242 H hP hD hS => ?_)
  refine W.widen (k := 23) (n := 3974) (Nat.le_of_ble_eq_true rfl) (Nat.le_of_ble_eq_true rfl) ?_
  refine cPF (k := 40) (C := RX11) (T := TX11) (N := 58) (fs' := [.ref q6, .ref q35, .int 0, .ref q74, .ref q82, .ref q90, .ref q98, .ref q106, .ref q114, .ref q122, .ref q131, .ref q138, .ref q147, .int 0, .int 0, .int 0, .int 0, .int 0, .int 0, .int 0, .int 0, .int 0, .int (-1), .ref q160, .ref q168, .ref q176, .ref q184, .ref q193, .int 0, .int 0, .int 0, .int 0, .int 0, .ref q201, .ref q209, .int 0, .int 0, .ref q217, .ref q225, .ref q233, .ref q242, .null, .null, .null, .null, .null, .null, .null, .int 0, .int 0, .int 0, .int 0, .null, .null, .null, .null, .null, .null]) tyX11 tyX11_ok nmX11 hx hb htX11 hown hK hP hD hS rfl (by decide) (hW _ wd1362) rfl hin rfl rfl rfl (Nat.le_of_ble_eq_true rfl) dX11_init_244 rfl (fun H locs hP hD hS => ?_)
  refine lv_aload_n hx hb dX11_init_247 rfl (lv_at hl 0 rfl) ?_
  refine lv_sipush (v := 4096) hx hb dX11_init_248 (by decide) ?_
  refine cNI (N := 4096) hx hb hW hK hP hD hS hA (by decide) (by decide +kernel) (Nat.le_of_ble_eq_true rfl) (Nat.le_of_ble_eq_true rfl) (Nat.le_of_ble_eq_true rfl) dX11_init_251 (fun q251 H hP hD hS => ?_)
  refine W.widen (k := 24) (n := 8070) (Nat.le_of_ble_eq_true rfl) (Nat.le_of_ble_eq_true rfl) ?_
  refine cPF (k := 41) (C := RX11) (T := TX11) (N := 58) (fs' := [.ref q6, .ref q35, .int 0, .ref q74, .ref q82, .ref q90, .ref q98, .ref q106, .ref q114, .ref q122, .ref q131, .ref q138, .ref q147, .int 0, .int 0, .int 0, .int 0, .int 0, .int 0, .int 0, .int 0, .int 0, .int (-1), .ref q160, .ref q168, .ref q176, .ref q184, .ref q193, .int 0, .int 0, .int 0, .int 0, .int 0, .ref q201, .ref q209, .int 0, .int 0, .ref q217, .ref q225, .ref q233, .ref q242, .ref q251, .null, .null, .null, .null, .null, .null, .int 0, .int 0, .int 0, .int 0, .null, .null, .null, .null, .null, .null]) tyX11 tyX11_ok nmX11 hx hb htX11 hown hK hP hD hS rfl (by decide) (hW _ wd1363) rfl hin rfl rfl rfl (Nat.le_of_ble_eq_true rfl) dX11_init_253 rfl (fun H locs hP hD hS => ?_)
  refine lv_aload_n hx hb dX11_init_256 rfl (lv_at hl 0 rfl) ?_
  refine lv_bipush (v := 12) hx hb dX11_init_257 (by decide) ?_
  refine cNI (N := 12) hx hb hW hK hP hD hS hA (by decide) (by decide +kernel) (Nat.le_of_ble_eq_true rfl) (Nat.le_of_ble_eq_true rfl) (Nat.le_of_ble_eq_true rfl) dX11_init_259 (fun q259 H hP hD hS => ?_)
  refine W.widen (k := 25) (n := 8082) (Nat.le_of_ble_eq_true rfl) (Nat.le_of_ble_eq_true rfl) ?_
  refine cPF (k := 42) (C := RX11) (T := TX11) (N := 58) (fs' := [.ref q6, .ref q35, .int 0, .ref q74, .ref q82, .ref q90, .ref q98, .ref q106, .ref q114, .ref q122, .ref q131, .ref q138, .ref q147, .int 0, .int 0, .int 0, .int 0, .int 0, .int 0, .int 0, .int 0, .int 0, .int (-1), .ref q160, .ref q168, .ref q176, .ref q184, .ref q193, .int 0, .int 0, .int 0, .int 0, .int 0, .ref q201, .ref q209, .int 0, .int 0, .ref q217, .ref q225, .ref q233, .ref q242, .ref q251, .ref q259, .null, .null, .null, .null, .null, .int 0, .int 0, .int 0, .int 0, .null, .null, .null, .null, .null, .null]) tyX11 tyX11_ok nmX11 hx hb htX11 hown hK hP hD hS rfl (by decide) (hW _ wd1364) rfl hin rfl rfl rfl (Nat.le_of_ble_eq_true rfl) dX11_init_261 rfl (fun H locs hP hD hS => ?_)
  refine lv_aload_n hx hb dX11_init_264 rfl (lv_at hl 0 rfl) ?_
  refine lv_bipush (v := 8) hx hb dX11_init_265 (by decide) ?_
  refine cNI (N := 8) hx hb hW hK hP hD hS hA (by decide) (by decide +kernel) (Nat.le_of_ble_eq_true rfl) (Nat.le_of_ble_eq_true rfl) (Nat.le_of_ble_eq_true rfl) dX11_init_267 (fun q267 H hP hD hS => ?_)
  refine W.widen (k := 26) (n := 8090) (Nat.le_of_ble_eq_true rfl) (Nat.le_of_ble_eq_true rfl) ?_
  refine cPF (k := 43) (C := RX11) (T := TX11) (N := 58) (fs' := [.ref q6, .ref q35, .int 0, .ref q74, .ref q82, .ref q90, .ref q98, .ref q106, .ref q114, .ref q122, .ref q131, .ref q138, .ref q147, .int 0, .int 0, .int 0, .int 0, .int 0, .int 0, .int 0, .int 0, .int 0, .int (-1), .ref q160, .ref q168, .ref q176, .ref q184, .ref q193, .int 0, .int 0, .int 0, .int 0, .int 0, .ref q201, .ref q209, .int 0, .int 0, .ref q217, .ref q225, .ref q233, .ref q242, .ref q251, .ref q259, .ref q267, .null, .null, .null, .null, .int 0, .int 0, .int 0, .int 0, .null, .null, .null, .null, .null, .null]) tyX11 tyX11_ok nmX11 hx hb htX11 hown hK hP hD hS rfl (by decide) (hW _ wd1365) rfl hin rfl rfl rfl (Nat.le_of_ble_eq_true rfl) dX11_init_269 rfl (fun H locs hP hD hS => ?_)
  refine lv_aload_n hx hb dX11_init_272 rfl (lv_at hl 0 rfl) ?_
  refine lv_bipush (v := 8) hx hb dX11_init_273 (by decide) ?_
  refine cNI (N := 8) hx hb hW hK hP hD hS hA (by decide) (by decide +kernel) (Nat.le_of_ble_eq_true rfl) (Nat.le_of_ble_eq_true rfl) (Nat.le_of_ble_eq_true rfl) dX11_init_275 (fun q275 H hP hD hS => ?_)
  refine W.widen (k := 27) (n := 8098) (Nat.le_of_ble_eq_true rfl) (Nat.le_of_ble_eq_true rfl) ?_
  refine cPF (k := 44) (C := RX11) (T := TX11) (N := 58) (fs' := [.ref q6, .ref q35, .int 0, .ref q74, .ref q82, .ref q90, .ref q98, .ref q106, .ref q114, .ref q122, .ref q131, .ref q138, .ref q147, .int 0, .int 0, .int 0, .int 0, .int 0, .int 0, .int 0, .int 0, .int 0, .int (-1), .ref q160, .ref q168, .ref q176, .ref q184, .ref q193, .int 0, .int 0, .int 0, .int 0, .int 0, .ref q201, .ref q209, .int 0, .int 0, .ref q217, .ref q225, .ref q233, .ref q242, .ref q251, .ref q259, .ref q267, .ref q275, .null, .null, .null, .int 0, .int 0, .int 0, .int 0, .null, .null, .null, .null, .null, .null]) tyX11 tyX11_ok nmX11 hx hb htX11 hown hK hP hD hS rfl (by decide) (hW _ wd1366) rfl hin rfl rfl rfl (Nat.le_of_ble_eq_true rfl) dX11_init_277 rfl (fun H locs hP hD hS => ?_)
  refine lv_aload_n hx hb dX11_init_280 rfl (lv_at hl 0 rfl) ?_
  refine lv_bipush (v := 8) hx hb dX11_init_281 (by decide) ?_
  refine cNI (N := 8) hx hb hW hK hP hD hS hA (by decide) (by decide +kernel) (Nat.le_of_ble_eq_true rfl) (Nat.le_of_ble_eq_true rfl) (Nat.le_of_ble_eq_true rfl) dX11_init_283 (fun q283 H hP hD hS => ?_)
  refine W.widen (k := 28) (n := 8106) (Nat.le_of_ble_eq_true rfl) (Nat.le_of_ble_eq_true rfl) ?_
  refine cPF (k := 45) (C := RX11) (T := TX11) (N := 58) (fs' := [.ref q6, .ref q35, .int 0, .ref q74, .ref q82, .ref q90, .ref q98, .ref q106, .ref q114, .ref q122, .ref q131, .ref q138, .ref q147, .int 0, .int 0, .int 0, .int 0, .int 0, .int 0, .int 0, .int 0, .int 0, .int (-1), .ref q160, .ref q168, .ref q176, .ref q184, .ref q193, .int 0, .int 0, .int 0, .int 0, .int 0, .ref q201, .ref q209, .int 0, .int 0, .ref q217, .ref q225, .ref q233, .ref q242, .ref q251, .ref q259, .ref q267, .ref q275, .ref q283, .null, .null, .int 0, .int 0, .int 0, .int 0, .null, .null, .null, .null, .null, .null]) tyX11 tyX11_ok nmX11 hx hb htX11 hown hK hP hD hS rfl (by decide) (hW _ wd1367) rfl hin rfl rfl rfl (Nat.le_of_ble_eq_true rfl) dX11_init_285 rfl (fun H locs hP hD hS => ?_)
  refine lv_aload_n hx hb dX11_init_288 rfl (lv_at hl 0 rfl) ?_
  refine lv_bipush (v := 43) hx hb dX11_init_289 (by decide) ?_
  refine cNI (N := 43) hx hb hW hK hP hD hS hA (by decide) (by decide +kernel) (Nat.le_of_ble_eq_true rfl) (Nat.le_of_ble_eq_true rfl) (Nat.le_of_ble_eq_true rfl) dX11_init_291 (fun q291 H hP hD hS => ?_)
  refine W.widen (k := 29) (n := 8149) (Nat.le_of_ble_eq_true rfl) (Nat.le_of_ble_eq_true rfl) ?_
  refine cPF (k := 46) (C := RX11) (T := TX11) (N := 58) (fs' := [.ref q6, .ref q35, .int 0, .ref q74, .ref q82, .ref q90, .ref q98, .ref q106, .ref q114, .ref q122, .ref q131, .ref q138, .ref q147, .int 0, .int 0, .int 0, .int 0, .int 0, .int 0, .int 0, .int 0, .int 0, .int (-1), .ref q160, .ref q168, .ref q176, .ref q184, .ref q193, .int 0, .int 0, .int 0, .int 0, .int 0, .ref q201, .ref q209, .int 0, .int 0, .ref q217, .ref q225, .ref q233, .ref q242, .ref q251, .ref q259, .ref q267, .ref q275, .ref q283, .ref q291, .null, .int 0, .int 0, .int 0, .int 0, .null, .null, .null, .null, .null, .null]) tyX11 tyX11_ok nmX11 hx hb htX11 hown hK hP hD hS rfl (by decide) (hW _ wd1368) rfl hin rfl rfl rfl (Nat.le_of_ble_eq_true rfl) dX11_init_293 rfl (fun H locs hP hD hS => ?_)
  refine lv_aload_n hx hb dX11_init_296 rfl (lv_at hl 0 rfl) ?_
  refine lv_sipush (v := 576) hx hb dX11_init_297 (by decide) ?_
  refine cNI (N := 576) hx hb hW hK hP hD hS hA (by decide) (by decide +kernel) (Nat.le_of_ble_eq_true rfl) (Nat.le_of_ble_eq_true rfl) (Nat.le_of_ble_eq_true rfl) dX11_init_300 (fun q300 H hP hD hS => ?_)
  refine W.widen (k := 30) (n := 8725) (Nat.le_of_ble_eq_true rfl) (Nat.le_of_ble_eq_true rfl) ?_
  refine cPF (k := 47) (C := RX11) (T := TX11) (N := 58) (fs' := [.ref q6, .ref q35, .int 0, .ref q74, .ref q82, .ref q90, .ref q98, .ref q106, .ref q114, .ref q122, .ref q131, .ref q138, .ref q147, .int 0, .int 0, .int 0, .int 0, .int 0, .int 0, .int 0, .int 0, .int 0, .int (-1), .ref q160, .ref q168, .ref q176, .ref q184, .ref q193, .int 0, .int 0, .int 0, .int 0, .int 0, .ref q201, .ref q209, .int 0, .int 0, .ref q217, .ref q225, .ref q233, .ref q242, .ref q251, .ref q259, .ref q267, .ref q275, .ref q283, .ref q291, .ref q300, .int 0, .int 0, .int 0, .int 0, .null, .null, .null, .null, .null, .null]) tyX11 tyX11_ok nmX11 hx hb htX11 hown hK hP hD hS rfl (by decide) (hW _ wd1369) rfl hin rfl rfl rfl (Nat.le_of_ble_eq_true rfl) dX11_init_302 rfl (fun H locs hP hD hS => ?_)
  refine lv_aload_n hx hb dX11_init_305 rfl (lv_at hl 0 rfl) ?_
  refine lv_bipush (v := 43) hx hb dX11_init_306 (by decide) ?_
  refine cNI (N := 43) hx hb hW hK hP hD hS hA (by decide) (by decide +kernel) (Nat.le_of_ble_eq_true rfl) (Nat.le_of_ble_eq_true rfl) (Nat.le_of_ble_eq_true rfl) dX11_init_308 (fun q308 H hP hD hS => ?_)
  refine W.widen (k := 31) (n := 8768) (Nat.le_of_ble_eq_true rfl) (Nat.le_of_ble_eq_true rfl) ?_
  refine cPF (k := 52) (C := RX11) (T := TX11) (N := 58) (fs' := [.ref q6, .ref q35, .int 0, .ref q74, .ref q82, .ref q90, .ref q98, .ref q106, .ref q114, .ref q122, .ref q131, .ref q138, .ref q147, .int 0, .int 0, .int 0, .int 0, .int 0, .int 0, .int 0, .int 0, .int 0, .int (-1), .ref q160, .ref q168, .ref q176, .ref q184, .ref q193, .int 0, .int 0, .int 0, .int 0, .int 0, .ref q201, .ref q209, .int 0, .int 0, .ref q217, .ref q225, .ref q233, .ref q242, .ref q251, .ref q259, .ref q267, .ref q275, .ref q283, .ref q291, .ref q300, .int 0, .int 0, .int 0, .int 0, .ref q308, .null, .null, .null, .null, .null]) tyX11 tyX11_ok nmX11 hx hb htX11 hown hK hP hD hS rfl (by decide) (hW _ wd1374) rfl hin rfl rfl rfl (Nat.le_of_ble_eq_true rfl) dX11_init_310 rfl (fun H locs hP hD hS => ?_)
  refine lv_aload_n hx hb dX11_init_313 rfl (lv_at hl 0 rfl) ?_
  refine lv_sipush (v := 1720) hx hb dX11_init_314 (by decide) ?_
  refine cNI (N := 1720) hx hb hW hK hP hD hS hA (by decide) (by decide +kernel) (Nat.le_of_ble_eq_true rfl) (Nat.le_of_ble_eq_true rfl) (Nat.le_of_ble_eq_true rfl) dX11_init_317 (fun q317 H hP hD hS => ?_)
  refine W.widen (k := 32) (n := 10488) (Nat.le_of_ble_eq_true rfl) (Nat.le_of_ble_eq_true rfl) ?_
  refine cPF (k := 53) (C := RX11) (T := TX11) (N := 58) (fs' := [.ref q6, .ref q35, .int 0, .ref q74, .ref q82, .ref q90, .ref q98, .ref q106, .ref q114, .ref q122, .ref q131, .ref q138, .ref q147, .int 0, .int 0, .int 0, .int 0, .int 0, .int 0, .int 0, .int 0, .int 0, .int (-1), .ref q160, .ref q168, .ref q176, .ref q184, .ref q193, .int 0, .int 0, .int 0, .int 0, .int 0, .ref q201, .ref q209, .int 0, .int 0, .ref q217, .ref q225, .ref q233, .ref q242, .ref q251, .ref q259, .ref q267, .ref q275, .ref q283, .ref q291, .ref q300, .int 0, .int 0, .int 0, .int 0, .ref q308, .ref q317, .null, .null, .null, .null]) tyX11 tyX11_ok nmX11 hx hb htX11 hown hK hP hD hS rfl (by decide) (hW _ wd1375) rfl hin rfl rfl rfl (Nat.le_of_ble_eq_true rfl) dX11_init_319 rfl (fun H locs hP hD hS => ?_)
  refine lv_aload_n hx hb dX11_init_322 rfl (lv_at hl 0 rfl) ?_
  refine lv_bipush (v := 8) hx hb dX11_init_323 (by decide) ?_
  refine cNI (N := 8) hx hb hW hK hP hD hS hA (by decide) (by decide +kernel) (Nat.le_of_ble_eq_true rfl) (Nat.le_of_ble_eq_true rfl) (Nat.le_of_ble_eq_true rfl) dX11_init_325 (fun q325 H hP hD hS => ?_)
  refine W.widen (k := 33) (n := 10496) (Nat.le_of_ble_eq_true rfl) (Nat.le_of_ble_eq_true rfl) ?_
  refine cPF (k := 54) (C := RX11) (T := TX11) (N := 58) (fs' := [.ref q6, .ref q35, .int 0, .ref q74, .ref q82, .ref q90, .ref q98, .ref q106, .ref q114, .ref q122, .ref q131, .ref q138, .ref q147, .int 0, .int 0, .int 0, .int 0, .int 0, .int 0, .int 0, .int 0, .int 0, .int (-1), .ref q160, .ref q168, .ref q176, .ref q184, .ref q193, .int 0, .int 0, .int 0, .int 0, .int 0, .ref q201, .ref q209, .int 0, .int 0, .ref q217, .ref q225, .ref q233, .ref q242, .ref q251, .ref q259, .ref q267, .ref q275, .ref q283, .ref q291, .ref q300, .int 0, .int 0, .int 0, .int 0, .ref q308, .ref q317, .ref q325, .null, .null, .null]) tyX11 tyX11_ok nmX11 hx hb htX11 hown hK hP hD hS rfl (by decide) (hW _ wd1376) rfl hin rfl rfl rfl (Nat.le_of_ble_eq_true rfl) dX11_init_327 rfl (fun H locs hP hD hS => ?_)
  refine lv_aload_n hx hb dX11_init_330 rfl (lv_at hl 0 rfl) ?_
  refine lv_bipush (v := 8) hx hb dX11_init_331 (by decide) ?_
  refine cNI (N := 8) hx hb hW hK hP hD hS hA (by decide) (by decide +kernel) (Nat.le_of_ble_eq_true rfl) (Nat.le_of_ble_eq_true rfl) (Nat.le_of_ble_eq_true rfl) dX11_init_333 (fun q333 H hP hD hS => ?_)
  refine W.widen (k := 34) (n := 10504) (Nat.le_of_ble_eq_true rfl) (Nat.le_of_ble_eq_true rfl) ?_
  refine cPF (k := 55) (C := RX11) (T := TX11) (N := 58) (fs' := [.ref q6, .ref q35, .int 0, .ref q74, .ref q82, .ref q90, .ref q98, .ref q106, .ref q114, .ref q122, .ref q131, .ref q138, .ref q147, .int 0, .int 0, .int 0, .int 0, .int 0, .int 0, .int 0, .int 0, .int 0, .int (-1), .ref q160, .ref q168, .ref q176, .ref q184, .ref q193, .int 0, .int 0, .int 0, .int 0, .int 0, .ref q201, .ref q209, .int 0, .int 0, .ref q217, .ref q225, .ref q233, .ref q242, .ref q251, .ref q259, .ref q267, .ref q275, .ref q283, .ref q291, .ref q300, .int 0, .int 0, .int 0, .int 0, .ref q308, .ref q317, .ref q325, .ref q333, .null, .null]) tyX11 tyX11_ok nmX11 hx hb htX11 hown hK hP hD hS rfl (by decide) (hW _ wd1377) rfl hin rfl rfl rfl (Nat.le_of_ble_eq_true rfl) dX11_init_335 rfl (fun H locs hP hD hS => ?_)
  refine lv_aload_n hx hb dX11_init_338 rfl (lv_at hl 0 rfl) ?_
  refine lv_bipush (v := 8) hx hb dX11_init_339 (by decide) ?_
  refine cNI (N := 8) hx hb hW hK hP hD hS hA (by decide) (by decide +kernel) (Nat.le_of_ble_eq_true rfl) (Nat.le_of_ble_eq_true rfl) (Nat.le_of_ble_eq_true rfl) dX11_init_341 (fun q341 H hP hD hS => ?_)
  refine W.widen (k := 35) (n := 10512) (Nat.le_of_ble_eq_true rfl) (Nat.le_of_ble_eq_true rfl) ?_
  refine cPF (k := 56) (C := RX11) (T := TX11) (N := 58) (fs' := [.ref q6, .ref q35, .int 0, .ref q74, .ref q82, .ref q90, .ref q98, .ref q106, .ref q114, .ref q122, .ref q131, .ref q138, .ref q147, .int 0, .int 0, .int 0, .int 0, .int 0, .int 0, .int 0, .int 0, .int 0, .int (-1), .ref q160, .ref q168, .ref q176, .ref q184, .ref q193, .int 0, .int 0, .int 0, .int 0, .int 0, .ref q201, .ref q209, .int 0, .int 0, .ref q217, .ref q225, .ref q233, .ref q242, .ref q251, .ref q259, .ref q267, .ref q275, .ref q283, .ref q291, .ref q300, .int 0, .int 0, .int 0, .int 0, .ref q308, .ref q317, .ref q325, .ref q333, .ref q341, .null]) tyX11 tyX11_ok nmX11 hx hb htX11 hown hK hP hD hS rfl (by decide) (hW _ wd1378) rfl hin rfl rfl rfl (Nat.le_of_ble_eq_true rfl) dX11_init_343 rfl (fun H locs hP hD hS => ?_)
  refine lv_aload_n hx hb dX11_init_346 rfl (lv_at hl 0 rfl) ?_
  refine lv_iconst (v := 3) hx hb dX11_init_347 (by decide) ?_
  refine cNI (N := 3) hx hb hW hK hP hD hS hA (by decide) (by decide +kernel) (Nat.le_of_ble_eq_true rfl) (Nat.le_of_ble_eq_true rfl) (Nat.le_of_ble_eq_true rfl) dX11_init_348 (fun q348 H hP hD hS => ?_)
  refine W.widen (k := 36) (n := 10515) (Nat.le_of_ble_eq_true rfl) (Nat.le_of_ble_eq_true rfl) ?_
  refine cPF (k := 57) (C := RX11) (T := TX11) (N := 58) (fs' := [.ref q6, .ref q35, .int 0, .ref q74, .ref q82, .ref q90, .ref q98, .ref q106, .ref q114, .ref q122, .ref q131, .ref q138, .ref q147, .int 0, .int 0, .int 0, .int 0, .int 0, .int 0, .int 0, .int 0, .int 0, .int (-1), .ref q160, .ref q168, .ref q176, .ref q184, .ref q193, .int 0, .int 0, .int 0, .int 0, .int 0, .ref q201, .ref q209, .int 0, .int 0, .ref q217, .ref q225, .ref q233, .ref q242, .ref q251, .ref q259, .ref q267, .ref q275, .ref q283, .ref q291, .ref q300, .int 0, .int 0, .int 0, .int 0, .ref q308, .ref q317, .ref q325, .ref q333, .ref q341, .ref q348]) tyX11 tyX11_ok nmX11 hx hb htX11 hown hK hP hD hS rfl (by decide) (hW _ wd1379) rfl hin rfl rfl rfl (Nat.le_of_ble_eq_true rfl) dX11_init_350 rfl (fun H locs hP hD hS => ?_)
  obtain ⟨hP, hD⟩ := cOrd (is := [0, 34, 33, 32, 31, 30, 29, 28, 27, 26, 25, 24, 23, 22, 21, 20, 19, 18, 17, 16, 15, 14, 13, 12, 11, 10, 9, 8, 7, 6, 5, 4, 3, 2, 1, 36, 35]) 37 hP hD rfl (by decide +kernel) rfl
  exact cRet (x := (fun k : Nat => if k = 0 then q6 else if k = 1 then q35 else if k = 3 then q74 else if k = 4 then q82 else if k = 5 then q90 else if k = 6 then q98 else if k = 7 then q106 else if k = 8 then q114 else if k = 9 then q122 else if k = 10 then q131 else if k = 11 then q138 else if k = 12 then q147 else if k = 23 then q160 else if k = 24 then q168 else if k = 25 then q176 else if k = 26 then q184 else if k = 27 then q193 else if k = 33 then q201 else if k = 34 then q209 else if k = 37 then q217 else if k = 38 then q225 else if k = 39 then q233 else if k = 40 then q242 else if k = 41 then q251 else if k = 42 then q259 else if k = 43 then q267 else if k = 44 then q275 else if k = 45 then q283 else if k = 46 then q291 else if k = 47 then q300 else if k = 52 then q308 else if k = 53 then q317 else if k = 54 then q325 else if k = 55 then q333 else if k = 56 then q341 else if k = 57 then q348 else 0)) (Wx := fun x : Nat → Nat => [w11 cs o x zM]) hx hb hr hlocks hK hP hD hS hQ dX11_init_353
