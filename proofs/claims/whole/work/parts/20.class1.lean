/-! the blocks of cells -/
def a0n : Nat → Nat := fun _ => 0
def fs0 (a : Nat → Nat) (σ : St) : List Value := [.int (σ.1 0)]
def w0 (cs : xE) (o : Nat) (a : Nat → Nat) (σ : St) : va_W := [(o, .inr (0, fs0 a σ))]
theorem e0 {cs : xE} {o : Nat} {a : Nat → Nat} {σ : St} : (w0 cs o a σ)[0]? = some (o, .inr (0, fs0 a σ)) := rfl
theorem u0_0 {cs : xE} {o : Nat} {a : Nat → Nat} {σ : St} {v : Int32} : (w0 cs o a σ).set 0 (o, .inr (0, (fs0 a σ).set 0 (.int v))) = w0 cs o a (sS σ 0 v) := rfl
def fs1 (a : Nat → Nat) (σ : St) : List Value := [.int (σ.1 0), .int (σ.1 1), .int (σ.1 2), .int (σ.1 3), .int (σ.1 4), .int (σ.1 5)]
def w1 (cs : xE) (o : Nat) (a : Nat → Nat) (σ : St) : va_W := [(o, .inr (1, fs1 a σ))]
theorem e1 {cs : xE} {o : Nat} {a : Nat → Nat} {σ : St} : (w1 cs o a σ)[0]? = some (o, .inr (1, fs1 a σ)) := rfl
theorem u1_0 {cs : xE} {o : Nat} {a : Nat → Nat} {σ : St} {v : Int32} : (w1 cs o a σ).set 0 (o, .inr (1, (fs1 a σ).set 0 (.int v))) = w1 cs o a (sS σ 0 v) := rfl
theorem u1_1 {cs : xE} {o : Nat} {a : Nat → Nat} {σ : St} {v : Int32} : (w1 cs o a σ).set 0 (o, .inr (1, (fs1 a σ).set 1 (.int v))) = w1 cs o a (sS σ 1 v) := rfl
theorem u1_2 {cs : xE} {o : Nat} {a : Nat → Nat} {σ : St} {v : Int32} : (w1 cs o a σ).set 0 (o, .inr (1, (fs1 a σ).set 2 (.int v))) = w1 cs o a (sS σ 2 v) := rfl
theorem u1_3 {cs : xE} {o : Nat} {a : Nat → Nat} {σ : St} {v : Int32} : (w1 cs o a σ).set 0 (o, .inr (1, (fs1 a σ).set 3 (.int v))) = w1 cs o a (sS σ 3 v) := rfl
theorem u1_4 {cs : xE} {o : Nat} {a : Nat → Nat} {σ : St} {v : Int32} : (w1 cs o a σ).set 0 (o, .inr (1, (fs1 a σ).set 4 (.int v))) = w1 cs o a (sS σ 4 v) := rfl
theorem u1_5 {cs : xE} {o : Nat} {a : Nat → Nat} {σ : St} {v : Int32} : (w1 cs o a σ).set 0 (o, .inr (1, (fs1 a σ).set 5 (.int v))) = w1 cs o a (sS σ 5 v) := rfl
def fs2 (a : Nat → Nat) (σ : St) : List Value := [.int (σ.1 0), .int (σ.1 1), .int (σ.1 2), .int (σ.1 3), .int (σ.1 4)]
def w2 (cs : xE) (o : Nat) (a : Nat → Nat) (σ : St) : va_W := [(o, .inr (2, fs2 a σ))]
theorem e2 {cs : xE} {o : Nat} {a : Nat → Nat} {σ : St} : (w2 cs o a σ)[0]? = some (o, .inr (2, fs2 a σ)) := rfl
theorem u2_0 {cs : xE} {o : Nat} {a : Nat → Nat} {σ : St} {v : Int32} : (w2 cs o a σ).set 0 (o, .inr (2, (fs2 a σ).set 0 (.int v))) = w2 cs o a (sS σ 0 v) := rfl
theorem u2_1 {cs : xE} {o : Nat} {a : Nat → Nat} {σ : St} {v : Int32} : (w2 cs o a σ).set 0 (o, .inr (2, (fs2 a σ).set 1 (.int v))) = w2 cs o a (sS σ 1 v) := rfl
theorem u2_2 {cs : xE} {o : Nat} {a : Nat → Nat} {σ : St} {v : Int32} : (w2 cs o a σ).set 0 (o, .inr (2, (fs2 a σ).set 2 (.int v))) = w2 cs o a (sS σ 2 v) := rfl
theorem u2_3 {cs : xE} {o : Nat} {a : Nat → Nat} {σ : St} {v : Int32} : (w2 cs o a σ).set 0 (o, .inr (2, (fs2 a σ).set 3 (.int v))) = w2 cs o a (sS σ 3 v) := rfl
theorem u2_4 {cs : xE} {o : Nat} {a : Nat → Nat} {σ : St} {v : Int32} : (w2 cs o a σ).set 0 (o, .inr (2, (fs2 a σ).set 4 (.int v))) = w2 cs o a (sS σ 4 v) := rfl
def fs7 (a : Nat → Nat) (σ : St) : List Value := [.ref (a 0), .ref (a 1), .ref (a 2), .int (σ.1 3)]
def w7 (cs : xE) (o : Nat) (a : Nat → Nat) (σ : St) : va_W := [(o, .inr (7, fs7 a σ)), (a 0, .inl (cs.1 0, 600, .inl (σ.2 0))), (a 1, .inl (cs.1 0, 64, .inl (σ.2 1))), (a 2, .inl (cs.1 0, 6, .inl (σ.2 2)))]
theorem e7 {cs : xE} {o : Nat} {a : Nat → Nat} {σ : St} : (w7 cs o a σ)[0]? = some (o, .inr (7, fs7 a σ)) := rfl
theorem u7_3 {cs : xE} {o : Nat} {a : Nat → Nat} {σ : St} {v : Int32} : (w7 cs o a σ).set 0 (o, .inr (7, (fs7 a σ).set 3 (.int v))) = w7 cs o a (sS σ 3 v) := rfl
theorem a7_0 {cs : xE} {o : Nat} {a : Nat → Nat} {σ : St} : (w7 cs o a σ)[1]? = some (a 0, .inl (cs.1 0, 600, .inl (σ.2 0))) := rfl
theorem v7_0 {cs : xE} {o : Nat} {a : Nat → Nat} {σ : St} {f : Nat → Int32} : (w7 cs o a σ).set 1 (a 0, .inl (cs.1 0, 600, .inl f)) = w7 cs o a (sA σ 0 f) := rfl
theorem a7_1 {cs : xE} {o : Nat} {a : Nat → Nat} {σ : St} : (w7 cs o a σ)[2]? = some (a 1, .inl (cs.1 0, 64, .inl (σ.2 1))) := rfl
theorem v7_1 {cs : xE} {o : Nat} {a : Nat → Nat} {σ : St} {f : Nat → Int32} : (w7 cs o a σ).set 2 (a 1, .inl (cs.1 0, 64, .inl f)) = w7 cs o a (sA σ 1 f) := rfl
theorem a7_2 {cs : xE} {o : Nat} {a : Nat → Nat} {σ : St} : (w7 cs o a σ)[3]? = some (a 2, .inl (cs.1 0, 6, .inl (σ.2 2))) := rfl
theorem v7_2 {cs : xE} {o : Nat} {a : Nat → Nat} {σ : St} {f : Nat → Int32} : (w7 cs o a σ).set 3 (a 2, .inl (cs.1 0, 6, .inl f)) = w7 cs o a (sA σ 2 f) := rfl
def fs8 (a : Nat → Nat) (σ : St) : List Value := [.int (σ.1 0), .int (σ.1 1), .ref (a 2), .ref (a 3)]
def w8 (cs : xE) (o : Nat) (a : Nat → Nat) (σ : St) : va_W := [(o, .inr (8, fs8 a σ)), (a 2, .inl (cs.1 0, 8, .inl (σ.2 2))), (a 3, .inl (cs.1 0, 8, .inl (σ.2 3)))]
theorem e8 {cs : xE} {o : Nat} {a : Nat → Nat} {σ : St} : (w8 cs o a σ)[0]? = some (o, .inr (8, fs8 a σ)) := rfl
theorem u8_0 {cs : xE} {o : Nat} {a : Nat → Nat} {σ : St} {v : Int32} : (w8 cs o a σ).set 0 (o, .inr (8, (fs8 a σ).set 0 (.int v))) = w8 cs o a (sS σ 0 v) := rfl
theorem u8_1 {cs : xE} {o : Nat} {a : Nat → Nat} {σ : St} {v : Int32} : (w8 cs o a σ).set 0 (o, .inr (8, (fs8 a σ).set 1 (.int v))) = w8 cs o a (sS σ 1 v) := rfl
theorem a8_2 {cs : xE} {o : Nat} {a : Nat → Nat} {σ : St} : (w8 cs o a σ)[1]? = some (a 2, .inl (cs.1 0, 8, .inl (σ.2 2))) := rfl
theorem v8_2 {cs : xE} {o : Nat} {a : Nat → Nat} {σ : St} {f : Nat → Int32} : (w8 cs o a σ).set 1 (a 2, .inl (cs.1 0, 8, .inl f)) = w8 cs o a (sA σ 2 f) := rfl
theorem a8_3 {cs : xE} {o : Nat} {a : Nat → Nat} {σ : St} : (w8 cs o a σ)[2]? = some (a 3, .inl (cs.1 0, 8, .inl (σ.2 3))) := rfl
theorem v8_3 {cs : xE} {o : Nat} {a : Nat → Nat} {σ : St} {f : Nat → Int32} : (w8 cs o a σ).set 2 (a 3, .inl (cs.1 0, 8, .inl f)) = w8 cs o a (sA σ 3 f) := rfl
def fs9 (a : Nat → Nat) (σ : St) : List Value := [.int (σ.1 0), .int (σ.1 1), .int (σ.1 2), .int (σ.1 3), .int (σ.1 4), .ref (a 5), .ref (a 6), .ref (a 7), .ref (a 8), .ref (a 9), .ref (a 10)]
def w9 (cs : xE) (o : Nat) (a : Nat → Nat) (σ : St) : va_W := [(o, .inr (9, fs9 a σ)), (a 5, .inl (cs.1 0, 8, .inl (σ.2 5))), (a 6, .inl (cs.1 0, 8, .inl (σ.2 6))), (a 7, .inl (cs.1 0, 8, .inl (σ.2 7))), (a 8, .inl (cs.1 0, 12, .inl (σ.2 8))), (a 9, .inl (cs.1 0, 12, .inl (σ.2 9))), (a 10, .inl (cs.1 0, 12, .inl (σ.2 10)))]
theorem e9 {cs : xE} {o : Nat} {a : Nat → Nat} {σ : St} : (w9 cs o a σ)[0]? = some (o, .inr (9, fs9 a σ)) := rfl
theorem u9_0 {cs : xE} {o : Nat} {a : Nat → Nat} {σ : St} {v : Int32} : (w9 cs o a σ).set 0 (o, .inr (9, (fs9 a σ).set 0 (.int v))) = w9 cs o a (sS σ 0 v) := rfl
theorem u9_1 {cs : xE} {o : Nat} {a : Nat → Nat} {σ : St} {v : Int32} : (w9 cs o a σ).set 0 (o, .inr (9, (fs9 a σ).set 1 (.int v))) = w9 cs o a (sS σ 1 v) := rfl
theorem u9_2 {cs : xE} {o : Nat} {a : Nat → Nat} {σ : St} {v : Int32} : (w9 cs o a σ).set 0 (o, .inr (9, (fs9 a σ).set 2 (.int v))) = w9 cs o a (sS σ 2 v) := rfl
theorem u9_3 {cs : xE} {o : Nat} {a : Nat → Nat} {σ : St} {v : Int32} : (w9 cs o a σ).set 0 (o, .inr (9, (fs9 a σ).set 3 (.int v))) = w9 cs o a (sS σ 3 v) := rfl
theorem u9_4 {cs : xE} {o : Nat} {a : Nat → Nat} {σ : St} {v : Int32} : (w9 cs o a σ).set 0 (o, .inr (9, (fs9 a σ).set 4 (.int v))) = w9 cs o a (sS σ 4 v) := rfl
theorem a9_5 {cs : xE} {o : Nat} {a : Nat → Nat} {σ : St} : (w9 cs o a σ)[1]? = some (a 5, .inl (cs.1 0, 8, .inl (σ.2 5))) := rfl
theorem v9_5 {cs : xE} {o : Nat} {a : Nat → Nat} {σ : St} {f : Nat → Int32} : (w9 cs o a σ).set 1 (a 5, .inl (cs.1 0, 8, .inl f)) = w9 cs o a (sA σ 5 f) := rfl
theorem a9_6 {cs : xE} {o : Nat} {a : Nat → Nat} {σ : St} : (w9 cs o a σ)[2]? = some (a 6, .inl (cs.1 0, 8, .inl (σ.2 6))) := rfl
theorem v9_6 {cs : xE} {o : Nat} {a : Nat → Nat} {σ : St} {f : Nat → Int32} : (w9 cs o a σ).set 2 (a 6, .inl (cs.1 0, 8, .inl f)) = w9 cs o a (sA σ 6 f) := rfl
theorem a9_7 {cs : xE} {o : Nat} {a : Nat → Nat} {σ : St} : (w9 cs o a σ)[3]? = some (a 7, .inl (cs.1 0, 8, .inl (σ.2 7))) := rfl
theorem v9_7 {cs : xE} {o : Nat} {a : Nat → Nat} {σ : St} {f : Nat → Int32} : (w9 cs o a σ).set 3 (a 7, .inl (cs.1 0, 8, .inl f)) = w9 cs o a (sA σ 7 f) := rfl
theorem a9_8 {cs : xE} {o : Nat} {a : Nat → Nat} {σ : St} : (w9 cs o a σ)[4]? = some (a 8, .inl (cs.1 0, 12, .inl (σ.2 8))) := rfl
theorem v9_8 {cs : xE} {o : Nat} {a : Nat → Nat} {σ : St} {f : Nat → Int32} : (w9 cs o a σ).set 4 (a 8, .inl (cs.1 0, 12, .inl f)) = w9 cs o a (sA σ 8 f) := rfl
theorem a9_9 {cs : xE} {o : Nat} {a : Nat → Nat} {σ : St} : (w9 cs o a σ)[5]? = some (a 9, .inl (cs.1 0, 12, .inl (σ.2 9))) := rfl
theorem v9_9 {cs : xE} {o : Nat} {a : Nat → Nat} {σ : St} {f : Nat → Int32} : (w9 cs o a σ).set 5 (a 9, .inl (cs.1 0, 12, .inl f)) = w9 cs o a (sA σ 9 f) := rfl
theorem a9_10 {cs : xE} {o : Nat} {a : Nat → Nat} {σ : St} : (w9 cs o a σ)[6]? = some (a 10, .inl (cs.1 0, 12, .inl (σ.2 10))) := rfl
theorem v9_10 {cs : xE} {o : Nat} {a : Nat → Nat} {σ : St} {f : Nat → Int32} : (w9 cs o a σ).set 6 (a 10, .inl (cs.1 0, 12, .inl f)) = w9 cs o a (sA σ 10 f) := rfl
/-! TwinLamps$Town.isLit -/
noncomputable def f9_isLit (s_t : St) (x1 : Int32) : Option (Bool) :=
  if (((s_t.1 3) >>> (x1 &&& 31)) &&& 1) = 1 then some true else some false
set_option maxHeartbeats 4000000 in
set_option maxRecDepth 100000 in
theorem c9_isLit (l : Launch) (D : va_G) (cs : xE) (o_t : Nat) (a_t : Nat → Nat) (s_t : St) (sz : Nat) (x1 : Int32) (res : Bool) (hf : f9_isLit s_t x1 = some res) : Met l yX9_isLit (Cond.code yX9_isLit cX9_isLit 2 (some .boolean) :: WG) { frames := 0, cells := 0, slots := 0, locals := 0 } (va_Pc [.ref o_t, .int x1] (mP D cs (List.flatten [w9 cs o_t a_t s_t]) sz)) (qI D cs (zB res) (List.flatten [w9 cs o_t a_t s_t]) (va_A (List.flatten [w9 cs o_t a_t s_t]) sz)) 0 0 (va_A (List.flatten [w9 cs o_t a_t s_t]) sz) := by
  refine mgo (Qc := qI D cs (zB res) (List.flatten [w9 cs o_t a_t s_t])) (cc := cX9_isLit) (maxL := 2) (ret := (some .boolean)) (by decide) rfl (Nat.le_of_ble_eq_true rfl) ?_
  intro p e s m below meth c ls A R Q args H hR hQ hx hb hml hr hlocks hown hts hP hK hD hA hS hG hl
  have hown : s.vm.findClass RX9 = some m.cls := hown
  have hl : lv_has ls 2 [(0, .ref o_t), (1, .int x1)] := hl
  have hW : ∀ w ∈ WG, w.before args s = true := fun w h => hts w (List.mem_cons_of_mem _ h)
  have htX9 : ∀ w ∈ u_ws RX9 TX9 11, w.before args s = true := fun w h => hW w (inW_X9 w h)
  unfold f9_isLit at hf
  refine lv_aload_n hx hb dX9_isLit_0 rfl (lv_at hl 0 rfl) ?_
  refine gfB (i0 := 0) (own := RX9) (T := TX9) (k := 3) (v := .int (s_t.1 3)) hx hb htX9 hown hK hP rfl e9 rfl (by decide) (hW _ wd160) rfl dX9_isLit_1 ?_
  refine lv_iload_n hx hb dX9_isLit_4 rfl (lv_at hl 1 rfl) ?_
  refine lv_ishr hx hb dX9_isLit_5 ?_
  refine lv_iconst (v := 1) hx hb dX9_isLit_6 (by decide) ?_
  refine lv_iand hx hb dX9_isLit_7 ?_
  refine lv_iconst (v := 1) hx hb dX9_isLit_8 (by decide) ?_
  refine lv_icmp_ne (tgt := 16) hx hb dX9_isLit_9 (by decide) (fun hc => ?_) (fun hc => ?_)
  · have hf := ifn hc hf
    refine lv_iconst (v := 0) hx hb dX9_isLit_16 (by decide) ?_
    obtain rfl := Option.some.inj hf
    exact mretZ hx hb hr hlocks hK hP hD hS rfl hQ dX9_isLit_17
  · have hf := ifp hc hf
    refine lv_iconst (v := 1) hx hb dX9_isLit_12 (by decide) ?_
    refine lv_goto (tgt := 17) hx hb dX9_isLit_13 (by decide) ?_
    obtain rfl := Option.some.inj hf
    exact mretZ hx hb hr hlocks hK hP hD hS rfl hQ dX9_isLit_17
/-! TwinLamps$Town.couple -/
noncomputable def f9_couple (s_t : St) (x1 : Int32) : Option (Int32) :=
  (ldO 12 (s_t.2 10) x1).bind fun q1 =>
  if q1 = (-1) then some ((1 : Int32) <<< (x1 &&& 31)) else some (((1 : Int32) <<< (x1 &&& 31)) ||| ((1 : Int32) <<< (q1 &&& 31)))
set_option maxHeartbeats 4000000 in
set_option maxRecDepth 100000 in
theorem c9_couple (l : Launch) (D : va_G) (cs : xE) (o_t : Nat) (a_t : Nat → Nat) (s_t : St) (sz : Nat) (x1 : Int32) (res : Int32) (hf : f9_couple s_t x1 = some res) : Met l yX9_couple (Cond.code yX9_couple cX9_couple 3 (some .int) :: WG) { frames := 0, cells := 0, slots := 0, locals := 0 } (va_Pc [.ref o_t, .int x1] (mP D cs (List.flatten [w9 cs o_t a_t s_t]) sz)) (qI D cs res (List.flatten [w9 cs o_t a_t s_t]) (va_A (List.flatten [w9 cs o_t a_t s_t]) sz)) 0 0 (va_A (List.flatten [w9 cs o_t a_t s_t]) sz) := by
  refine mgo (Qc := qI D cs res (List.flatten [w9 cs o_t a_t s_t])) (cc := cX9_couple) (maxL := 3) (ret := (some .int)) (by decide) rfl (Nat.le_of_ble_eq_true rfl) ?_
  intro p e s m below meth c ls A R Q args H hR hQ hx hb hml hr hlocks hown hts hP hK hD hA hS hG hl
  have hown : s.vm.findClass RX9 = some m.cls := hown
  have hl : lv_has ls 3 [(0, .ref o_t), (1, .int x1)] := hl
  have hW : ∀ w ∈ WG, w.before args s = true := fun w h => hts w (List.mem_cons_of_mem _ h)
  have htX9 : ∀ w ∈ u_ws RX9 TX9 11, w.before args s = true := fun w h => hW w (inW_X9 w h)
  unfold f9_couple at hf
  refine lv_aload_n hx hb dX9_couple_0 rfl (lv_at hl 0 rfl) ?_
  refine gfB (i0 := 0) (own := RX9) (T := TX9) (k := 10) (v := .ref (a_t 10)) hx hb htX9 hown hK hP rfl e9 rfl (by decide) (hW _ wd180) rfl dX9_couple_1 ?_
  refine lv_iload_n hx hb dX9_couple_4 rfl (lv_at hl 1 rfl) ?_
  obtain ⟨q1, eq1, hf⟩ := bnd hf
  obtain ⟨gq1, eq1⟩ := ldO_e eq1
  refine aldB (i0 := 0) hx hb hK hP rfl a9_10 gq1 dX9_couple_5 ?_
  refine lv_nm eq1 ?_
  refine lv_istore_n (lv' := [(2, .int q1), (0, .ref o_t), (1, .int x1)]) hx hb dX9_couple_6 rfl hl (by decide) rfl (fun ls hl => ?_)
  refine lv_iload_n hx hb dX9_couple_7 rfl (lv_at hl 0 rfl) ?_
  refine lv_iconst (v := (-1)) hx hb dX9_couple_8 (by decide) ?_
  refine lv_icmp_ne (tgt := 18) hx hb dX9_couple_9 (by decide) (fun hc => ?_) (fun hc => ?_)
  · have hf := ifn hc hf
    refine lv_iconst (v := 1) hx hb dX9_couple_18 (by decide) ?_
    refine lv_iload_n hx hb dX9_couple_19 rfl (lv_at hl 2 rfl) ?_
    refine lv_ishl hx hb dX9_couple_20 ?_
    refine lv_iconst (v := 1) hx hb dX9_couple_21 (by decide) ?_
    refine lv_iload_n hx hb dX9_couple_22 rfl (lv_at hl 0 rfl) ?_
    refine lv_ishl hx hb dX9_couple_23 ?_
    refine lv_ior hx hb dX9_couple_24 ?_
    obtain rfl := Option.some.inj hf
    exact mretI hx hb hr hlocks hK hP hD hS rfl hQ dX9_couple_25
  · have hf := ifp hc hf
    refine lv_iconst (v := 1) hx hb dX9_couple_12 (by decide) ?_
    refine lv_iload_n hx hb dX9_couple_13 rfl (lv_at hl 2 rfl) ?_
    refine lv_ishl hx hb dX9_couple_14 ?_
    refine lv_goto (tgt := 25) hx hb dX9_couple_15 (by decide) ?_
    obtain rfl := Option.some.inj hf
    exact mretI hx hb hr hlocks hK hP hD hS rfl hQ dX9_couple_25
/-! TwinLamps$Town.canBeLit -/
noncomputable def f9_canBeLit (s_t : St) (x1 : Int32) : Option (Bool) :=
  (ldO 12 (s_t.2 10) x1).bind fun q1 =>
  if q1 < 0 then ((ldO 12 (s_t.2 9) x1).bind fun q2 =>
  if q2 ≤ 0 then some false else (f9_couple s_t x1).bind fun q3 =>
  if ((s_t.1 4) &&& q3) = 0 then some true else some false)
  else if (s_t.1 1) ≤ q1 then ((ldO 12 (s_t.2 9) x1).bind fun q4 =>
  if q4 ≤ 0 then some false else (f9_couple s_t x1).bind fun q5 =>
  if ((s_t.1 4) &&& q5) = 0 then some true else some false)
  else (ldO 12 (s_t.2 9) q1).bind fun q6 =>
  if q6 = 0 then some false else (ldO 12 (s_t.2 9) x1).bind fun q7 =>
  if q7 ≤ 0 then some false else (f9_couple s_t x1).bind fun q8 =>
  if ((s_t.1 4) &&& q8) = 0 then some true else some false
set_option maxHeartbeats 4000000 in
set_option maxRecDepth 100000 in
theorem c9_canBeLit (l : Launch) (D : va_G) (cs : xE) (o_t : Nat) (a_t : Nat → Nat) (s_t : St) (sz : Nat) (x1 : Int32) (res : Bool) (hf : f9_canBeLit s_t x1 = some res) : Met l yX9_canBeLit (Cond.code yX9_canBeLit cX9_canBeLit 3 (some .boolean) :: WG) { frames := 1, cells := 0, slots := 0, locals := 22 } (va_Pc [.ref o_t, .int x1] (mP D cs (List.flatten [w9 cs o_t a_t s_t]) sz)) (qI D cs (zB res) (List.flatten [w9 cs o_t a_t s_t]) (va_A (List.flatten [w9 cs o_t a_t s_t]) sz)) 0 0 (va_A (List.flatten [w9 cs o_t a_t s_t]) sz) := by
  refine mgo (Qc := qI D cs (zB res) (List.flatten [w9 cs o_t a_t s_t])) (cc := cX9_canBeLit) (maxL := 3) (ret := (some .boolean)) (by decide) rfl (Nat.le_of_ble_eq_true rfl) ?_
  intro p e s m below meth c ls A R Q args H hR hQ hx hb hml hr hlocks hown hts hP hK hD hA hS hG hl
  have hown : s.vm.findClass RX9 = some m.cls := hown
  have hl : lv_has ls 3 [(0, .ref o_t), (1, .int x1)] := hl
  have hW : ∀ w ∈ WG, w.before args s = true := fun w h => hts w (List.mem_cons_of_mem _ h)
  have htX9 : ∀ w ∈ u_ws RX9 TX9 11, w.before args s = true := fun w h => hW w (inW_X9 w h)
  unfold f9_canBeLit at hf
  refine lv_aload_n hx hb dX9_canBeLit_0 rfl (lv_at hl 0 rfl) ?_
  refine gfB (i0 := 0) (own := RX9) (T := TX9) (k := 10) (v := .ref (a_t 10)) hx hb htX9 hown hK hP rfl e9 rfl (by decide) (hW _ wd180) rfl dX9_canBeLit_1 ?_
  refine lv_iload_n hx hb dX9_canBeLit_4 rfl (lv_at hl 1 rfl) ?_
  obtain ⟨q1, eq1, hf⟩ := bnd hf
  obtain ⟨gq1, eq1⟩ := ldO_e eq1
  refine aldB (i0 := 0) hx hb hK hP rfl a9_10 gq1 dX9_canBeLit_5 ?_
  refine lv_nm eq1 ?_
  refine lv_istore_n (lv' := [(2, .int q1), (0, .ref o_t), (1, .int x1)]) hx hb dX9_canBeLit_6 rfl hl (by decide) rfl (fun ls hl => ?_)
  refine lv_iload_n hx hb dX9_canBeLit_7 rfl (lv_at hl 0 rfl) ?_
  refine lv_if_lt (tgt := 30) hx hb dX9_canBeLit_8 (by decide) (fun hc => ?_) (fun hc => ?_)
  · have hf := ifp hc hf
    refine lv_aload_n hx hb dX9_canBeLit_30 rfl (lv_at hl 1 rfl) ?_
    refine gfB (i0 := 0) (own := RX9) (T := TX9) (k := 9) (v := .ref (a_t 9)) hx hb htX9 hown hK hP rfl e9 rfl (by decide) (hW _ wd175) rfl dX9_canBeLit_31 ?_
    refine lv_iload_n hx hb dX9_canBeLit_34 rfl (lv_at hl 2 rfl) ?_
    obtain ⟨q2, eq2, hf⟩ := bnd hf
    obtain ⟨gq2, eq2⟩ := ldO_e eq2
    refine aldB (i0 := 0) hx hb hK hP rfl a9_9 gq2 dX9_canBeLit_35 ?_
    refine lv_nm eq2 ?_
    refine lv_if_le (tgt := 56) hx hb dX9_canBeLit_36 (by decide) (fun hc => ?_) (fun hc => ?_)
    · have hf := ifp hc hf
      refine lv_iconst (v := 0) hx hb dX9_canBeLit_56 (by decide) ?_
      obtain rfl := Option.some.inj hf
      exact mretZ hx hb hr hlocks hK hP hD hS rfl hQ dX9_canBeLit_57
    · have hf := ifn hc hf
      refine lv_aload_n hx hb dX9_canBeLit_39 rfl (lv_at hl 1 rfl) ?_
      refine gfB (i0 := 0) (own := RX9) (T := TX9) (k := 4) (v := .int (s_t.1 4)) hx hb htX9 hown hK hP rfl e9 rfl (by decide) (hW _ wd163) rfl dX9_canBeLit_40 ?_
      refine lv_aload_n hx hb dX9_canBeLit_43 rfl (lv_at hl 1 rfl) ?_
      refine lv_iload_n hx hb dX9_canBeLit_44 rfl (lv_at hl 2 rfl) ?_
      obtain ⟨q3, eq3, hf⟩ := bnd hf
      refine mcVi (v := q3) (rest := [.int (s_t.1 4)]) (Bn := [w9 cs o_t a_t s_t]) (isR := []) (isC := [0]) (i0 := 0) ⟨hx, hb, hml, hown, hts⟩ hK hP hD hS hA hG (c9_couple l D cs o_t a_t s_t H.size x1 _ eq3) (cwV 1 hts (gV wd563 wd564 wd565 wd107 wd566) rfl rfl rfl (by decide +kernel) ⟨by rw [hR]; exact Nat.le_of_ble_eq_true rfl, by rw [hR]; exact Nat.le_of_ble_eq_true rfl⟩) 1 (by decide) rfl rfl rfl rfl rfl rfl rfl e9 rfl rfl rfl hl.1 rfl (Nat.le_of_ble_eq_true rfl) ⟨Nat.zero_le _, Nat.zero_le _⟩ dX9_canBeLit_45 (fun H locs hP hD hS => ?_)
      refine lv_iand hx hb dX9_canBeLit_48 ?_
      refine lv_if_ne (tgt := 56) hx hb dX9_canBeLit_49 (by decide) (fun hc => ?_) (fun hc => ?_)
      · have hf := ifn hc hf
        refine lv_iconst (v := 0) hx hb dX9_canBeLit_56 (by decide) ?_
        obtain rfl := Option.some.inj hf
        exact mretZ hx hb hr hlocks hK hP hD hS rfl hQ dX9_canBeLit_57
      · have hf := ifp hc hf
        refine lv_iconst (v := 1) hx hb dX9_canBeLit_52 (by decide) ?_
        refine lv_goto (tgt := 57) hx hb dX9_canBeLit_53 (by decide) ?_
        obtain rfl := Option.some.inj hf
        exact mretZ hx hb hr hlocks hK hP hD hS rfl hQ dX9_canBeLit_57
  · have hf := ifn hc hf
    refine lv_iload_n hx hb dX9_canBeLit_11 rfl (lv_at hl 0 rfl) ?_
    refine lv_aload_n hx hb dX9_canBeLit_12 rfl (lv_at hl 1 rfl) ?_
    refine gfB (i0 := 0) (own := RX9) (T := TX9) (k := 1) (v := .int (s_t.1 1)) hx hb htX9 hown hK hP rfl e9 rfl (by decide) (hW _ wd152) rfl dX9_canBeLit_13 ?_
    refine lv_icmp_ge (tgt := 30) hx hb dX9_canBeLit_16 (by decide) (fun hc => ?_) (fun hc => ?_)
    · have hf := ifp hc hf
      refine lv_aload_n hx hb dX9_canBeLit_30 rfl (lv_at hl 1 rfl) ?_
      refine gfB (i0 := 0) (own := RX9) (T := TX9) (k := 9) (v := .ref (a_t 9)) hx hb htX9 hown hK hP rfl e9 rfl (by decide) (hW _ wd175) rfl dX9_canBeLit_31 ?_
      refine lv_iload_n hx hb dX9_canBeLit_34 rfl (lv_at hl 2 rfl) ?_
      obtain ⟨q4, eq4, hf⟩ := bnd hf
      obtain ⟨gq4, eq4⟩ := ldO_e eq4
      refine aldB (i0 := 0) hx hb hK hP rfl a9_9 gq4 dX9_canBeLit_35 ?_
      refine lv_nm eq4 ?_
      refine lv_if_le (tgt := 56) hx hb dX9_canBeLit_36 (by decide) (fun hc => ?_) (fun hc => ?_)
      · have hf := ifp hc hf
        refine lv_iconst (v := 0) hx hb dX9_canBeLit_56 (by decide) ?_
        obtain rfl := Option.some.inj hf
        exact mretZ hx hb hr hlocks hK hP hD hS rfl hQ dX9_canBeLit_57
      · have hf := ifn hc hf
        refine lv_aload_n hx hb dX9_canBeLit_39 rfl (lv_at hl 1 rfl) ?_
        refine gfB (i0 := 0) (own := RX9) (T := TX9) (k := 4) (v := .int (s_t.1 4)) hx hb htX9 hown hK hP rfl e9 rfl (by decide) (hW _ wd163) rfl dX9_canBeLit_40 ?_
        refine lv_aload_n hx hb dX9_canBeLit_43 rfl (lv_at hl 1 rfl) ?_
        refine lv_iload_n hx hb dX9_canBeLit_44 rfl (lv_at hl 2 rfl) ?_
        obtain ⟨q5, eq5, hf⟩ := bnd hf
        refine mcVi (v := q5) (rest := [.int (s_t.1 4)]) (Bn := [w9 cs o_t a_t s_t]) (isR := []) (isC := [0]) (i0 := 0) ⟨hx, hb, hml, hown, hts⟩ hK hP hD hS hA hG (c9_couple l D cs o_t a_t s_t H.size x1 _ eq5) (cwV 1 hts (gV wd563 wd564 wd565 wd107 wd566) rfl rfl rfl (by decide +kernel) ⟨by rw [hR]; exact Nat.le_of_ble_eq_true rfl, by rw [hR]; exact Nat.le_of_ble_eq_true rfl⟩) 1 (by decide) rfl rfl rfl rfl rfl rfl rfl e9 rfl rfl rfl hl.1 rfl (Nat.le_of_ble_eq_true rfl) ⟨Nat.zero_le _, Nat.zero_le _⟩ dX9_canBeLit_45 (fun H locs hP hD hS => ?_)
        refine lv_iand hx hb dX9_canBeLit_48 ?_
        refine lv_if_ne (tgt := 56) hx hb dX9_canBeLit_49 (by decide) (fun hc => ?_) (fun hc => ?_)
        · have hf := ifn hc hf
          refine lv_iconst (v := 0) hx hb dX9_canBeLit_56 (by decide) ?_
          obtain rfl := Option.some.inj hf
          exact mretZ hx hb hr hlocks hK hP hD hS rfl hQ dX9_canBeLit_57
        · have hf := ifp hc hf
          refine lv_iconst (v := 1) hx hb dX9_canBeLit_52 (by decide) ?_
          refine lv_goto (tgt := 57) hx hb dX9_canBeLit_53 (by decide) ?_
          obtain rfl := Option.some.inj hf
          exact mretZ hx hb hr hlocks hK hP hD hS rfl hQ dX9_canBeLit_57
    · have hf := ifn hc hf
      refine lv_aload_n hx hb dX9_canBeLit_19 rfl (lv_at hl 1 rfl) ?_
      refine gfB (i0 := 0) (own := RX9) (T := TX9) (k := 9) (v := .ref (a_t 9)) hx hb htX9 hown hK hP rfl e9 rfl (by decide) (hW _ wd175) rfl dX9_canBeLit_20 ?_
      refine lv_iload_n hx hb dX9_canBeLit_23 rfl (lv_at hl 0 rfl) ?_
      obtain ⟨q6, eq6, hf⟩ := bnd hf
      obtain ⟨gq6, eq6⟩ := ldO_e eq6
      refine aldB (i0 := 0) hx hb hK hP rfl a9_9 gq6 dX9_canBeLit_24 ?_
      refine lv_nm eq6 ?_
      refine lv_if_ne (tgt := 30) hx hb dX9_canBeLit_25 (by decide) (fun hc => ?_) (fun hc => ?_)
      · have hf := ifn hc hf
        refine lv_aload_n hx hb dX9_canBeLit_30 rfl (lv_at hl 1 rfl) ?_
        refine gfB (i0 := 0) (own := RX9) (T := TX9) (k := 9) (v := .ref (a_t 9)) hx hb htX9 hown hK hP rfl e9 rfl (by decide) (hW _ wd175) rfl dX9_canBeLit_31 ?_
        refine lv_iload_n hx hb dX9_canBeLit_34 rfl (lv_at hl 2 rfl) ?_
        obtain ⟨q7, eq7, hf⟩ := bnd hf
        obtain ⟨gq7, eq7⟩ := ldO_e eq7
        refine aldB (i0 := 0) hx hb hK hP rfl a9_9 gq7 dX9_canBeLit_35 ?_
        refine lv_nm eq7 ?_
        refine lv_if_le (tgt := 56) hx hb dX9_canBeLit_36 (by decide) (fun hc => ?_) (fun hc => ?_)
        · have hf := ifp hc hf
          refine lv_iconst (v := 0) hx hb dX9_canBeLit_56 (by decide) ?_
          obtain rfl := Option.some.inj hf
          exact mretZ hx hb hr hlocks hK hP hD hS rfl hQ dX9_canBeLit_57
        · have hf := ifn hc hf
          refine lv_aload_n hx hb dX9_canBeLit_39 rfl (lv_at hl 1 rfl) ?_
          refine gfB (i0 := 0) (own := RX9) (T := TX9) (k := 4) (v := .int (s_t.1 4)) hx hb htX9 hown hK hP rfl e9 rfl (by decide) (hW _ wd163) rfl dX9_canBeLit_40 ?_
          refine lv_aload_n hx hb dX9_canBeLit_43 rfl (lv_at hl 1 rfl) ?_
          refine lv_iload_n hx hb dX9_canBeLit_44 rfl (lv_at hl 2 rfl) ?_
          obtain ⟨q8, eq8, hf⟩ := bnd hf
          refine mcVi (v := q8) (rest := [.int (s_t.1 4)]) (Bn := [w9 cs o_t a_t s_t]) (isR := []) (isC := [0]) (i0 := 0) ⟨hx, hb, hml, hown, hts⟩ hK hP hD hS hA hG (c9_couple l D cs o_t a_t s_t H.size x1 _ eq8) (cwV 1 hts (gV wd563 wd564 wd565 wd107 wd566) rfl rfl rfl (by decide +kernel) ⟨by rw [hR]; exact Nat.le_of_ble_eq_true rfl, by rw [hR]; exact Nat.le_of_ble_eq_true rfl⟩) 1 (by decide) rfl rfl rfl rfl rfl rfl rfl e9 rfl rfl rfl hl.1 rfl (Nat.le_of_ble_eq_true rfl) ⟨Nat.zero_le _, Nat.zero_le _⟩ dX9_canBeLit_45 (fun H locs hP hD hS => ?_)
          refine lv_iand hx hb dX9_canBeLit_48 ?_
          refine lv_if_ne (tgt := 56) hx hb dX9_canBeLit_49 (by decide) (fun hc => ?_) (fun hc => ?_)
          · have hf := ifn hc hf
            refine lv_iconst (v := 0) hx hb dX9_canBeLit_56 (by decide) ?_
            obtain rfl := Option.some.inj hf
            exact mretZ hx hb hr hlocks hK hP hD hS rfl hQ dX9_canBeLit_57
          · have hf := ifp hc hf
            refine lv_iconst (v := 1) hx hb dX9_canBeLit_52 (by decide) ?_
            refine lv_goto (tgt := 57) hx hb dX9_canBeLit_53 (by decide) ?_
            obtain rfl := Option.some.inj hf
            exact mretZ hx hb hr hlocks hK hP hD hS rfl hQ dX9_canBeLit_57
      · have hf := ifp hc hf
        refine lv_iconst (v := 0) hx hb dX9_canBeLit_28 (by decide) ?_
        obtain rfl := Option.some.inj hf
        exact mretZ hx hb hr hlocks hK hP hD hS rfl hQ dX9_canBeLit_29
/-! TwinLamps$Town.putOut -/
noncomputable def f9_putOut (s_t : St) (x1 : Int32) : Option (St) :=
  (f9_couple s_t x1).bind fun q1 =>
  (some (sS s_t 3 ((s_t.1 3) &&& (q1 ^^^ (-1))))).bind fun s2 =>
  some s2
set_option maxHeartbeats 4000000 in
set_option maxRecDepth 100000 in
theorem c9_putOut (l : Launch) (D : va_G) (cs : xE) (o_t : Nat) (a_t : Nat → Nat) (s_t : St) (sz : Nat) (x1 : Int32) (res : St) (hf : f9_putOut s_t x1 = some res) : Met l yX9_putOut (Cond.code yX9_putOut cX9_putOut 2 none :: WG) { frames := 1, cells := 0, slots := 0, locals := 22 } (va_Pc [.ref o_t, .int x1] (mP D cs (List.flatten [w9 cs o_t a_t s_t]) sz)) (qV D cs (List.flatten [w9 cs o_t a_t res]) (va_A (List.flatten [w9 cs o_t a_t s_t]) sz)) 0 0 (va_A (List.flatten [w9 cs o_t a_t s_t]) sz) := by
  refine mgo (Qc := qV D cs (List.flatten [w9 cs o_t a_t res])) (cc := cX9_putOut) (maxL := 2) (ret := none) (by decide) rfl (Nat.le_of_ble_eq_true rfl) ?_
  intro p e s m below meth c ls A R Q args H hR hQ hx hb hml hr hlocks hown hts hP hK hD hA hS hG hl
  have hown : s.vm.findClass RX9 = some m.cls := hown
  have hl : lv_has ls 2 [(0, .ref o_t), (1, .int x1)] := hl
  have hW : ∀ w ∈ WG, w.before args s = true := fun w h => hts w (List.mem_cons_of_mem _ h)
  have htX9 : ∀ w ∈ u_ws RX9 TX9 11, w.before args s = true := fun w h => hW w (inW_X9 w h)
  unfold f9_putOut at hf
  refine lv_aload_n hx hb dX9_putOut_0 rfl (lv_at hl 0 rfl) ?_
  refine lv_dup hx hb dX9_putOut_1 rfl ?_
  refine gfB (i0 := 0) (own := RX9) (T := TX9) (k := 3) (v := .int (s_t.1 3)) hx hb htX9 hown hK hP rfl e9 rfl (by decide) (hW _ wd160) rfl dX9_putOut_2 ?_
  refine lv_aload_n hx hb dX9_putOut_5 rfl (lv_at hl 0 rfl) ?_
  refine lv_iload_n hx hb dX9_putOut_6 rfl (lv_at hl 1 rfl) ?_
  obtain ⟨q1, eq1, hf⟩ := bnd hf
  refine mcVi (v := q1) (rest := [.int (s_t.1 3), .ref o_t]) (Bn := [w9 cs o_t a_t s_t]) (isR := []) (isC := [0]) (i0 := 0) ⟨hx, hb, hml, hown, hts⟩ hK hP hD hS hA hG (c9_couple l D cs o_t a_t s_t H.size x1 _ eq1) (cwV 1 hts (gV wd563 wd564 wd565 wd107 wd566) rfl rfl rfl (by decide +kernel) ⟨by rw [hR]; exact Nat.le_of_ble_eq_true rfl, by rw [hR]; exact Nat.le_of_ble_eq_true rfl⟩) 1 (by decide) rfl rfl rfl rfl rfl rfl rfl e9 rfl rfl rfl hl.1 rfl (Nat.le_of_ble_eq_true rfl) ⟨Nat.zero_le _, Nat.zero_le _⟩ dX9_putOut_7 (fun H locs hP hD hS => ?_)
  refine lv_iconst (v := (-1)) hx hb dX9_putOut_10 (by decide) ?_
  refine lv_ixor hx hb dX9_putOut_11 ?_
  refine lv_iand hx hb dX9_putOut_12 ?_
  obtain ⟨s2, es2, hf⟩ := bnd hf
  replace es2 := Option.some.inj es2
  refine pfB (i0 := 0) (own := RX9) (T := TX9) (k := 3) (Bn := [w9 cs o_t a_t s2]) tyX9 tyX9_ok nmX9 hx hb htX9 hown hK hP hD hS rfl e9 rfl (by decide) (hW _ wd160) rfl rfl rfl (Nat.le_of_ble_eq_true rfl) dX9_putOut_13 (by rw [← es2]; exact u9_3) rfl (fun H locs hP hD hS => ?_)
  obtain rfl := Option.some.inj hf
  exact mretV hx hb hr hlocks hK hP hD hS hQ dX9_putOut_16
/-! TwinLamps$Town.light -/
noncomputable def f9_light (s_t : St) (x1 : Int32) : Option (St) :=
  (f9_couple s_t x1).bind fun q1 =>
  (some (sS s_t 3 ((s_t.1 3) ||| q1))).bind fun s2 =>
  some s2
set_option maxHeartbeats 4000000 in
set_option maxRecDepth 100000 in
theorem c9_light (l : Launch) (D : va_G) (cs : xE) (o_t : Nat) (a_t : Nat → Nat) (s_t : St) (sz : Nat) (x1 : Int32) (res : St) (hf : f9_light s_t x1 = some res) : Met l yX9_light (Cond.code yX9_light cX9_light 2 none :: WG) { frames := 1, cells := 0, slots := 0, locals := 22 } (va_Pc [.ref o_t, .int x1] (mP D cs (List.flatten [w9 cs o_t a_t s_t]) sz)) (qV D cs (List.flatten [w9 cs o_t a_t res]) (va_A (List.flatten [w9 cs o_t a_t s_t]) sz)) 0 0 (va_A (List.flatten [w9 cs o_t a_t s_t]) sz) := by
  refine mgo (Qc := qV D cs (List.flatten [w9 cs o_t a_t res])) (cc := cX9_light) (maxL := 2) (ret := none) (by decide) rfl (Nat.le_of_ble_eq_true rfl) ?_
  intro p e s m below meth c ls A R Q args H hR hQ hx hb hml hr hlocks hown hts hP hK hD hA hS hG hl
  have hown : s.vm.findClass RX9 = some m.cls := hown
  have hl : lv_has ls 2 [(0, .ref o_t), (1, .int x1)] := hl
  have hW : ∀ w ∈ WG, w.before args s = true := fun w h => hts w (List.mem_cons_of_mem _ h)
  have htX9 : ∀ w ∈ u_ws RX9 TX9 11, w.before args s = true := fun w h => hW w (inW_X9 w h)
  unfold f9_light at hf
  refine lv_aload_n hx hb dX9_light_0 rfl (lv_at hl 0 rfl) ?_
  refine lv_dup hx hb dX9_light_1 rfl ?_
  refine gfB (i0 := 0) (own := RX9) (T := TX9) (k := 3) (v := .int (s_t.1 3)) hx hb htX9 hown hK hP rfl e9 rfl (by decide) (hW _ wd160) rfl dX9_light_2 ?_
  refine lv_aload_n hx hb dX9_light_5 rfl (lv_at hl 0 rfl) ?_
  refine lv_iload_n hx hb dX9_light_6 rfl (lv_at hl 1 rfl) ?_
  obtain ⟨q1, eq1, hf⟩ := bnd hf
  refine mcVi (v := q1) (rest := [.int (s_t.1 3), .ref o_t]) (Bn := [w9 cs o_t a_t s_t]) (isR := []) (isC := [0]) (i0 := 0) ⟨hx, hb, hml, hown, hts⟩ hK hP hD hS hA hG (c9_couple l D cs o_t a_t s_t H.size x1 _ eq1) (cwV 1 hts (gV wd563 wd564 wd565 wd107 wd566) rfl rfl rfl (by decide +kernel) ⟨by rw [hR]; exact Nat.le_of_ble_eq_true rfl, by rw [hR]; exact Nat.le_of_ble_eq_true rfl⟩) 1 (by decide) rfl rfl rfl rfl rfl rfl rfl e9 rfl rfl rfl hl.1 rfl (Nat.le_of_ble_eq_true rfl) ⟨Nat.zero_le _, Nat.zero_le _⟩ dX9_light_7 (fun H locs hP hD hS => ?_)
  refine lv_ior hx hb dX9_light_10 ?_
  obtain ⟨s2, es2, hf⟩ := bnd hf
  replace es2 := Option.some.inj es2
  refine pfB (i0 := 0) (own := RX9) (T := TX9) (k := 3) (Bn := [w9 cs o_t a_t s2]) tyX9 tyX9_ok nmX9 hx hb htX9 hown hK hP hD hS rfl e9 rfl (by decide) (hW _ wd160) rfl rfl rfl (Nat.le_of_ble_eq_true rfl) dX9_light_11 (by rw [← es2]; exact u9_3) rfl (fun H locs hP hD hS => ?_)
  obtain rfl := Option.some.inj hf
  exact mretV hx hb hr hlocks hK hP hD hS hQ dX9_light_14
/-! TwinLamps$Town.flickByHand -/
noncomputable def f9_flickByHand (s_t : St) (x1 : Int32) : Option (St) :=
  (f9_isLit s_t x1).bind fun q1 =>
  ((if (zB q1) = 0 then ((f9_canBeLit s_t x1).bind fun q3 =>
  if (zB q3) = 0 then some s_t else (f9_light s_t x1).bind fun q4 =>
  some q4)
  else (f9_putOut s_t x1).bind fun q5 =>
  some q5 : Option (St))).bind fun q2 =>
  some q2
set_option maxHeartbeats 4000000 in
set_option maxRecDepth 100000 in
theorem c9_flickByHand (l : Launch) (D : va_G) (cs : xE) (o_t : Nat) (a_t : Nat → Nat) (s_t : St) (sz : Nat) (x1 : Int32) (res : St) (hf : f9_flickByHand s_t x1 = some res) : Met l yX9_flickByHand (Cond.code yX9_flickByHand cX9_flickByHand 2 none :: WG) { frames := 2, cells := 0, slots := 0, locals := 44 } (va_Pc [.ref o_t, .int x1] (mP D cs (List.flatten [w9 cs o_t a_t s_t]) sz)) (qV D cs (List.flatten [w9 cs o_t a_t res]) (va_A (List.flatten [w9 cs o_t a_t s_t]) sz)) 0 0 (va_A (List.flatten [w9 cs o_t a_t s_t]) sz) := by
  refine mgo (Qc := qV D cs (List.flatten [w9 cs o_t a_t res])) (cc := cX9_flickByHand) (maxL := 2) (ret := none) (by decide) rfl (Nat.le_of_ble_eq_true rfl) ?_
  intro p e s m below meth c ls A R Q args H hR hQ hx hb hml hr hlocks hown hts hP hK hD hA hS hG hl
  have hown : s.vm.findClass RX9 = some m.cls := hown
  have hl : lv_has ls 2 [(0, .ref o_t), (1, .int x1)] := hl
  have hW : ∀ w ∈ WG, w.before args s = true := fun w h => hts w (List.mem_cons_of_mem _ h)
  unfold f9_flickByHand at hf
  refine lv_aload_n hx hb dX9_flickByHand_0 rfl (lv_at hl 0 rfl) ?_
  refine lv_iload_n hx hb dX9_flickByHand_1 rfl (lv_at hl 1 rfl) ?_
  obtain ⟨q1, eq1, hf⟩ := bnd hf
  refine mcVi (v := (zB q1)) (rest := []) (Bn := [w9 cs o_t a_t s_t]) (isR := []) (isC := [0]) (i0 := 0) ⟨hx, hb, hml, hown, hts⟩ hK hP hD hS hA hG (c9_isLit l D cs o_t a_t s_t H.size x1 _ eq1) (cwV 1 hts (gV wd981 wd556 wd557 wd107 wd558) rfl rfl rfl (by decide +kernel) ⟨by rw [hR]; exact Nat.le_of_ble_eq_true rfl, by rw [hR]; exact Nat.le_of_ble_eq_true rfl⟩) 1 (by decide) rfl rfl rfl rfl rfl rfl rfl e9 rfl rfl rfl hl.1 rfl (Nat.le_of_ble_eq_true rfl) ⟨Nat.zero_le _, Nat.zero_le _⟩ dX9_flickByHand_2 (fun H locs hP hD hS => ?_)
  obtain ⟨q2, hq2, hf⟩ := bnd hf
  have Jq2 : ∀ r2 : St, q2 = r2 → ∀ (H : Heap) (locs : List Loc) (ls : Array Slot), va_P D vwCl (List.flatten [w9 cs o_t a_t r2]) H → va_D A (List.flatten [w9 cs o_t a_t r2]) → va_S A s.heap H locs → lv_has ls 2 [] → W p l e R s m args below meth c H locs 0 0 Q (F0 m 29 ls []) := by
    intro r2 eq2 H locs ls hP hD hS hl
    subst eq2
    obtain rfl := Option.some.inj hf
    exact mretV hx hb hr hlocks hK hP hD hS hQ dX9_flickByHand_29
  clear hf
  have hf := hq2
  refine lv_if_eq (tgt := 16) hx hb dX9_flickByHand_5 (by decide) (fun hc => ?_) (fun hc => ?_)
  · have hf := ifp hc hf
    refine lv_aload_n hx hb dX9_flickByHand_16 rfl (lv_at hl 0 rfl) ?_
    refine lv_iload_n hx hb dX9_flickByHand_17 rfl (lv_at hl 1 rfl) ?_
    obtain ⟨q3, eq3, hf⟩ := bnd hf
    refine mcVi (v := (zB q3)) (rest := []) (Bn := [w9 cs o_t a_t s_t]) (isR := []) (isC := [0]) (i0 := 0) ⟨hx, hb, hml, hown, hts⟩ hK hP hD hS hA hG (c9_canBeLit l D cs o_t a_t s_t H.size x1 _ eq3) (cwV 1 hts (gV wd983 wd560 wd561 wd107 wd562) rfl rfl rfl (by decide +kernel) ⟨by rw [hR]; exact Nat.le_of_ble_eq_true rfl, by rw [hR]; exact Nat.le_of_ble_eq_true rfl⟩) 1 (by decide) rfl rfl rfl rfl rfl rfl rfl e9 rfl rfl rfl hl.1 rfl (Nat.le_of_ble_eq_true rfl) ⟨Nat.zero_le _, Nat.zero_le _⟩ dX9_flickByHand_18 (fun H locs hP hD hS => ?_)
    refine lv_if_eq (tgt := 29) hx hb dX9_flickByHand_21 (by decide) (fun hc => ?_) (fun hc => ?_)
    · have hf := ifp hc hf
      exact Jq2 _ (Option.some.inj hf).symm _ _ _ hP hD hS (lv_sub hl [] rfl)
    · have hf := ifn hc hf
      refine lv_aload_n hx hb dX9_flickByHand_24 rfl (lv_at hl 0 rfl) ?_
      refine lv_iload_n hx hb dX9_flickByHand_25 rfl (lv_at hl 1 rfl) ?_
      obtain ⟨q4, eq4, hf⟩ := bnd hf
      refine mcVv (rest := []) (Bn := [w9 cs o_t a_t q4]) (isR := []) (isC := [0]) (i0 := 0) ⟨hx, hb, hml, hown, hts⟩ hK hP hD hS hA hG (c9_light l D cs o_t a_t s_t H.size x1 _ eq4) (cwV 1 hts (gV wd984 wd568 wd569 wd107 wd570) rfl rfl rfl (by decide +kernel) ⟨by rw [hR]; exact Nat.le_of_ble_eq_true rfl, by rw [hR]; exact Nat.le_of_ble_eq_true rfl⟩) 1 (by decide) rfl rfl rfl rfl rfl rfl rfl e9 rfl rfl rfl hl.1 rfl (Nat.le_of_ble_eq_true rfl) ⟨Nat.zero_le _, Nat.zero_le _⟩ dX9_flickByHand_26 (fun H locs hP hD hS => ?_)
      exact Jq2 _ (Option.some.inj hf).symm _ _ _ hP hD hS (lv_sub hl [] rfl)
  · have hf := ifn hc hf
    refine lv_aload_n hx hb dX9_flickByHand_8 rfl (lv_at hl 0 rfl) ?_
    refine lv_iload_n hx hb dX9_flickByHand_9 rfl (lv_at hl 1 rfl) ?_
    obtain ⟨q5, eq5, hf⟩ := bnd hf
    refine mcVv (rest := []) (Bn := [w9 cs o_t a_t q5]) (isR := []) (isC := [0]) (i0 := 0) ⟨hx, hb, hml, hown, hts⟩ hK hP hD hS hA hG (c9_putOut l D cs o_t a_t s_t H.size x1 _ eq5) (cwV 1 hts (gV wd982 wd572 wd573 wd107 wd574) rfl rfl rfl (by decide +kernel) ⟨by rw [hR]; exact Nat.le_of_ble_eq_true rfl, by rw [hR]; exact Nat.le_of_ble_eq_true rfl⟩) 1 (by decide) rfl rfl rfl rfl rfl rfl rfl e9 rfl rfl rfl hl.1 rfl (Nat.le_of_ble_eq_true rfl) ⟨Nat.zero_le _, Nat.zero_le _⟩ dX9_flickByHand_10 (fun H locs hP hD hS => ?_)
    refine lv_goto (tgt := 29) hx hb dX9_flickByHand_13 (by decide) ?_
    exact Jq2 _ (Option.some.inj hf).symm _ _ _ hP hD hS (lv_sub hl [] rfl)
