/-! the blocks of cells -/
def a0n : Nat → Nat := fun _ => 0
def fs0 (a : Nat → Nat) (σ : St) : List Value := [.int (σ.1 0)]
def w0 (cs : xE) (o : Nat) (a : Nat → Nat) (σ : St) : va_W := [(o, .inr (0, fs0 a σ))]
theorem e0 {cs : xE} {o : Nat} {a : Nat → Nat} {σ : St} : (w0 cs o a σ)[0]? = some (o, .inr (0, fs0 a σ)) := rfl
theorem u0_0 {cs : xE} {o : Nat} {a : Nat → Nat} {σ : St} {v : Int32} : (w0 cs o a σ).set 0 (o, .inr (0, (fs0 a σ).set 0 (.int v))) = w0 cs o a (sS σ 0 v) := rfl
def fs1 (a : Nat → Nat) (σ : St) : List Value := [.int (σ.1 0), .int (σ.1 1), .int (σ.1 2), .int (σ.1 3), .int (σ.1 4), .int (σ.1 5)]
def w1 (cs : xE) (o : Nat) (a : Nat → Nat) (σ : St) : va_W := [(o, .inr (1, fs1 a σ))]
theorem e1 {cs : xE} {o : Nat} {a : Nat → Nat} {σ : St} : (w1 cs o a σ)[0]? = some (o, .inr (1, fs1 a σ)) := rfl
theorem u1_0 {cs : xE} {o : Nat} {a : Nat → Nat} {σ : St} {v : Int32} : (w1 cs o a σ).set 0 (o, .inr (1, (fs1 a σ).set 0 (.int v))) = w1 cs o a (sS σ 0 v) := rfl
theorem u1_1 {cs : xE} {o : Nat} {a : Nat → Nat} {σ : St} {v : Int32} : (w1 cs o a σ).set 0 (o, .inr (1, (fs1 a σ).set 1 (.int v))) = w1 cs o a (sS σ 1 v) := rfl
theorem u1_2 {cs : xE} {o : Nat} {a : Nat → Nat} {σ : St} {v : Int32} : (w1 cs o a σ).set 0 (o, .inr (1, (fs1 a σ).set 2 (.int v))) = w1 cs o a (sS σ 2 v) := rfl
theorem u1_3 {cs : xE} {o : Nat} {a : Nat → Nat} {σ : St} {v : Int32} : (w1 cs o a σ).set 0 (o, .inr (1, (fs1 a σ).set 3 (.int v))) = w1 cs o a (sS σ 3 v) := rfl
theorem u1_4 {cs : xE} {o : Nat} {a : Nat → Nat} {σ : St} {v : Int32} : (w1 cs o a σ).set 0 (o, .inr (1, (fs1 a σ).set 4 (.int v))) = w1 cs o a (sS σ 4 v) := rfl
theorem u1_5 {cs : xE} {o : Nat} {a : Nat → Nat} {σ : St} {v : Int32} : (w1 cs o a σ).set 0 (o, .inr (1, (fs1 a σ).set 5 (.int v))) = w1 cs o a (sS σ 5 v) := rfl
def fs2 (a : Nat → Nat) (σ : St) : List Value := [.int (σ.1 0), .int (σ.1 1), .int (σ.1 2), .int (σ.1 3), .int (σ.1 4)]
def w2 (cs : xE) (o : Nat) (a : Nat → Nat) (σ : St) : va_W := [(o, .inr (2, fs2 a σ))]
theorem e2 {cs : xE} {o : Nat} {a : Nat → Nat} {σ : St} : (w2 cs o a σ)[0]? = some (o, .inr (2, fs2 a σ)) := rfl
theorem u2_0 {cs : xE} {o : Nat} {a : Nat → Nat} {σ : St} {v : Int32} : (w2 cs o a σ).set 0 (o, .inr (2, (fs2 a σ).set 0 (.int v))) = w2 cs o a (sS σ 0 v) := rfl
theorem u2_1 {cs : xE} {o : Nat} {a : Nat → Nat} {σ : St} {v : Int32} : (w2 cs o a σ).set 0 (o, .inr (2, (fs2 a σ).set 1 (.int v))) = w2 cs o a (sS σ 1 v) := rfl
theorem u2_2 {cs : xE} {o : Nat} {a : Nat → Nat} {σ : St} {v : Int32} : (w2 cs o a σ).set 0 (o, .inr (2, (fs2 a σ).set 2 (.int v))) = w2 cs o a (sS σ 2 v) := rfl
theorem u2_3 {cs : xE} {o : Nat} {a : Nat → Nat} {σ : St} {v : Int32} : (w2 cs o a σ).set 0 (o, .inr (2, (fs2 a σ).set 3 (.int v))) = w2 cs o a (sS σ 3 v) := rfl
theorem u2_4 {cs : xE} {o : Nat} {a : Nat → Nat} {σ : St} {v : Int32} : (w2 cs o a σ).set 0 (o, .inr (2, (fs2 a σ).set 4 (.int v))) = w2 cs o a (sS σ 4 v) := rfl
def fs7 (a : Nat → Nat) (σ : St) : List Value := [.ref (a 0), .ref (a 1), .ref (a 2), .int (σ.1 3)]
def w7 (cs : xE) (o : Nat) (a : Nat → Nat) (σ : St) : va_W := [(o, .inr (7, fs7 a σ)), (a 0, .inl (cs.1 0, 600, .inl (σ.2 0))), (a 1, .inl (cs.1 0, 64, .inl (σ.2 1))), (a 2, .inl (cs.1 0, 6, .inl (σ.2 2)))]
theorem e7 {cs : xE} {o : Nat} {a : Nat → Nat} {σ : St} : (w7 cs o a σ)[0]? = some (o, .inr (7, fs7 a σ)) := rfl
theorem u7_3 {cs : xE} {o : Nat} {a : Nat → Nat} {σ : St} {v : Int32} : (w7 cs o a σ).set 0 (o, .inr (7, (fs7 a σ).set 3 (.int v))) = w7 cs o a (sS σ 3 v) := rfl
theorem a7_0 {cs : xE} {o : Nat} {a : Nat → Nat} {σ : St} : (w7 cs o a σ)[1]? = some (a 0, .inl (cs.1 0, 600, .inl (σ.2 0))) := rfl
theorem v7_0 {cs : xE} {o : Nat} {a : Nat → Nat} {σ : St} {f : Nat → Int32} : (w7 cs o a σ).set 1 (a 0, .inl (cs.1 0, 600, .inl f)) = w7 cs o a (sA σ 0 f) := rfl
theorem a7_1 {cs : xE} {o : Nat} {a : Nat → Nat} {σ : St} : (w7 cs o a σ)[2]? = some (a 1, .inl (cs.1 0, 64, .inl (σ.2 1))) := rfl
theorem v7_1 {cs : xE} {o : Nat} {a : Nat → Nat} {σ : St} {f : Nat → Int32} : (w7 cs o a σ).set 2 (a 1, .inl (cs.1 0, 64, .inl f)) = w7 cs o a (sA σ 1 f) := rfl
theorem a7_2 {cs : xE} {o : Nat} {a : Nat → Nat} {σ : St} : (w7 cs o a σ)[3]? = some (a 2, .inl (cs.1 0, 6, .inl (σ.2 2))) := rfl
theorem v7_2 {cs : xE} {o : Nat} {a : Nat → Nat} {σ : St} {f : Nat → Int32} : (w7 cs o a σ).set 3 (a 2, .inl (cs.1 0, 6, .inl f)) = w7 cs o a (sA σ 2 f) := rfl
def fs8 (a : Nat → Nat) (σ : St) : List Value := [.int (σ.1 0), .int (σ.1 1), .ref (a 2), .ref (a 3)]
def w8 (cs : xE) (o : Nat) (a : Nat → Nat) (σ : St) : va_W := [(o, .inr (8, fs8 a σ)), (a 2, .inl (cs.1 0, 8, .inl (σ.2 2))), (a 3, .inl (cs.1 0, 8, .inl (σ.2 3)))]
theorem e8 {cs : xE} {o : Nat} {a : Nat → Nat} {σ : St} : (w8 cs o a σ)[0]? = some (o, .inr (8, fs8 a σ)) := rfl
theorem u8_0 {cs : xE} {o : Nat} {a : Nat → Nat} {σ : St} {v : Int32} : (w8 cs o a σ).set 0 (o, .inr (8, (fs8 a σ).set 0 (.int v))) = w8 cs o a (sS σ 0 v) := rfl
theorem u8_1 {cs : xE} {o : Nat} {a : Nat → Nat} {σ : St} {v : Int32} : (w8 cs o a σ).set 0 (o, .inr (8, (fs8 a σ).set 1 (.int v))) = w8 cs o a (sS σ 1 v) := rfl
theorem a8_2 {cs : xE} {o : Nat} {a : Nat → Nat} {σ : St} : (w8 cs o a σ)[1]? = some (a 2, .inl (cs.1 0, 8, .inl (σ.2 2))) := rfl
theorem v8_2 {cs : xE} {o : Nat} {a : Nat → Nat} {σ : St} {f : Nat → Int32} : (w8 cs o a σ).set 1 (a 2, .inl (cs.1 0, 8, .inl f)) = w8 cs o a (sA σ 2 f) := rfl
theorem a8_3 {cs : xE} {o : Nat} {a : Nat → Nat} {σ : St} : (w8 cs o a σ)[2]? = some (a 3, .inl (cs.1 0, 8, .inl (σ.2 3))) := rfl
theorem v8_3 {cs : xE} {o : Nat} {a : Nat → Nat} {σ : St} {f : Nat → Int32} : (w8 cs o a σ).set 2 (a 3, .inl (cs.1 0, 8, .inl f)) = w8 cs o a (sA σ 3 f) := rfl
def fs9 (a : Nat → Nat) (σ : St) : List Value := [.int (σ.1 0), .int (σ.1 1), .int (σ.1 2), .int (σ.1 3), .int (σ.1 4), .ref (a 5), .ref (a 6), .ref (a 7), .ref (a 8), .ref (a 9), .ref (a 10)]
def w9 (cs : xE) (o : Nat) (a : Nat → Nat) (σ : St) : va_W := [(o, .inr (9, fs9 a σ)), (a 5, .inl (cs.1 0, 8, .inl (σ.2 5))), (a 6, .inl (cs.1 0, 8, .inl (σ.2 6))), (a 7, .inl (cs.1 0, 8, .inl (σ.2 7))), (a 8, .inl (cs.1 0, 12, .inl (σ.2 8))), (a 9, .inl (cs.1 0, 12, .inl (σ.2 9))), (a 10, .inl (cs.1 0, 12, .inl (σ.2 10)))]
theorem e9 {cs : xE} {o : Nat} {a : Nat → Nat} {σ : St} : (w9 cs o a σ)[0]? = some (o, .inr (9, fs9 a σ)) := rfl
theorem u9_0 {cs : xE} {o : Nat} {a : Nat → Nat} {σ : St} {v : Int32} : (w9 cs o a σ).set 0 (o, .inr (9, (fs9 a σ).set 0 (.int v))) = w9 cs o a (sS σ 0 v) := rfl
theorem u9_1 {cs : xE} {o : Nat} {a : Nat → Nat} {σ : St} {v : Int32} : (w9 cs o a σ).set 0 (o, .inr (9, (fs9 a σ).set 1 (.int v))) = w9 cs o a (sS σ 1 v) := rfl
theorem u9_2 {cs : xE} {o : Nat} {a : Nat → Nat} {σ : St} {v : Int32} : (w9 cs o a σ).set 0 (o, .inr (9, (fs9 a σ).set 2 (.int v))) = w9 cs o a (sS σ 2 v) := rfl
theorem u9_3 {cs : xE} {o : Nat} {a : Nat → Nat} {σ : St} {v : Int32} : (w9 cs o a σ).set 0 (o, .inr (9, (fs9 a σ).set 3 (.int v))) = w9 cs o a (sS σ 3 v) := rfl
theorem u9_4 {cs : xE} {o : Nat} {a : Nat → Nat} {σ : St} {v : Int32} : (w9 cs o a σ).set 0 (o, .inr (9, (fs9 a σ).set 4 (.int v))) = w9 cs o a (sS σ 4 v) := rfl
theorem a9_5 {cs : xE} {o : Nat} {a : Nat → Nat} {σ : St} : (w9 cs o a σ)[1]? = some (a 5, .inl (cs.1 0, 8, .inl (σ.2 5))) := rfl
theorem v9_5 {cs : xE} {o : Nat} {a : Nat → Nat} {σ : St} {f : Nat → Int32} : (w9 cs o a σ).set 1 (a 5, .inl (cs.1 0, 8, .inl f)) = w9 cs o a (sA σ 5 f) := rfl
theorem a9_6 {cs : xE} {o : Nat} {a : Nat → Nat} {σ : St} : (w9 cs o a σ)[2]? = some (a 6, .inl (cs.1 0, 8, .inl (σ.2 6))) := rfl
theorem v9_6 {cs : xE} {o : Nat} {a : Nat → Nat} {σ : St} {f : Nat → Int32} : (w9 cs o a σ).set 2 (a 6, .inl (cs.1 0, 8, .inl f)) = w9 cs o a (sA σ 6 f) := rfl
theorem a9_7 {cs : xE} {o : Nat} {a : Nat → Nat} {σ : St} : (w9 cs o a σ)[3]? = some (a 7, .inl (cs.1 0, 8, .inl (σ.2 7))) := rfl
theorem v9_7 {cs : xE} {o : Nat} {a : Nat → Nat} {σ : St} {f : Nat → Int32} : (w9 cs o a σ).set 3 (a 7, .inl (cs.1 0, 8, .inl f)) = w9 cs o a (sA σ 7 f) := rfl
theorem a9_8 {cs : xE} {o : Nat} {a : Nat → Nat} {σ : St} : (w9 cs o a σ)[4]? = some (a 8, .inl (cs.1 0, 12, .inl (σ.2 8))) := rfl
theorem v9_8 {cs : xE} {o : Nat} {a : Nat → Nat} {σ : St} {f : Nat → Int32} : (w9 cs o a σ).set 4 (a 8, .inl (cs.1 0, 12, .inl f)) = w9 cs o a (sA σ 8 f) := rfl
theorem a9_9 {cs : xE} {o : Nat} {a : Nat → Nat} {σ : St} : (w9 cs o a σ)[5]? = some (a 9, .inl (cs.1 0, 12, .inl (σ.2 9))) := rfl
theorem v9_9 {cs : xE} {o : Nat} {a : Nat → Nat} {σ : St} {f : Nat → Int32} : (w9 cs o a σ).set 5 (a 9, .inl (cs.1 0, 12, .inl f)) = w9 cs o a (sA σ 9 f) := rfl
theorem a9_10 {cs : xE} {o : Nat} {a : Nat → Nat} {σ : St} : (w9 cs o a σ)[6]? = some (a 10, .inl (cs.1 0, 12, .inl (σ.2 10))) := rfl
theorem v9_10 {cs : xE} {o : Nat} {a : Nat → Nat} {σ : St} {f : Nat → Int32} : (w9 cs o a σ).set 6 (a 10, .inl (cs.1 0, 12, .inl f)) = w9 cs o a (sA σ 10 f) := rfl
/-! java/lang/Integer.bitCount -/
noncomputable def fJ6_bitCount (x0 : Int32) : Option (Int32) :=
  (some (x0 - ((((x0).toUInt32 >>> ((1 : Int32).toUInt32 &&& Int32.toUInt32 31)).toInt32) &&& 1431655765))).bind fun z1 =>
  (some ((z1 &&& 858993459) + ((((z1).toUInt32 >>> ((2 : Int32).toUInt32 &&& Int32.toUInt32 31)).toInt32) &&& 858993459))).bind fun z2 =>
  (some ((z2 + (((z2).toUInt32 >>> ((4 : Int32).toUInt32 &&& Int32.toUInt32 31)).toInt32)) &&& 252645135)).bind fun z3 =>
  (some (z3 + (((z3).toUInt32 >>> ((8 : Int32).toUInt32 &&& Int32.toUInt32 31)).toInt32))).bind fun z4 =>
  (some (z4 + (((z4).toUInt32 >>> ((16 : Int32).toUInt32 &&& Int32.toUInt32 31)).toInt32))).bind fun z5 =>
  some (z5 &&& 63)
set_option maxHeartbeats 4000000 in
set_option maxRecDepth 100000 in
theorem cJ6_bitCount (l : Launch) (D : va_G) (cs : xE) (sz : Nat) (x0 : Int32) (res : Int32) (hf : fJ6_bitCount x0 = some res) : Met l yJ6_bitCount_0f7a4 (Cond.code yJ6_bitCount_0f7a4 cJ6_bitCount_0f7a4 1 (some .int) :: WG) { frames := 0, cells := 0, slots := 0, locals := 0 } (va_Pc [.int x0] (mP D cs (List.flatten []) sz)) (qI D cs res (List.flatten []) (va_A (List.flatten []) sz)) 0 0 (va_A (List.flatten []) sz) := by
  refine mgo (Qc := qI D cs res (List.flatten [])) (cc := cJ6_bitCount_0f7a4) (maxL := 1) (ret := (some .int)) (by decide) rfl (Nat.le_of_ble_eq_true rfl) ?_
  intro p e s m below meth c ls A R Q args H hR hQ hx hb hml hr hlocks hown hts hP hK hD hA hS hG hl
  have hown : s.vm.findClass RJ6 = some m.cls := hown
  have hl : lv_has ls 1 [(0, .int x0)] := hl
  have hW : ∀ w ∈ WG, w.before args s = true := fun w h => hts w (List.mem_cons_of_mem _ h)
  unfold fJ6_bitCount at hf
  refine lv_iload_n hx hb dJ6_bitCount_0f7a4_0 rfl (lv_at hl 0 rfl) ?_
  refine lv_iload_n hx hb dJ6_bitCount_0f7a4_1 rfl (lv_at hl 0 rfl) ?_
  refine lv_iconst (v := 1) hx hb dJ6_bitCount_0f7a4_2 (by decide) ?_
  refine lv_iushr (v := (((x0).toUInt32 >>> ((1 : Int32).toUInt32 &&& Int32.toUInt32 31)).toInt32)) hx hb dJ6_bitCount_0f7a4_3 rfl ?_
  refine lv_ldcw (v := 1431655765) hx hb hown (hW _ wd537) dJ6_bitCount_0f7a4_4 ?_
  refine lv_iand hx hb dJ6_bitCount_0f7a4_7 ?_
  refine lv_isub hx hb dJ6_bitCount_0f7a4_8 ?_
  obtain ⟨z1, ez1, hf⟩ := bnd hf
  refine lv_nm (v := z1) (Option.some.inj ez1) ?_
  refine lv_istore_n (lv' := [(0, .int z1)]) hx hb dJ6_bitCount_0f7a4_9 rfl hl (by decide) rfl (fun ls hl => ?_)
  refine lv_iload_n hx hb dJ6_bitCount_0f7a4_10 rfl (lv_at hl 0 rfl) ?_
  refine lv_ldcw (v := 858993459) hx hb hown (hW _ wd538) dJ6_bitCount_0f7a4_11 ?_
  refine lv_iand hx hb dJ6_bitCount_0f7a4_14 ?_
  refine lv_iload_n hx hb dJ6_bitCount_0f7a4_15 rfl (lv_at hl 0 rfl) ?_
  refine lv_iconst (v := 2) hx hb dJ6_bitCount_0f7a4_16 (by decide) ?_
  refine lv_iushr (v := (((z1).toUInt32 >>> ((2 : Int32).toUInt32 &&& Int32.toUInt32 31)).toInt32)) hx hb dJ6_bitCount_0f7a4_17 rfl ?_
  refine lv_ldcw (v := 858993459) hx hb hown (hW _ wd538) dJ6_bitCount_0f7a4_18 ?_
  refine lv_iand hx hb dJ6_bitCount_0f7a4_21 ?_
  refine lv_iadd hx hb dJ6_bitCount_0f7a4_22 ?_
  obtain ⟨z2, ez2, hf⟩ := bnd hf
  refine lv_nm (v := z2) (Option.some.inj ez2) ?_
  refine lv_istore_n (lv' := [(0, .int z2)]) hx hb dJ6_bitCount_0f7a4_23 rfl hl (by decide) rfl (fun ls hl => ?_)
  refine lv_iload_n hx hb dJ6_bitCount_0f7a4_24 rfl (lv_at hl 0 rfl) ?_
  refine lv_iload_n hx hb dJ6_bitCount_0f7a4_25 rfl (lv_at hl 0 rfl) ?_
  refine lv_iconst (v := 4) hx hb dJ6_bitCount_0f7a4_26 (by decide) ?_
  refine lv_iushr (v := (((z2).toUInt32 >>> ((4 : Int32).toUInt32 &&& Int32.toUInt32 31)).toInt32)) hx hb dJ6_bitCount_0f7a4_27 rfl ?_
  refine lv_iadd hx hb dJ6_bitCount_0f7a4_28 ?_
  refine lv_ldcw (v := 252645135) hx hb hown (hW _ wd539) dJ6_bitCount_0f7a4_29 ?_
  refine lv_iand hx hb dJ6_bitCount_0f7a4_32 ?_
  obtain ⟨z3, ez3, hf⟩ := bnd hf
  refine lv_nm (v := z3) (Option.some.inj ez3) ?_
  refine lv_istore_n (lv' := [(0, .int z3)]) hx hb dJ6_bitCount_0f7a4_33 rfl hl (by decide) rfl (fun ls hl => ?_)
  refine lv_iload_n hx hb dJ6_bitCount_0f7a4_34 rfl (lv_at hl 0 rfl) ?_
  refine lv_iload_n hx hb dJ6_bitCount_0f7a4_35 rfl (lv_at hl 0 rfl) ?_
  refine lv_bipush (v := 8) hx hb dJ6_bitCount_0f7a4_36 (by decide) ?_
  refine lv_iushr (v := (((z3).toUInt32 >>> ((8 : Int32).toUInt32 &&& Int32.toUInt32 31)).toInt32)) hx hb dJ6_bitCount_0f7a4_38 rfl ?_
  refine lv_iadd hx hb dJ6_bitCount_0f7a4_39 ?_
  obtain ⟨z4, ez4, hf⟩ := bnd hf
  refine lv_nm (v := z4) (Option.some.inj ez4) ?_
  refine lv_istore_n (lv' := [(0, .int z4)]) hx hb dJ6_bitCount_0f7a4_40 rfl hl (by decide) rfl (fun ls hl => ?_)
  refine lv_iload_n hx hb dJ6_bitCount_0f7a4_41 rfl (lv_at hl 0 rfl) ?_
  refine lv_iload_n hx hb dJ6_bitCount_0f7a4_42 rfl (lv_at hl 0 rfl) ?_
  refine lv_bipush (v := 16) hx hb dJ6_bitCount_0f7a4_43 (by decide) ?_
  refine lv_iushr (v := (((z4).toUInt32 >>> ((16 : Int32).toUInt32 &&& Int32.toUInt32 31)).toInt32)) hx hb dJ6_bitCount_0f7a4_45 rfl ?_
  refine lv_iadd hx hb dJ6_bitCount_0f7a4_46 ?_
  obtain ⟨z5, ez5, hf⟩ := bnd hf
  refine lv_nm (v := z5) (Option.some.inj ez5) ?_
  refine lv_istore_n (lv' := [(0, .int z5)]) hx hb dJ6_bitCount_0f7a4_47 rfl hl (by decide) rfl (fun ls hl => ?_)
  refine lv_iload_n hx hb dJ6_bitCount_0f7a4_48 rfl (lv_at hl 0 rfl) ?_
  refine lv_bipush (v := 63) hx hb dJ6_bitCount_0f7a4_49 (by decide) ?_
  refine lv_iand hx hb dJ6_bitCount_0f7a4_51 ?_
  obtain rfl := Option.some.inj hf
  exact mretI hx hb hr hlocks hK hP hD hS rfl hQ dJ6_bitCount_0f7a4_52
/-! java/lang/Integer.numberOfTrailingZeros -/
noncomputable def fJ6_numberOfTrailingZeros (x0 : Int32) : Option (Int32) :=
  if (0 : Int32) < ((x0 ^^^ (-1)) &&& (x0 - 1)) then (((if ((x0 ^^^ (-1)) &&& (x0 - 1)) ≤ 65536 then some (((x0 ^^^ (-1)) &&& (x0 - 1)), 1) else (some (((((x0 ^^^ (-1)) &&& (x0 - 1))).toUInt32 >>> ((16 : Int32).toUInt32 &&& Int32.toUInt32 31)).toInt32)).bind fun z2 =>
  some (z2, (1 + 16)) : Option (Int32 × Int32))).bind fun q1 =>
  ((if q1.1 ≤ 256 then some (q1.1, q1.2) else (some (((q1.1).toUInt32 >>> ((8 : Int32).toUInt32 &&& Int32.toUInt32 31)).toInt32)).bind fun z4 =>
  some (z4, (q1.2 + 8)) : Option (Int32 × Int32))).bind fun q3 =>
  ((if q3.1 ≤ 16 then some (q3.1, q3.2) else (some (((q3.1).toUInt32 >>> ((4 : Int32).toUInt32 &&& Int32.toUInt32 31)).toInt32)).bind fun z6 =>
  some (z6, (q3.2 + 4)) : Option (Int32 × Int32))).bind fun q5 =>
  ((if q5.1 ≤ 4 then some (q5.1, q5.2) else (some (((q5.1).toUInt32 >>> ((2 : Int32).toUInt32 &&& Int32.toUInt32 31)).toInt32)).bind fun z8 =>
  some (z8, (q5.2 + 2)) : Option (Int32 × Int32))).bind fun q7 =>
  some (q7.2 + (((q7.1).toUInt32 >>> ((1 : Int32).toUInt32 &&& Int32.toUInt32 31)).toInt32)))
  else some (((x0 ^^^ (-1)) &&& (x0 - 1)) &&& 32)
set_option maxHeartbeats 4000000 in
set_option maxRecDepth 100000 in
theorem cJ6_numberOfTrailingZeros (l : Launch) (D : va_G) (cs : xE) (sz : Nat) (x0 : Int32) (res : Int32) (hf : fJ6_numberOfTrailingZeros x0 = some res) : Met l yJ6_numberOfTrailingZeros_0f7a4 (Cond.code yJ6_numberOfTrailingZeros_0f7a4 cJ6_numberOfTrailingZeros_0f7a4 2 (some .int) :: WG) { frames := 0, cells := 0, slots := 0, locals := 0 } (va_Pc [.int x0] (mP D cs (List.flatten []) sz)) (qI D cs res (List.flatten []) (va_A (List.flatten []) sz)) 0 0 (va_A (List.flatten []) sz) := by
  refine mgo (Qc := qI D cs res (List.flatten [])) (cc := cJ6_numberOfTrailingZeros_0f7a4) (maxL := 2) (ret := (some .int)) (by decide) rfl (Nat.le_of_ble_eq_true rfl) ?_
  intro p e s m below meth c ls A R Q args H hR hQ hx hb hml hr hlocks hown hts hP hK hD hA hS hG hl
  have hown : s.vm.findClass RJ6 = some m.cls := hown
  have hl : lv_has ls 2 [(0, .int x0)] := hl
  have hW : ∀ w ∈ WG, w.before args s = true := fun w h => hts w (List.mem_cons_of_mem _ h)
  unfold fJ6_numberOfTrailingZeros at hf
  refine lv_iload_n hx hb dJ6_numberOfTrailingZeros_0f7a4_0 rfl (lv_at hl 0 rfl) ?_
  refine lv_iconst (v := (-1)) hx hb dJ6_numberOfTrailingZeros_0f7a4_1 (by decide) ?_
  refine lv_ixor hx hb dJ6_numberOfTrailingZeros_0f7a4_2 ?_
  refine lv_iload_n hx hb dJ6_numberOfTrailingZeros_0f7a4_3 rfl (lv_at hl 0 rfl) ?_
  refine lv_iconst (v := 1) hx hb dJ6_numberOfTrailingZeros_0f7a4_4 (by decide) ?_
  refine lv_isub hx hb dJ6_numberOfTrailingZeros_0f7a4_5 ?_
  refine lv_iand hx hb dJ6_numberOfTrailingZeros_0f7a4_6 ?_
  refine lv_istore_n (lv' := [(0, .int ((x0 ^^^ (-1)) &&& (x0 - 1)))]) hx hb dJ6_numberOfTrailingZeros_0f7a4_7 rfl hl (by decide) rfl (fun ls hl => ?_)
  refine lv_iload_n hx hb dJ6_numberOfTrailingZeros_0f7a4_8 rfl (lv_at hl 0 rfl) ?_
  refine lv_if_gt (tgt := 17) hx hb dJ6_numberOfTrailingZeros_0f7a4_9 (by decide) (fun hc => ?_) (fun hc => ?_)
  · have hf := ifp hc hf
    refine lv_iconst (v := 1) hx hb dJ6_numberOfTrailingZeros_0f7a4_17 (by decide) ?_
    refine lv_istore_n (lv' := [(1, .int 1), (0, .int ((x0 ^^^ (-1)) &&& (x0 - 1)))]) hx hb dJ6_numberOfTrailingZeros_0f7a4_18 rfl hl (by decide) rfl (fun ls hl => ?_)
    refine lv_iload_n hx hb dJ6_numberOfTrailingZeros_0f7a4_19 rfl (lv_at hl 1 rfl) ?_
    refine lv_ldcw (v := 65536) hx hb hown (hW _ wd1146) dJ6_numberOfTrailingZeros_0f7a4_20 ?_
    obtain ⟨q1, hq1, hf⟩ := bnd hf
    have Jq1 : ∀ r1 : Int32 × Int32, q1 = r1 → ∀ (H : Heap) (locs : List Loc) (ls : Array Slot), va_P D vwCl (List.flatten []) H → va_D A (List.flatten []) → va_S A s.heap H locs → lv_has ls 2 [(0, .int r1.1), (1, .int r1.2)] → W p l e R s m args below meth c H locs 0 0 Q (F0 m 34 ls []) := by
      intro r1 eq1 H locs ls hP hD hS hl
      subst eq1
      refine lv_iload_n hx hb dJ6_numberOfTrailingZeros_0f7a4_34 rfl (lv_at hl 0 rfl) ?_
      refine lv_sipush (v := 256) hx hb dJ6_numberOfTrailingZeros_0f7a4_35 (by decide) ?_
      obtain ⟨q3, hq3, hf⟩ := bnd hf
      have Jq3 : ∀ r3 : Int32 × Int32, q3 = r3 → ∀ (H : Heap) (locs : List Loc) (ls : Array Slot), va_P D vwCl (List.flatten []) H → va_D A (List.flatten []) → va_S A s.heap H locs → lv_has ls 2 [(0, .int r3.1), (1, .int r3.2)] → W p l e R s m args below meth c H locs 0 0 Q (F0 m 49 ls []) := by
        intro r3 eq3 H locs ls hP hD hS hl
        subst eq3
        refine lv_iload_n hx hb dJ6_numberOfTrailingZeros_0f7a4_49 rfl (lv_at hl 0 rfl) ?_
        refine lv_bipush (v := 16) hx hb dJ6_numberOfTrailingZeros_0f7a4_50 (by decide) ?_
        obtain ⟨q5, hq5, hf⟩ := bnd hf
        have Jq5 : ∀ r5 : Int32 × Int32, q5 = r5 → ∀ (H : Heap) (locs : List Loc) (ls : Array Slot), va_P D vwCl (List.flatten []) H → va_D A (List.flatten []) → va_S A s.heap H locs → lv_has ls 2 [(0, .int r5.1), (1, .int r5.2)] → W p l e R s m args below meth c H locs 0 0 Q (F0 m 62 ls []) := by
          intro r5 eq5 H locs ls hP hD hS hl
          subst eq5
          refine lv_iload_n hx hb dJ6_numberOfTrailingZeros_0f7a4_62 rfl (lv_at hl 0 rfl) ?_
          refine lv_iconst (v := 4) hx hb dJ6_numberOfTrailingZeros_0f7a4_63 (by decide) ?_
          obtain ⟨q7, hq7, hf⟩ := bnd hf
          have Jq7 : ∀ r7 : Int32 × Int32, q7 = r7 → ∀ (H : Heap) (locs : List Loc) (ls : Array Slot), va_P D vwCl (List.flatten []) H → va_D A (List.flatten []) → va_S A s.heap H locs → lv_has ls 2 [(0, .int r7.1), (1, .int r7.2)] → W p l e R s m args below meth c H locs 0 0 Q (F0 m 74 ls []) := by
            intro r7 eq7 H locs ls hP hD hS hl
            subst eq7
            refine lv_iload_n hx hb dJ6_numberOfTrailingZeros_0f7a4_74 rfl (lv_at hl 1 rfl) ?_
            refine lv_iload_n hx hb dJ6_numberOfTrailingZeros_0f7a4_75 rfl (lv_at hl 0 rfl) ?_
            refine lv_iconst (v := 1) hx hb dJ6_numberOfTrailingZeros_0f7a4_76 (by decide) ?_
            refine lv_iushr (v := (((q7.1).toUInt32 >>> ((1 : Int32).toUInt32 &&& Int32.toUInt32 31)).toInt32)) hx hb dJ6_numberOfTrailingZeros_0f7a4_77 rfl ?_
            refine lv_iadd hx hb dJ6_numberOfTrailingZeros_0f7a4_78 ?_
            obtain rfl := Option.some.inj hf
            exact mretI hx hb hr hlocks hK hP hD hS rfl hQ dJ6_numberOfTrailingZeros_0f7a4_79
          clear hf
          have hf := hq7
          refine lv_icmp_le (tgt := 74) hx hb dJ6_numberOfTrailingZeros_0f7a4_64 (by decide) (fun hc => ?_) (fun hc => ?_)
          · have hf := ifp hc hf
            exact Jq7 _ (Option.some.inj hf).symm _ _ _ hP hD hS (lv_sub hl [0, 1] rfl)
          · have hf := ifn hc hf
            refine lv_iinc (v := (q5.2 + 2)) (lv' := [(1, .int (q5.2 + 2)), (0, .int q5.1)]) hx hb dJ6_numberOfTrailingZeros_0f7a4_67 hl (k := 1) rfl rfl (by decide) rfl (fun ls hl => ?_)
            refine lv_iload_n hx hb dJ6_numberOfTrailingZeros_0f7a4_70 rfl (lv_at hl 1 rfl) ?_
            refine lv_iconst (v := 2) hx hb dJ6_numberOfTrailingZeros_0f7a4_71 (by decide) ?_
            refine lv_iushr (v := (((q5.1).toUInt32 >>> ((2 : Int32).toUInt32 &&& Int32.toUInt32 31)).toInt32)) hx hb dJ6_numberOfTrailingZeros_0f7a4_72 rfl ?_
            obtain ⟨z8, ez8, hf⟩ := bnd hf
            refine lv_nm (v := z8) (Option.some.inj ez8) ?_
            refine lv_istore_n (lv' := [(0, .int z8), (1, .int (q5.2 + 2))]) hx hb dJ6_numberOfTrailingZeros_0f7a4_73 rfl hl (by decide) rfl (fun ls hl => ?_)
            exact Jq7 _ (Option.some.inj hf).symm _ _ _ hP hD hS (lv_sub hl [0, 1] rfl)
        clear hf
        have hf := hq5
        refine lv_icmp_le (tgt := 62) hx hb dJ6_numberOfTrailingZeros_0f7a4_52 (by decide) (fun hc => ?_) (fun hc => ?_)
        · have hf := ifp hc hf
          exact Jq5 _ (Option.some.inj hf).symm _ _ _ hP hD hS (lv_sub hl [0, 1] rfl)
        · have hf := ifn hc hf
          refine lv_iinc (v := (q3.2 + 4)) (lv' := [(1, .int (q3.2 + 4)), (0, .int q3.1)]) hx hb dJ6_numberOfTrailingZeros_0f7a4_55 hl (k := 1) rfl rfl (by decide) rfl (fun ls hl => ?_)
          refine lv_iload_n hx hb dJ6_numberOfTrailingZeros_0f7a4_58 rfl (lv_at hl 1 rfl) ?_
          refine lv_iconst (v := 4) hx hb dJ6_numberOfTrailingZeros_0f7a4_59 (by decide) ?_
          refine lv_iushr (v := (((q3.1).toUInt32 >>> ((4 : Int32).toUInt32 &&& Int32.toUInt32 31)).toInt32)) hx hb dJ6_numberOfTrailingZeros_0f7a4_60 rfl ?_
          obtain ⟨z6, ez6, hf⟩ := bnd hf
          refine lv_nm (v := z6) (Option.some.inj ez6) ?_
          refine lv_istore_n (lv' := [(0, .int z6), (1, .int (q3.2 + 4))]) hx hb dJ6_numberOfTrailingZeros_0f7a4_61 rfl hl (by decide) rfl (fun ls hl => ?_)
          exact Jq5 _ (Option.some.inj hf).symm _ _ _ hP hD hS (lv_sub hl [0, 1] rfl)
      clear hf
      have hf := hq3
      refine lv_icmp_le (tgt := 49) hx hb dJ6_numberOfTrailingZeros_0f7a4_38 (by decide) (fun hc => ?_) (fun hc => ?_)
      · have hf := ifp hc hf
        exact Jq3 _ (Option.some.inj hf).symm _ _ _ hP hD hS (lv_sub hl [0, 1] rfl)
      · have hf := ifn hc hf
        refine lv_iinc (v := (q1.2 + 8)) (lv' := [(1, .int (q1.2 + 8)), (0, .int q1.1)]) hx hb dJ6_numberOfTrailingZeros_0f7a4_41 hl (k := 1) rfl rfl (by decide) rfl (fun ls hl => ?_)
        refine lv_iload_n hx hb dJ6_numberOfTrailingZeros_0f7a4_44 rfl (lv_at hl 1 rfl) ?_
        refine lv_bipush (v := 8) hx hb dJ6_numberOfTrailingZeros_0f7a4_45 (by decide) ?_
        refine lv_iushr (v := (((q1.1).toUInt32 >>> ((8 : Int32).toUInt32 &&& Int32.toUInt32 31)).toInt32)) hx hb dJ6_numberOfTrailingZeros_0f7a4_47 rfl ?_
        obtain ⟨z4, ez4, hf⟩ := bnd hf
        refine lv_nm (v := z4) (Option.some.inj ez4) ?_
        refine lv_istore_n (lv' := [(0, .int z4), (1, .int (q1.2 + 8))]) hx hb dJ6_numberOfTrailingZeros_0f7a4_48 rfl hl (by decide) rfl (fun ls hl => ?_)
        exact Jq3 _ (Option.some.inj hf).symm _ _ _ hP hD hS (lv_sub hl [0, 1] rfl)
    clear hf
    have hf := hq1
    refine lv_icmp_le (tgt := 34) hx hb dJ6_numberOfTrailingZeros_0f7a4_23 (by decide) (fun hc => ?_) (fun hc => ?_)
    · have hf := ifp hc hf
      exact Jq1 _ (Option.some.inj hf).symm _ _ _ hP hD hS (lv_sub hl [1, 0] rfl)
    · have hf := ifn hc hf
      refine lv_iinc (v := (1 + 16)) (lv' := [(1, .int (1 + 16)), (0, .int ((x0 ^^^ (-1)) &&& (x0 - 1)))]) hx hb dJ6_numberOfTrailingZeros_0f7a4_26 hl (k := 0) rfl rfl (by decide) rfl (fun ls hl => ?_)
      refine lv_iload_n hx hb dJ6_numberOfTrailingZeros_0f7a4_29 rfl (lv_at hl 1 rfl) ?_
      refine lv_bipush (v := 16) hx hb dJ6_numberOfTrailingZeros_0f7a4_30 (by decide) ?_
      refine lv_iushr (v := (((((x0 ^^^ (-1)) &&& (x0 - 1))).toUInt32 >>> ((16 : Int32).toUInt32 &&& Int32.toUInt32 31)).toInt32)) hx hb dJ6_numberOfTrailingZeros_0f7a4_32 rfl ?_
      obtain ⟨z2, ez2, hf⟩ := bnd hf
      refine lv_nm (v := z2) (Option.some.inj ez2) ?_
      refine lv_istore_n (lv' := [(0, .int z2), (1, .int (1 + 16))]) hx hb dJ6_numberOfTrailingZeros_0f7a4_33 rfl hl (by decide) rfl (fun ls hl => ?_)
      exact Jq1 _ (Option.some.inj hf).symm _ _ _ hP hD hS (lv_sub hl [0, 1] rfl)
  · have hf := ifn hc hf
    refine lv_iload_n hx hb dJ6_numberOfTrailingZeros_0f7a4_12 rfl (lv_at hl 0 rfl) ?_
    refine lv_bipush (v := 32) hx hb dJ6_numberOfTrailingZeros_0f7a4_13 (by decide) ?_
    refine lv_iand hx hb dJ6_numberOfTrailingZeros_0f7a4_15 ?_
    obtain rfl := Option.some.inj hf
    exact mretI hx hb hr hlocks hK hP hD hS rfl hQ dJ6_numberOfTrailingZeros_0f7a4_16
/-! TwinLamps$Duel.play -/
noncomputable def f1_play (s_u : St) (x1 : Bool) (x2 : Bool) : Option (St) :=
  ((if (s_u.1 1) = 0 then some x2 else some x1 : Option (Bool))).bind fun q1 =>
  ((if (s_u.1 1) = 0 then some x1 else some x2 : Option (Bool))).bind fun q2 =>
  ((if (s_u.1 0) = (zB q1) then some false else some true : Option (Bool))).bind fun q3 =>
  ((if (zB q1) = (zB q2) then some false else some true : Option (Bool))).bind fun q4 =>
  ((if (zB q2) = (s_u.1 2) then some 3 else some 0 : Option (Int32))).bind fun q5 =>
  ((if (s_u.1 1) = 0 then some q4 else some q3 : Option (Bool))).bind fun q6 =>
  (some (sS s_u 4 (q5 - (zB q6)))).bind fun s7 =>
  ((if (zB q2) = (s7.1 3) then some 3 else some 0 : Option (Int32))).bind fun q8 =>
  ((if (s7.1 1) = 0 then some q3 else some q4 : Option (Bool))).bind fun q9 =>
  (some (sS s7 5 (q8 - (zB q9)))).bind fun s10 =>
  some s10
set_option maxHeartbeats 4000000 in
set_option maxRecDepth 100000 in
theorem c1_play (l : Launch) (D : va_G) (cs : xE) (o_u : Nat) (s_u : St) (sz : Nat) (x1 : Bool) (x2 : Bool) (res : St) (hf : f1_play s_u x1 x2 = some res) : Met l yX1_play (Cond.code yX1_play cX1_play 7 none :: WG) { frames := 0, cells := 0, slots := 0, locals := 0 } (va_Pc [.ref o_u, .int (zB x1), .int (zB x2)] (mP D cs (List.flatten [w1 cs o_u a0n s_u]) sz)) (qV D cs (List.flatten [w1 cs o_u a0n res]) (va_A (List.flatten [w1 cs o_u a0n s_u]) sz)) 0 0 (va_A (List.flatten [w1 cs o_u a0n s_u]) sz) := by
  refine mgo (Qc := qV D cs (List.flatten [w1 cs o_u a0n res])) (cc := cX1_play) (maxL := 7) (ret := none) (by decide) rfl (Nat.le_of_ble_eq_true rfl) ?_
  intro p e s m below meth c ls A R Q args H hR hQ hx hb hml hr hlocks hown hts hP hK hD hA hS hG hl
  have hown : s.vm.findClass RX1 = some m.cls := hown
  have hl : lv_has ls 7 [(0, .ref o_u), (1, .int (zB x1)), (2, .int (zB x2))] := hl
  have hW : ∀ w ∈ WG, w.before args s = true := fun w h => hts w (List.mem_cons_of_mem _ h)
  have htX1 : ∀ w ∈ u_ws RX1 TX1 6, w.before args s = true := fun w h => hW w (inW_X1 w h)
  unfold f1_play at hf
  refine lv_aload_n hx hb dX1_play_0 rfl (lv_at hl 0 rfl) ?_
  refine gfB (i0 := 0) (own := RX1) (T := TX1) (k := 1) (v := .int (s_u.1 1)) hx hb htX1 hown hK hP rfl e1 rfl (by decide) (hW _ wd406) rfl dX1_play_1 ?_
  obtain ⟨q1, hq1, hf⟩ := bnd hf
  have Jq1 : ∀ r1 : Bool, q1 = r1 → ∀ (H : Heap) (locs : List Loc) (ls : Array Slot), va_P D vwCl (List.flatten [w1 cs o_u a0n s_u]) H → va_D A (List.flatten [w1 cs o_u a0n s_u]) → va_S A s.heap H locs → lv_has ls 7 [(0, .ref o_u), (1, .int (zB x1)), (2, .int (zB x2))] → W p l e R s m args below meth c H locs 0 0 Q (F0 m 12 ls [.int (zB r1)]) := by
    intro r1 eq1 H locs ls hP hD hS hl
    subst eq1
    refine lv_istore_n (lv' := [(3, .int (zB q1)), (0, .ref o_u), (1, .int (zB x1)), (2, .int (zB x2))]) hx hb dX1_play_12 rfl hl (by decide) rfl (fun ls hl => ?_)
    refine lv_aload_n hx hb dX1_play_13 rfl (lv_at hl 1 rfl) ?_
    refine gfB (i0 := 0) (own := RX1) (T := TX1) (k := 1) (v := .int (s_u.1 1)) hx hb htX1 hown hK hP rfl e1 rfl (by decide) (hW _ wd406) rfl dX1_play_14 ?_
    obtain ⟨q2, hq2, hf⟩ := bnd hf
    have Jq2 : ∀ r2 : Bool, q2 = r2 → ∀ (H : Heap) (locs : List Loc) (ls : Array Slot), va_P D vwCl (List.flatten [w1 cs o_u a0n s_u]) H → va_D A (List.flatten [w1 cs o_u a0n s_u]) → va_S A s.heap H locs → lv_has ls 7 [(0, .ref o_u), (3, .int (zB q1))] → W p l e R s m args below meth c H locs 0 0 Q (F0 m 25 ls [.int (zB r2)]) := by
      intro r2 eq2 H locs ls hP hD hS hl
      subst eq2
      refine lv_istore (lv' := [(4, .int (zB q2)), (0, .ref o_u), (3, .int (zB q1))]) hx hb dX1_play_25 hl (by decide) rfl (fun ls hl => ?_)
      refine lv_aload_n hx hb dX1_play_27 rfl (lv_at hl 1 rfl) ?_
      refine gfB (i0 := 0) (own := RX1) (T := TX1) (k := 0) (v := .int (s_u.1 0)) hx hb htX1 hown hK hP rfl e1 rfl (by decide) (hW _ wd404) rfl dX1_play_28 ?_
      refine lv_iload_n hx hb dX1_play_31 rfl (lv_at hl 2 rfl) ?_
      obtain ⟨q3, hq3, hf⟩ := bnd hf
      have Jq3 : ∀ r3 : Bool, q3 = r3 → ∀ (H : Heap) (locs : List Loc) (ls : Array Slot), va_P D vwCl (List.flatten [w1 cs o_u a0n s_u]) H → va_D A (List.flatten [w1 cs o_u a0n s_u]) → va_S A s.heap H locs → lv_has ls 7 [(0, .ref o_u), (3, .int (zB q1)), (4, .int (zB q2))] → W p l e R s m args below meth c H locs 0 0 Q (F0 m 40 ls [.int (zB r3)]) := by
        intro r3 eq3 H locs ls hP hD hS hl
        subst eq3
        refine lv_istore (lv' := [(5, .int (zB q3)), (0, .ref o_u), (3, .int (zB q1)), (4, .int (zB q2))]) hx hb dX1_play_40 hl (by decide) rfl (fun ls hl => ?_)
        refine lv_iload_n hx hb dX1_play_42 rfl (lv_at hl 2 rfl) ?_
        refine lv_iload hx hb dX1_play_43 (lv_at hl 3 rfl) ?_
        obtain ⟨q4, hq4, hf⟩ := bnd hf
        have Jq4 : ∀ r4 : Bool, q4 = r4 → ∀ (H : Heap) (locs : List Loc) (ls : Array Slot), va_P D vwCl (List.flatten [w1 cs o_u a0n s_u]) H → va_D A (List.flatten [w1 cs o_u a0n s_u]) → va_S A s.heap H locs → lv_has ls 7 [(0, .ref o_u), (4, .int (zB q2)), (5, .int (zB q3))] → W p l e R s m args below meth c H locs 0 0 Q (F0 m 53 ls [.int (zB r4)]) := by
          intro r4 eq4 H locs ls hP hD hS hl
          subst eq4
          refine lv_istore (lv' := [(6, .int (zB q4)), (0, .ref o_u), (4, .int (zB q2)), (5, .int (zB q3))]) hx hb dX1_play_53 hl (by decide) rfl (fun ls hl => ?_)
          refine lv_aload_n hx hb dX1_play_55 rfl (lv_at hl 1 rfl) ?_
          refine lv_iload hx hb dX1_play_56 (lv_at hl 2 rfl) ?_
          refine lv_aload_n hx hb dX1_play_58 rfl (lv_at hl 1 rfl) ?_
          refine gfB (i0 := 0) (own := RX1) (T := TX1) (k := 2) (v := .int (s_u.1 2)) hx hb htX1 hown hK hP rfl e1 rfl (by decide) (hW _ wd408) rfl dX1_play_59 ?_
          obtain ⟨q5, hq5, hf⟩ := bnd hf
          have Jq5 : ∀ r5 : Int32, q5 = r5 → ∀ (H : Heap) (locs : List Loc) (ls : Array Slot), va_P D vwCl (List.flatten [w1 cs o_u a0n s_u]) H → va_D A (List.flatten [w1 cs o_u a0n s_u]) → va_S A s.heap H locs → lv_has ls 7 [(0, .ref o_u), (4, .int (zB q2)), (5, .int (zB q3)), (6, .int (zB q4))] → W p l e R s m args below meth c H locs 0 0 Q (F0 m 70 ls [.int r5, .ref o_u]) := by
            intro r5 eq5 H locs ls hP hD hS hl
            subst eq5
            refine lv_aload_n hx hb dX1_play_70 rfl (lv_at hl 0 rfl) ?_
            refine gfB (i0 := 0) (own := RX1) (T := TX1) (k := 1) (v := .int (s_u.1 1)) hx hb htX1 hown hK hP rfl e1 rfl (by decide) (hW _ wd406) rfl dX1_play_71 ?_
            obtain ⟨q6, hq6, hf⟩ := bnd hf
            have Jq6 : ∀ r6 : Bool, q6 = r6 → ∀ (H : Heap) (locs : List Loc) (ls : Array Slot), va_P D vwCl (List.flatten [w1 cs o_u a0n s_u]) H → va_D A (List.flatten [w1 cs o_u a0n s_u]) → va_S A s.heap H locs → lv_has ls 7 [(0, .ref o_u), (4, .int (zB q2)), (5, .int (zB q3)), (6, .int (zB q4))] → W p l e R s m args below meth c H locs 0 0 Q (F0 m 84 ls [.int (zB r6), .int q5, .ref o_u]) := by
              intro r6 eq6 H locs ls hP hD hS hl
              subst eq6
              refine lv_isub hx hb dX1_play_84 ?_
              obtain ⟨s7, es7, hf⟩ := bnd hf
              replace es7 := Option.some.inj es7
              refine pfB (i0 := 0) (own := RX1) (T := TX1) (k := 4) (Bn := [w1 cs o_u a0n s7]) tyX1 tyX1_ok nmX1 hx hb htX1 hown hK hP hD hS rfl e1 rfl (by decide) (hW _ wd412) rfl rfl rfl (Nat.le_of_ble_eq_true rfl) dX1_play_85 (by rw [← es7]; exact u1_4) rfl (fun H locs hP hD hS => ?_)
              refine lv_aload_n hx hb dX1_play_88 rfl (lv_at hl 0 rfl) ?_
              refine lv_iload hx hb dX1_play_89 (lv_at hl 1 rfl) ?_
              refine lv_aload_n hx hb dX1_play_91 rfl (lv_at hl 0 rfl) ?_
              refine gfB (i0 := 0) (own := RX1) (T := TX1) (k := 3) (v := .int (s7.1 3)) hx hb htX1 hown hK hP rfl e1 rfl (by decide) (hW _ wd410) rfl dX1_play_92 ?_
              obtain ⟨q8, hq8, hf⟩ := bnd hf
              have Jq8 : ∀ r8 : Int32, q8 = r8 → ∀ (H : Heap) (locs : List Loc) (ls : Array Slot), va_P D vwCl (List.flatten [w1 cs o_u a0n s7]) H → va_D A (List.flatten [w1 cs o_u a0n s7]) → va_S A s.heap H locs → lv_has ls 7 [(0, .ref o_u), (5, .int (zB q3)), (6, .int (zB q4))] → W p l e R s m args below meth c H locs 0 0 Q (F0 m 103 ls [.int r8, .ref o_u]) := by
                intro r8 eq8 H locs ls hP hD hS hl
                subst eq8
                refine lv_aload_n hx hb dX1_play_103 rfl (lv_at hl 0 rfl) ?_
                refine gfB (i0 := 0) (own := RX1) (T := TX1) (k := 1) (v := .int (s7.1 1)) hx hb htX1 hown hK hP rfl e1 rfl (by decide) (hW _ wd406) rfl dX1_play_104 ?_
                obtain ⟨q9, hq9, hf⟩ := bnd hf
                have Jq9 : ∀ r9 : Bool, q9 = r9 → ∀ (H : Heap) (locs : List Loc) (ls : Array Slot), va_P D vwCl (List.flatten [w1 cs o_u a0n s7]) H → va_D A (List.flatten [w1 cs o_u a0n s7]) → va_S A s.heap H locs → lv_has ls 7 [] → W p l e R s m args below meth c H locs 0 0 Q (F0 m 117 ls [.int (zB r9), .int q8, .ref o_u]) := by
                  intro r9 eq9 H locs ls hP hD hS hl
                  subst eq9
                  refine lv_isub hx hb dX1_play_117 ?_
                  obtain ⟨s10, es10, hf⟩ := bnd hf
                  replace es10 := Option.some.inj es10
                  refine pfB (i0 := 0) (own := RX1) (T := TX1) (k := 5) (Bn := [w1 cs o_u a0n s10]) tyX1 tyX1_ok nmX1 hx hb htX1 hown hK hP hD hS rfl e1 rfl (by decide) (hW _ wd413) rfl rfl rfl (Nat.le_of_ble_eq_true rfl) dX1_play_118 (by rw [← es10]; exact u1_5) rfl (fun H locs hP hD hS => ?_)
                  obtain rfl := Option.some.inj hf
                  exact mretV hx hb hr hlocks hK hP hD hS hQ dX1_play_121
                clear hf
                have hf := hq9
                refine lv_if_eq (tgt := 115) hx hb dX1_play_107 (by decide) (fun hc => ?_) (fun hc => ?_)
                · have hf := ifp hc hf
                  refine lv_iload hx hb dX1_play_115 (lv_at hl 1 rfl) ?_
                  exact Jq9 _ (Option.some.inj hf).symm _ _ _ hP hD hS (lv_sub hl [] rfl)
                · have hf := ifn hc hf
                  refine lv_iload hx hb dX1_play_110 (lv_at hl 2 rfl) ?_
                  refine lv_goto (tgt := 117) hx hb dX1_play_112 (by decide) ?_
                  exact Jq9 _ (Option.some.inj hf).symm _ _ _ hP hD hS (lv_sub hl [] rfl)
              clear hf
              have hf := hq8
              refine lv_icmp_ne (tgt := 102) hx hb dX1_play_95 (by decide) (fun hc => ?_) (fun hc => ?_)
              · have hf := ifn hc hf
                refine lv_iconst (v := 0) hx hb dX1_play_102 (by decide) ?_
                exact Jq8 _ (Option.some.inj hf).symm _ _ _ hP hD hS (lv_sub hl [0, 2, 3] rfl)
              · have hf := ifp hc hf
                refine lv_iconst (v := 3) hx hb dX1_play_98 (by decide) ?_
                refine lv_goto (tgt := 103) hx hb dX1_play_99 (by decide) ?_
                exact Jq8 _ (Option.some.inj hf).symm _ _ _ hP hD hS (lv_sub hl [0, 2, 3] rfl)
            clear hf
            have hf := hq6
            refine lv_if_eq (tgt := 82) hx hb dX1_play_74 (by decide) (fun hc => ?_) (fun hc => ?_)
            · have hf := ifp hc hf
              refine lv_iload hx hb dX1_play_82 (lv_at hl 3 rfl) ?_
              exact Jq6 _ (Option.some.inj hf).symm _ _ _ hP hD hS (lv_sub hl [0, 1, 2, 3] rfl)
            · have hf := ifn hc hf
              refine lv_iload hx hb dX1_play_77 (lv_at hl 2 rfl) ?_
              refine lv_goto (tgt := 84) hx hb dX1_play_79 (by decide) ?_
              exact Jq6 _ (Option.some.inj hf).symm _ _ _ hP hD hS (lv_sub hl [0, 1, 2, 3] rfl)
          clear hf
          have hf := hq5
          refine lv_icmp_ne (tgt := 69) hx hb dX1_play_62 (by decide) (fun hc => ?_) (fun hc => ?_)
          · have hf := ifn hc hf
            refine lv_iconst (v := 0) hx hb dX1_play_69 (by decide) ?_
            exact Jq5 _ (Option.some.inj hf).symm _ _ _ hP hD hS (lv_sub hl [1, 2, 3, 0] rfl)
          · have hf := ifp hc hf
            refine lv_iconst (v := 3) hx hb dX1_play_65 (by decide) ?_
            refine lv_goto (tgt := 70) hx hb dX1_play_66 (by decide) ?_
            exact Jq5 _ (Option.some.inj hf).symm _ _ _ hP hD hS (lv_sub hl [1, 2, 3, 0] rfl)
        clear hf
        have hf := hq4
        refine lv_icmp_eq (tgt := 52) hx hb dX1_play_45 (by decide) (fun hc => ?_) (fun hc => ?_)
        · have hf := ifp hc hf
          refine lv_iconst (v := 0) hx hb dX1_play_52 (by decide) ?_
          exact Jq4 _ (Option.some.inj hf).symm _ _ _ hP hD hS (lv_sub hl [1, 3, 0] rfl)
        · have hf := ifn hc hf
          refine lv_iconst (v := 1) hx hb dX1_play_48 (by decide) ?_
          refine lv_goto (tgt := 53) hx hb dX1_play_49 (by decide) ?_
          exact Jq4 _ (Option.some.inj hf).symm _ _ _ hP hD hS (lv_sub hl [1, 3, 0] rfl)
      clear hf
      have hf := hq3
      refine lv_icmp_eq (tgt := 39) hx hb dX1_play_32 (by decide) (fun hc => ?_) (fun hc => ?_)
      · have hf := ifp hc hf
        refine lv_iconst (v := 0) hx hb dX1_play_39 (by decide) ?_
        exact Jq3 _ (Option.some.inj hf).symm _ _ _ hP hD hS (lv_sub hl [1, 2, 0] rfl)
      · have hf := ifn hc hf
        refine lv_iconst (v := 1) hx hb dX1_play_35 (by decide) ?_
        refine lv_goto (tgt := 40) hx hb dX1_play_36 (by decide) ?_
        exact Jq3 _ (Option.some.inj hf).symm _ _ _ hP hD hS (lv_sub hl [1, 2, 0] rfl)
    clear hf
    have hf := hq2
    refine lv_if_eq (tgt := 24) hx hb dX1_play_17 (by decide) (fun hc => ?_) (fun hc => ?_)
    · have hf := ifp hc hf
      refine lv_iload_n hx hb dX1_play_24 rfl (lv_at hl 2 rfl) ?_
      exact Jq2 _ (Option.some.inj hf).symm _ _ _ hP hD hS (lv_sub hl [1, 0] rfl)
    · have hf := ifn hc hf
      refine lv_iload_n hx hb dX1_play_20 rfl (lv_at hl 3 rfl) ?_
      refine lv_goto (tgt := 25) hx hb dX1_play_21 (by decide) ?_
      exact Jq2 _ (Option.some.inj hf).symm _ _ _ hP hD hS (lv_sub hl [1, 0] rfl)
  clear hf
  have hf := hq1
  refine lv_if_eq (tgt := 11) hx hb dX1_play_4 (by decide) (fun hc => ?_) (fun hc => ?_)
  · have hf := ifp hc hf
    refine lv_iload_n hx hb dX1_play_11 rfl (lv_at hl 2 rfl) ?_
    exact Jq1 _ (Option.some.inj hf).symm _ _ _ hP hD hS (lv_sub hl [0, 1, 2] rfl)
  · have hf := ifn hc hf
    refine lv_iload_n hx hb dX1_play_7 rfl (lv_at hl 1 rfl) ?_
    refine lv_goto (tgt := 12) hx hb dX1_play_8 (by decide) ?_
    exact Jq1 _ (Option.some.inj hf).symm _ _ _ hP hD hS (lv_sub hl [0, 1, 2] rfl)
/-! TwinLamps$Duel.rests -/
noncomputable def f1_rests (s_u : St) (x1 : Int32) (x2 : Int32) : Option (Bool × St) :=
  ((if x1 = 1 then some true else some false : Option (Bool))).bind fun q1 =>
  ((if x2 = 1 then some true else some false : Option (Bool))).bind fun q2 =>
  (f1_play s_u q1 q2).bind fun q3 =>
  ((if x1 = 0 then some true else some false : Option (Bool))).bind fun q4 =>
  ((if x2 = 1 then some true else some false : Option (Bool))).bind fun q5 =>
  (f1_play q3 q4 q5).bind fun q6 =>
  ((if x1 = 1 then some true else some false : Option (Bool))).bind fun q7 =>
  ((if x2 = 0 then some true else some false : Option (Bool))).bind fun q8 =>
  (f1_play q6 q7 q8).bind fun q9 =>
  if (q3.1 4) < (q6.1 4) then some (false, q9) else if (q3.1 5) < (q9.1 5) then some (false, q9) else some (true, q9)
set_option maxHeartbeats 4000000 in
set_option maxRecDepth 100000 in
theorem c1_rests (l : Launch) (D : va_G) (cs : xE) (o_u : Nat) (s_u : St) (sz : Nat) (x1 : Int32) (x2 : Int32) (res : Bool × St) (hf : f1_rests s_u x1 x2 = some res) : Met l yX1_rests (Cond.code yX1_rests cX1_rests 7 (some .boolean) :: WG) { frames := 1, cells := 0, slots := 0, locals := 26 } (va_Pc [.ref o_u, .int x1, .int x2] (mP D cs (List.flatten [w1 cs o_u a0n s_u]) sz)) (qI D cs (zB res.1) (List.flatten [w1 cs o_u a0n res.2]) (va_A (List.flatten [w1 cs o_u a0n s_u]) sz)) 0 0 (va_A (List.flatten [w1 cs o_u a0n s_u]) sz) := by
  refine mgo (Qc := qI D cs (zB res.1) (List.flatten [w1 cs o_u a0n res.2])) (cc := cX1_rests) (maxL := 7) (ret := (some .boolean)) (by decide) rfl (Nat.le_of_ble_eq_true rfl) ?_
  intro p e s m below meth c ls A R Q args H hR hQ hx hb hml hr hlocks hown hts hP hK hD hA hS hG hl
  have hown : s.vm.findClass RX1 = some m.cls := hown
  have hl : lv_has ls 7 [(0, .ref o_u), (1, .int x1), (2, .int x2)] := hl
  have hW : ∀ w ∈ WG, w.before args s = true := fun w h => hts w (List.mem_cons_of_mem _ h)
  have htX1 : ∀ w ∈ u_ws RX1 TX1 6, w.before args s = true := fun w h => hW w (inW_X1 w h)
  unfold f1_rests at hf
  refine lv_aload_n hx hb dX1_rests_0 rfl (lv_at hl 0 rfl) ?_
  refine lv_iload_n hx hb dX1_rests_1 rfl (lv_at hl 1 rfl) ?_
  refine lv_iconst (v := 1) hx hb dX1_rests_2 (by decide) ?_
  obtain ⟨q1, hq1, hf⟩ := bnd hf
  have Jq1 : ∀ r1 : Bool, q1 = r1 → ∀ (H : Heap) (locs : List Loc) (ls : Array Slot), va_P D vwCl (List.flatten [w1 cs o_u a0n s_u]) H → va_D A (List.flatten [w1 cs o_u a0n s_u]) → va_S A s.heap H locs → lv_has ls 7 [(0, .ref o_u), (1, .int x1), (2, .int x2)] → W p l e R s m args below meth c H locs 0 0 Q (F0 m 11 ls [.int (zB r1), .ref o_u]) := by
    intro r1 eq1 H locs ls hP hD hS hl
    subst eq1
    refine lv_iload_n hx hb dX1_rests_11 rfl (lv_at hl 2 rfl) ?_
    refine lv_iconst (v := 1) hx hb dX1_rests_12 (by decide) ?_
    obtain ⟨q2, hq2, hf⟩ := bnd hf
    have Jq2 : ∀ r2 : Bool, q2 = r2 → ∀ (H : Heap) (locs : List Loc) (ls : Array Slot), va_P D vwCl (List.flatten [w1 cs o_u a0n s_u]) H → va_D A (List.flatten [w1 cs o_u a0n s_u]) → va_S A s.heap H locs → lv_has ls 7 [(0, .ref o_u), (1, .int x1), (2, .int x2)] → W p l e R s m args below meth c H locs 0 0 Q (F0 m 21 ls [.int (zB r2), .int (zB q1), .ref o_u]) := by
      intro r2 eq2 H locs ls hP hD hS hl
      subst eq2
      obtain ⟨q3, eq3, hf⟩ := bnd hf
      refine mcVv (rest := []) (Bn := [w1 cs o_u a0n q3]) (isR := []) (isC := [0]) (i0 := 0) ⟨hx, hb, hml, hown, hts⟩ hK hP hD hS hA hG (c1_play l D cs o_u s_u H.size q1 q2 _ eq3) (cwV 2 hts (gV wd1276 wd1278 wd37 wd115 wd1279) rfl rfl rfl (by decide +kernel) ⟨by rw [hR]; exact Nat.le_of_ble_eq_true rfl, by rw [hR]; exact Nat.le_of_ble_eq_true rfl⟩) 1 (by decide) rfl rfl rfl rfl rfl rfl rfl e1 rfl rfl rfl hl.1 rfl (Nat.le_of_ble_eq_true rfl) ⟨Nat.zero_le _, Nat.zero_le _⟩ dX1_rests_21 (fun H locs hP hD hS => ?_)
      refine lv_aload_n hx hb dX1_rests_24 rfl (lv_at hl 0 rfl) ?_
      refine gfB (i0 := 0) (own := RX1) (T := TX1) (k := 4) (v := .int (q3.1 4)) hx hb htX1 hown hK hP rfl e1 rfl (by decide) (hW _ wd412) rfl dX1_rests_25 ?_
      refine lv_istore_n (lv' := [(3, .int (q3.1 4)), (0, .ref o_u), (1, .int x1), (2, .int x2)]) hx hb dX1_rests_28 rfl hl (by decide) rfl (fun ls hl => ?_)
      refine lv_aload_n hx hb dX1_rests_29 rfl (lv_at hl 1 rfl) ?_
      refine gfB (i0 := 0) (own := RX1) (T := TX1) (k := 5) (v := .int (q3.1 5)) hx hb htX1 hown hK hP rfl e1 rfl (by decide) (hW _ wd413) rfl dX1_rests_30 ?_
      refine lv_istore (lv' := [(4, .int (q3.1 5)), (3, .int (q3.1 4)), (0, .ref o_u), (1, .int x1), (2, .int x2)]) hx hb dX1_rests_33 hl (by decide) rfl (fun ls hl => ?_)
      refine lv_aload_n hx hb dX1_rests_35 rfl (lv_at hl 2 rfl) ?_
      refine lv_iload_n hx hb dX1_rests_36 rfl (lv_at hl 3 rfl) ?_
      obtain ⟨q4, hq4, hf⟩ := bnd hf
      have Jq4 : ∀ r4 : Bool, q4 = r4 → ∀ (H : Heap) (locs : List Loc) (ls : Array Slot), va_P D vwCl (List.flatten [w1 cs o_u a0n q3]) H → va_D A (List.flatten [w1 cs o_u a0n q3]) → va_S A s.heap H locs → lv_has ls 7 [(0, .ref o_u), (1, .int x1), (2, .int x2), (3, .int (q3.1 4)), (4, .int (q3.1 5))] → W p l e R s m args below meth c H locs 0 0 Q (F0 m 45 ls [.int (zB r4), .ref o_u]) := by
        intro r4 eq4 H locs ls hP hD hS hl
        subst eq4
        refine lv_iload_n hx hb dX1_rests_45 rfl (lv_at hl 2 rfl) ?_
        refine lv_iconst (v := 1) hx hb dX1_rests_46 (by decide) ?_
        obtain ⟨q5, hq5, hf⟩ := bnd hf
        have Jq5 : ∀ r5 : Bool, q5 = r5 → ∀ (H : Heap) (locs : List Loc) (ls : Array Slot), va_P D vwCl (List.flatten [w1 cs o_u a0n q3]) H → va_D A (List.flatten [w1 cs o_u a0n q3]) → va_S A s.heap H locs → lv_has ls 7 [(0, .ref o_u), (1, .int x1), (2, .int x2), (3, .int (q3.1 4)), (4, .int (q3.1 5))] → W p l e R s m args below meth c H locs 0 0 Q (F0 m 55 ls [.int (zB r5), .int (zB q4), .ref o_u]) := by
          intro r5 eq5 H locs ls hP hD hS hl
          subst eq5
          obtain ⟨q6, eq6, hf⟩ := bnd hf
          refine mcVv (rest := []) (Bn := [w1 cs o_u a0n q6]) (isR := []) (isC := [0]) (i0 := 0) ⟨hx, hb, hml, hown, hts⟩ hK hP hD hS hA hG (c1_play l D cs o_u q3 H.size q4 q5 _ eq6) (cwV 2 hts (gV wd1276 wd1278 wd37 wd115 wd1279) rfl rfl rfl (by decide +kernel) ⟨by rw [hR]; exact Nat.le_of_ble_eq_true rfl, by rw [hR]; exact Nat.le_of_ble_eq_true rfl⟩) 1 (by decide) rfl rfl rfl rfl rfl rfl rfl e1 rfl rfl rfl hl.1 rfl (Nat.le_of_ble_eq_true rfl) ⟨Nat.zero_le _, Nat.zero_le _⟩ dX1_rests_55 (fun H locs hP hD hS => ?_)
          refine lv_aload_n hx hb dX1_rests_58 rfl (lv_at hl 0 rfl) ?_
          refine gfB (i0 := 0) (own := RX1) (T := TX1) (k := 4) (v := .int (q6.1 4)) hx hb htX1 hown hK hP rfl e1 rfl (by decide) (hW _ wd412) rfl dX1_rests_59 ?_
          refine lv_istore (lv' := [(5, .int (q6.1 4)), (0, .ref o_u), (1, .int x1), (2, .int x2), (3, .int (q3.1 4)), (4, .int (q3.1 5))]) hx hb dX1_rests_62 hl (by decide) rfl (fun ls hl => ?_)
          refine lv_aload_n hx hb dX1_rests_64 rfl (lv_at hl 1 rfl) ?_
          refine lv_iload_n hx hb dX1_rests_65 rfl (lv_at hl 2 rfl) ?_
          refine lv_iconst (v := 1) hx hb dX1_rests_66 (by decide) ?_
          obtain ⟨q7, hq7, hf⟩ := bnd hf
          have Jq7 : ∀ r7 : Bool, q7 = r7 → ∀ (H : Heap) (locs : List Loc) (ls : Array Slot), va_P D vwCl (List.flatten [w1 cs o_u a0n q6]) H → va_D A (List.flatten [w1 cs o_u a0n q6]) → va_S A s.heap H locs → lv_has ls 7 [(0, .ref o_u), (2, .int x2), (3, .int (q3.1 4)), (4, .int (q3.1 5)), (5, .int (q6.1 4))] → W p l e R s m args below meth c H locs 0 0 Q (F0 m 75 ls [.int (zB r7), .ref o_u]) := by
            intro r7 eq7 H locs ls hP hD hS hl
            subst eq7
            refine lv_iload_n hx hb dX1_rests_75 rfl (lv_at hl 1 rfl) ?_
            obtain ⟨q8, hq8, hf⟩ := bnd hf
            have Jq8 : ∀ r8 : Bool, q8 = r8 → ∀ (H : Heap) (locs : List Loc) (ls : Array Slot), va_P D vwCl (List.flatten [w1 cs o_u a0n q6]) H → va_D A (List.flatten [w1 cs o_u a0n q6]) → va_S A s.heap H locs → lv_has ls 7 [(0, .ref o_u), (3, .int (q3.1 4)), (4, .int (q3.1 5)), (5, .int (q6.1 4))] → W p l e R s m args below meth c H locs 0 0 Q (F0 m 84 ls [.int (zB r8), .int (zB q7), .ref o_u]) := by
              intro r8 eq8 H locs ls hP hD hS hl
              subst eq8
              obtain ⟨q9, eq9, hf⟩ := bnd hf
              refine mcVv (rest := []) (Bn := [w1 cs o_u a0n q9]) (isR := []) (isC := [0]) (i0 := 0) ⟨hx, hb, hml, hown, hts⟩ hK hP hD hS hA hG (c1_play l D cs o_u q6 H.size q7 q8 _ eq9) (cwV 2 hts (gV wd1276 wd1278 wd37 wd115 wd1279) rfl rfl rfl (by decide +kernel) ⟨by rw [hR]; exact Nat.le_of_ble_eq_true rfl, by rw [hR]; exact Nat.le_of_ble_eq_true rfl⟩) 1 (by decide) rfl rfl rfl rfl rfl rfl rfl e1 rfl rfl rfl hl.1 rfl (Nat.le_of_ble_eq_true rfl) ⟨Nat.zero_le _, Nat.zero_le _⟩ dX1_rests_84 (fun H locs hP hD hS => ?_)
              refine lv_aload_n hx hb dX1_rests_87 rfl (lv_at hl 0 rfl) ?_
              refine gfB (i0 := 0) (own := RX1) (T := TX1) (k := 5) (v := .int (q9.1 5)) hx hb htX1 hown hK hP rfl e1 rfl (by decide) (hW _ wd413) rfl dX1_rests_88 ?_
              refine lv_istore (lv' := [(6, .int (q9.1 5)), (0, .ref o_u), (3, .int (q3.1 4)), (4, .int (q3.1 5)), (5, .int (q6.1 4))]) hx hb dX1_rests_91 hl (by decide) rfl (fun ls hl => ?_)
              refine lv_iload hx hb dX1_rests_93 (lv_at hl 4 rfl) ?_
              refine lv_iload_n hx hb dX1_rests_95 rfl (lv_at hl 2 rfl) ?_
              refine lv_icmp_gt (tgt := 110) hx hb dX1_rests_96 (by decide) (fun hc => ?_) (fun hc => ?_)
              · have hf := ifp hc hf
                refine lv_iconst (v := 0) hx hb dX1_rests_110 (by decide) ?_
                obtain rfl := Option.some.inj hf
                exact mretZ hx hb hr hlocks hK hP hD hS rfl hQ dX1_rests_111
              · have hf := ifn hc hf
                refine lv_iload hx hb dX1_rests_99 (lv_at hl 0 rfl) ?_
                refine lv_iload hx hb dX1_rests_101 (lv_at hl 3 rfl) ?_
                refine lv_icmp_gt (tgt := 110) hx hb dX1_rests_103 (by decide) (fun hc => ?_) (fun hc => ?_)
                · have hf := ifp hc hf
                  refine lv_iconst (v := 0) hx hb dX1_rests_110 (by decide) ?_
                  obtain rfl := Option.some.inj hf
                  exact mretZ hx hb hr hlocks hK hP hD hS rfl hQ dX1_rests_111
                · have hf := ifn hc hf
                  refine lv_iconst (v := 1) hx hb dX1_rests_106 (by decide) ?_
                  refine lv_goto (tgt := 111) hx hb dX1_rests_107 (by decide) ?_
                  obtain rfl := Option.some.inj hf
                  exact mretZ hx hb hr hlocks hK hP hD hS rfl hQ dX1_rests_111
            clear hf
            have hf := hq8
            refine lv_if_ne (tgt := 83) hx hb dX1_rests_76 (by decide) (fun hc => ?_) (fun hc => ?_)
            · have hf := ifn hc hf
              refine lv_iconst (v := 0) hx hb dX1_rests_83 (by decide) ?_
              exact Jq8 _ (Option.some.inj hf).symm _ _ _ hP hD hS (lv_sub hl [0, 2, 3, 4] rfl)
            · have hf := ifp hc hf
              refine lv_iconst (v := 1) hx hb dX1_rests_79 (by decide) ?_
              refine lv_goto (tgt := 84) hx hb dX1_rests_80 (by decide) ?_
              exact Jq8 _ (Option.some.inj hf).symm _ _ _ hP hD hS (lv_sub hl [0, 2, 3, 4] rfl)
          clear hf
          have hf := hq7
          refine lv_icmp_ne (tgt := 74) hx hb dX1_rests_67 (by decide) (fun hc => ?_) (fun hc => ?_)
          · have hf := ifn hc hf
            refine lv_iconst (v := 0) hx hb dX1_rests_74 (by decide) ?_
            exact Jq7 _ (Option.some.inj hf).symm _ _ _ hP hD hS (lv_sub hl [1, 3, 4, 5, 0] rfl)
          · have hf := ifp hc hf
            refine lv_iconst (v := 1) hx hb dX1_rests_70 (by decide) ?_
            refine lv_goto (tgt := 75) hx hb dX1_rests_71 (by decide) ?_
            exact Jq7 _ (Option.some.inj hf).symm _ _ _ hP hD hS (lv_sub hl [1, 3, 4, 5, 0] rfl)
        clear hf
        have hf := hq5
        refine lv_icmp_ne (tgt := 54) hx hb dX1_rests_47 (by decide) (fun hc => ?_) (fun hc => ?_)
        · have hf := ifn hc hf
          refine lv_iconst (v := 0) hx hb dX1_rests_54 (by decide) ?_
          exact Jq5 _ (Option.some.inj hf).symm _ _ _ hP hD hS (lv_sub hl [0, 1, 2, 3, 4] rfl)
        · have hf := ifp hc hf
          refine lv_iconst (v := 1) hx hb dX1_rests_50 (by decide) ?_
          refine lv_goto (tgt := 55) hx hb dX1_rests_51 (by decide) ?_
          exact Jq5 _ (Option.some.inj hf).symm _ _ _ hP hD hS (lv_sub hl [0, 1, 2, 3, 4] rfl)
      clear hf
      have hf := hq4
      refine lv_if_ne (tgt := 44) hx hb dX1_rests_37 (by decide) (fun hc => ?_) (fun hc => ?_)
      · have hf := ifn hc hf
        refine lv_iconst (v := 0) hx hb dX1_rests_44 (by decide) ?_
        exact Jq4 _ (Option.some.inj hf).symm _ _ _ hP hD hS (lv_sub hl [2, 3, 4, 1, 0] rfl)
      · have hf := ifp hc hf
        refine lv_iconst (v := 1) hx hb dX1_rests_40 (by decide) ?_
        refine lv_goto (tgt := 45) hx hb dX1_rests_41 (by decide) ?_
        exact Jq4 _ (Option.some.inj hf).symm _ _ _ hP hD hS (lv_sub hl [2, 3, 4, 1, 0] rfl)
    clear hf
    have hf := hq2
    refine lv_icmp_ne (tgt := 20) hx hb dX1_rests_13 (by decide) (fun hc => ?_) (fun hc => ?_)
    · have hf := ifn hc hf
      refine lv_iconst (v := 0) hx hb dX1_rests_20 (by decide) ?_
      exact Jq2 _ (Option.some.inj hf).symm _ _ _ hP hD hS (lv_sub hl [0, 1, 2] rfl)
    · have hf := ifp hc hf
      refine lv_iconst (v := 1) hx hb dX1_rests_16 (by decide) ?_
      refine lv_goto (tgt := 21) hx hb dX1_rests_17 (by decide) ?_
      exact Jq2 _ (Option.some.inj hf).symm _ _ _ hP hD hS (lv_sub hl [0, 1, 2] rfl)
  clear hf
  have hf := hq1
  refine lv_icmp_ne (tgt := 10) hx hb dX1_rests_3 (by decide) (fun hc => ?_) (fun hc => ?_)
  · have hf := ifn hc hf
    refine lv_iconst (v := 0) hx hb dX1_rests_10 (by decide) ?_
    exact Jq1 _ (Option.some.inj hf).symm _ _ _ hP hD hS (lv_sub hl [0, 1, 2] rfl)
  · have hf := ifp hc hf
    refine lv_iconst (v := 1) hx hb dX1_rests_6 (by decide) ?_
    refine lv_goto (tgt := 11) hx hb dX1_rests_7 (by decide) ?_
    exact Jq1 _ (Option.some.inj hf).symm _ _ _ hP hD hS (lv_sub hl [0, 1, 2] rfl)
/-! TwinLamps$Duel.restingCouples -/
noncomputable def f1_restingCouples_L3 (v2 : Int32 × Int32 × St) (v4 : Int32 × Int32 × St) : Option ((Int32 × Int32 × St) ⊕ (Int32 × St)) :=
  if (2 : Int32) ≤ v4.2.1 then some (.inr (v4.1, v4.2.2)) else (f1_rests v4.2.2 v2.2.1 v4.2.1).bind fun q5 =>
  ((if (zB q5.1) = 0 then some false else some true : Option (Bool))).bind fun q6 =>
  some (.inl ((v4.1 + (zB q6)), (v4.2.1 + 1), q5.2))
noncomputable def f1_restingCouples_L1  (v2 : Int32 × Int32 × St) : Option ((Int32 × Int32 × St) ⊕ (Int32 × St)) :=
  if (2 : Int32) ≤ v2.2.1 then some (.inr (v2.1, v2.2.2)) else (lpw (f1_restingCouples_L3 v2) (v2.1, 0, v2.2.2)).bind fun q3 =>
  some (.inl (q3.1, (v2.2.1 + 1), q3.2))
noncomputable def f1_restingCouples (s_u : St) : Option (Int32 × St) :=
  (lpw (f1_restingCouples_L1) (0, 0, s_u)).bind fun q1 =>
  some (q1.1, q1.2)
set_option maxHeartbeats 4000000 in
set_option maxRecDepth 100000 in
theorem c1_restingCouples (l : Launch) (D : va_G) (cs : xE) (o_u : Nat) (s_u : St) (sz : Nat) (res : Int32 × St) (hf : f1_restingCouples s_u = some res) : Met l yX1_restingCouples (Cond.code yX1_restingCouples cX1_restingCouples 4 (some .int) :: WG) { frames := 2, cells := 0, slots := 0, locals := 52 } (va_Pc [.ref o_u] (mP D cs (List.flatten [w1 cs o_u a0n s_u]) sz)) (qI D cs res.1 (List.flatten [w1 cs o_u a0n res.2]) (va_A (List.flatten [w1 cs o_u a0n s_u]) sz)) 0 0 (va_A (List.flatten [w1 cs o_u a0n s_u]) sz) := by
  refine mgo (Qc := qI D cs res.1 (List.flatten [w1 cs o_u a0n res.2])) (cc := cX1_restingCouples) (maxL := 4) (ret := (some .int)) (by decide) rfl (Nat.le_of_ble_eq_true rfl) ?_
  intro p e s m below meth c ls A R Q args H hR hQ hx hb hml hr hlocks hown hts hP hK hD hA hS hG hl
  have hown : s.vm.findClass RX1 = some m.cls := hown
  have hl : lv_has ls 4 [(0, .ref o_u)] := hl
  have hW : ∀ w ∈ WG, w.before args s = true := fun w h => hts w (List.mem_cons_of_mem _ h)
  unfold f1_restingCouples at hf
  refine lv_iconst (v := 0) hx hb dX1_restingCouples_0 (by decide) ?_
  refine lv_istore_n (lv' := [(1, .int 0), (0, .ref o_u)]) hx hb dX1_restingCouples_1 rfl hl (by decide) rfl (fun ls hl => ?_)
  refine lv_iconst (v := 0) hx hb dX1_restingCouples_2 (by decide) ?_
  refine lv_istore_n (lv' := [(2, .int 0), (1, .int 0), (0, .ref o_u)]) hx hb dX1_restingCouples_3 rfl hl (by decide) rfl (fun ls hl => ?_)
  obtain ⟨q1, hq1, hf⟩ := bnd hf
  obtain ⟨n1, hq1⟩ := lpw_ex hq1
  have Jq1_0 : ∀ rr1_0 : Int32 × St, q1 = rr1_0 → ∀ (H : Heap) (locs : List Loc) (ls : Array Slot), va_P D vwCl (List.flatten [w1 cs o_u a0n rr1_0.2]) H → va_D A (List.flatten [w1 cs o_u a0n rr1_0.2]) → va_S A s.heap H locs → lv_has ls 4 [(1, .int rr1_0.1)] → W p l e R s m args below meth c H locs 0 0 Q (F0 m 45 ls []) := by
    intro rr1_0 eq1 H locs ls hP hD hS hl
    subst eq1
    refine lv_iload_n hx hb dX1_restingCouples_45 rfl (lv_at hl 0 rfl) ?_
    obtain rfl := Option.some.inj hf
    exact mretI hx hb hr hlocks hK hP hD hS rfl hQ dX1_restingCouples_46
  clear hf
  have L1 : ∀ n1, ∀ v2 : Int32 × Int32 × St, lp n1 (f1_restingCouples_L1) v2 = some q1 → ∀ (H : Heap) (locs : List Loc) (ls : Array Slot), va_P D vwCl (List.flatten [w1 cs o_u a0n v2.2.2]) H → va_D A (List.flatten [w1 cs o_u a0n v2.2.2]) → va_S A s.heap H locs → lv_has ls 4 [(0, .ref o_u), (1, .int v2.1), (2, .int v2.2.1)] → W p l e R s m args below meth c H locs 0 0 Q (F0 m 4 ls []) := by
    intro n1
    induction n1 with
    | zero => intro v2 hn; cases hn
    | succ n1 ih1 =>
      intro v2 hn1 H locs ls hP hD hS hl
      obtain ⟨y1, hf, hn1⟩ := lp_succ hn1
      unfold f1_restingCouples_L1 at hf
      refine lv_iload_n hx hb dX1_restingCouples_4 rfl (lv_at hl 2 rfl) ?_
      refine lv_iconst (v := 2) hx hb dX1_restingCouples_5 (by decide) ?_
      refine lv_icmp_ge (tgt := 45) hx hb dX1_restingCouples_6 (by decide) (fun hc => ?_) (fun hc => ?_)
      · have hf := ifp hc hf
        cases hf
        exact Jq1_0 _ (Option.some.inj hn1).symm _ _ _ hP hD hS (lv_sub hl [1] rfl)
      · have hf := ifn hc hf
        refine lv_iconst (v := 0) hx hb dX1_restingCouples_9 (by decide) ?_
        refine lv_istore_n (lv' := [(3, .int 0), (0, .ref o_u), (1, .int v2.1), (2, .int v2.2.1)]) hx hb dX1_restingCouples_10 rfl hl (by decide) rfl (fun ls hl => ?_)
        obtain ⟨q3, hq3, hf⟩ := bnd hf
        obtain ⟨n3, hq3⟩ := lpw_ex hq3
        have Jq3_0 : ∀ rr3_0 : Int32 × St, q3 = rr3_0 → ∀ (H : Heap) (locs : List Loc) (ls : Array Slot), va_P D vwCl (List.flatten [w1 cs o_u a0n rr3_0.2]) H → va_D A (List.flatten [w1 cs o_u a0n rr3_0.2]) → va_S A s.heap H locs → lv_has ls 4 [(0, .ref o_u), (1, .int rr3_0.1), (2, .int v2.2.1)] → W p l e R s m args below meth c H locs 0 0 Q (F0 m 39 ls []) := by
          intro rr3_0 eq3 H locs ls hP hD hS hl
          subst eq3
          refine lv_iinc (v := (v2.2.1 + 1)) (lv' := [(2, .int (v2.2.1 + 1)), (0, .ref o_u), (1, .int q3.1)]) hx hb dX1_restingCouples_39 hl (k := 2) rfl rfl (by decide) rfl (fun ls hl => ?_)
          refine lv_goto (tgt := 4) hx hb dX1_restingCouples_42 (by decide) ?_
          cases hf
          exact ih1 _ hn1 _ _ _ hP hD hS (lv_sub hl [1, 2, 0] rfl)
        clear hf
        have L3 : ∀ n3, ∀ v4 : Int32 × Int32 × St, lp n3 (f1_restingCouples_L3 v2) v4 = some q3 → ∀ (H : Heap) (locs : List Loc) (ls : Array Slot), va_P D vwCl (List.flatten [w1 cs o_u a0n v4.2.2]) H → va_D A (List.flatten [w1 cs o_u a0n v4.2.2]) → va_S A s.heap H locs → lv_has ls 4 [(0, .ref o_u), (1, .int v4.1), (2, .int v2.2.1), (3, .int v4.2.1)] → W p l e R s m args below meth c H locs 0 0 Q (F0 m 11 ls []) := by
          intro n3
          induction n3 with
          | zero => intro v4 hn; cases hn
          | succ n3 ih3 =>
            intro v4 hn3 H locs ls hP hD hS hl
            obtain ⟨y3, hf, hn3⟩ := lp_succ hn3
            unfold f1_restingCouples_L3 at hf
            refine lv_iload_n hx hb dX1_restingCouples_11 rfl (lv_at hl 3 rfl) ?_
            refine lv_iconst (v := 2) hx hb dX1_restingCouples_12 (by decide) ?_
            refine lv_icmp_ge (tgt := 39) hx hb dX1_restingCouples_13 (by decide) (fun hc => ?_) (fun hc => ?_)
            · have hf := ifp hc hf
              cases hf
              exact Jq3_0 _ (Option.some.inj hn3).symm _ _ _ hP hD hS (lv_sub hl [0, 1, 2] rfl)
            · have hf := ifn hc hf
              refine lv_iload_n hx hb dX1_restingCouples_16 rfl (lv_at hl 1 rfl) ?_
              refine lv_aload_n hx hb dX1_restingCouples_17 rfl (lv_at hl 0 rfl) ?_
              refine lv_iload_n hx hb dX1_restingCouples_18 rfl (lv_at hl 2 rfl) ?_
              refine lv_iload_n hx hb dX1_restingCouples_19 rfl (lv_at hl 3 rfl) ?_
              obtain ⟨q5, eq5, hf⟩ := bnd hf
              refine mcVi (v := (zB q5.1)) (rest := [.int v4.1]) (Bn := [w1 cs o_u a0n q5.2]) (isR := []) (isC := [0]) (i0 := 0) ⟨hx, hb, hml, hown, hts⟩ hK hP hD hS hA hG (c1_rests l D cs o_u v4.2.2 H.size v2.2.1 v4.2.1 _ eq5) (cwV 2 hts (gV wd1272 wd1274 wd36 wd115 wd1275) rfl rfl rfl (by decide +kernel) ⟨by rw [hR]; exact Nat.le_of_ble_eq_true rfl, by rw [hR]; exact Nat.le_of_ble_eq_true rfl⟩) 1 (by decide) rfl rfl rfl rfl rfl rfl rfl e1 rfl rfl rfl hl.1 rfl (Nat.le_of_ble_eq_true rfl) ⟨Nat.zero_le _, Nat.zero_le _⟩ dX1_restingCouples_20 (fun H locs hP hD hS => ?_)
              obtain ⟨q6, hq6, hf⟩ := bnd hf
              have Jq6 : ∀ r6 : Bool, q6 = r6 → ∀ (H : Heap) (locs : List Loc) (ls : Array Slot), va_P D vwCl (List.flatten [w1 cs o_u a0n q5.2]) H → va_D A (List.flatten [w1 cs o_u a0n q5.2]) → va_S A s.heap H locs → lv_has ls 4 [(0, .ref o_u), (2, .int v2.2.1), (3, .int v4.2.1)] → W p l e R s m args below meth c H locs 0 0 Q (F0 m 31 ls [.int (zB r6), .int v4.1]) := by
                intro r6 eq6 H locs ls hP hD hS hl
                subst eq6
                refine lv_iadd hx hb dX1_restingCouples_31 ?_
                refine lv_istore_n (lv' := [(1, .int (v4.1 + (zB q6))), (0, .ref o_u), (2, .int v2.2.1), (3, .int v4.2.1)]) hx hb dX1_restingCouples_32 rfl hl (by decide) rfl (fun ls hl => ?_)
                refine lv_iinc (v := (v4.2.1 + 1)) (lv' := [(3, .int (v4.2.1 + 1)), (1, .int (v4.1 + (zB q6))), (0, .ref o_u), (2, .int v2.2.1)]) hx hb dX1_restingCouples_33 hl (k := 3) rfl rfl (by decide) rfl (fun ls hl => ?_)
                refine lv_goto (tgt := 11) hx hb dX1_restingCouples_36 (by decide) ?_
                cases hf
                exact ih3 _ hn3 _ _ _ hP hD hS (lv_sub hl [2, 1, 3, 0] rfl)
              clear hf
              have hf := hq6
              refine lv_if_eq (tgt := 30) hx hb dX1_restingCouples_23 (by decide) (fun hc => ?_) (fun hc => ?_)
              · have hf := ifp hc hf
                refine lv_iconst (v := 0) hx hb dX1_restingCouples_30 (by decide) ?_
                exact Jq6 _ (Option.some.inj hf).symm _ _ _ hP hD hS (lv_sub hl [0, 2, 3] rfl)
              · have hf := ifn hc hf
                refine lv_iconst (v := 1) hx hb dX1_restingCouples_26 (by decide) ?_
                refine lv_goto (tgt := 31) hx hb dX1_restingCouples_27 (by decide) ?_
                exact Jq6 _ (Option.some.inj hf).symm _ _ _ hP hD hS (lv_sub hl [0, 2, 3] rfl)
        exact L3 _ _ hq3 _ _ _ hP hD hS (lv_sub hl [1, 2, 3, 0] rfl)
  exact L1 _ _ hq1 _ _ _ hP hD hS (lv_sub hl [2, 1, 0] rfl)
/-! TwinLamps$Duel.firstRestingCouple -/
noncomputable def f1_firstRestingCouple_L3 (v2 : Int32 × St) (v4 : Int32 × St) : Option ((Int32 × St) ⊕ ((Int32 × St) ⊕ (St))) :=
  if (2 : Int32) ≤ v4.1 then some (.inr (.inr v4.2)) else (f1_rests v4.2 v2.1 v4.1).bind fun q5 =>
  if (zB q5.1) = 0 then some (.inl ((v4.1 + 1), q5.2)) else some (.inr (.inl (v4.1, q5.2)))
noncomputable def f1_firstRestingCouple_L1  (v2 : Int32 × St) : Option ((Int32 × St) ⊕ ((Int32 × Int32 × St) ⊕ (St))) :=
  if (2 : Int32) ≤ v2.1 then some (.inr (.inr v2.2)) else (lpw (f1_firstRestingCouple_L3 v2) (0, v2.2)).bind fun q3 =>
  match q3 with
  | .inl r3_0 => (some (.inr (.inl (v2.1, r3_0.1, r3_0.2))))
  | .inr r3_1 => (some (.inl ((v2.1 + 1), r3_1)))
noncomputable def f1_firstRestingCouple (s_u : St) : Option (Int32 × St) :=
  (lpw (f1_firstRestingCouple_L1) (0, s_u)).bind fun q1 =>
  match q1 with
  | .inl r1_0 => (some ((((10 : Int32) * r1_0.1) + r1_0.2.1), r1_0.2.2))
  | .inr r1_1 => (some ((-1), r1_1))
set_option maxHeartbeats 4000000 in
set_option maxRecDepth 100000 in
theorem c1_firstRestingCouple (l : Launch) (D : va_G) (cs : xE) (o_u : Nat) (s_u : St) (sz : Nat) (res : Int32 × St) (hf : f1_firstRestingCouple s_u = some res) : Met l yX1_firstRestingCouple (Cond.code yX1_firstRestingCouple cX1_firstRestingCouple 3 (some .int) :: WG) { frames := 2, cells := 0, slots := 0, locals := 52 } (va_Pc [.ref o_u] (mP D cs (List.flatten [w1 cs o_u a0n s_u]) sz)) (qI D cs res.1 (List.flatten [w1 cs o_u a0n res.2]) (va_A (List.flatten [w1 cs o_u a0n s_u]) sz)) 0 0 (va_A (List.flatten [w1 cs o_u a0n s_u]) sz) := by
  refine mgo (Qc := qI D cs res.1 (List.flatten [w1 cs o_u a0n res.2])) (cc := cX1_firstRestingCouple) (maxL := 3) (ret := (some .int)) (by decide) rfl (Nat.le_of_ble_eq_true rfl) ?_
  intro p e s m below meth c ls A R Q args H hR hQ hx hb hml hr hlocks hown hts hP hK hD hA hS hG hl
  have hown : s.vm.findClass RX1 = some m.cls := hown
  have hl : lv_has ls 3 [(0, .ref o_u)] := hl
  have hW : ∀ w ∈ WG, w.before args s = true := fun w h => hts w (List.mem_cons_of_mem _ h)
  unfold f1_firstRestingCouple at hf
  refine lv_iconst (v := 0) hx hb dX1_firstRestingCouple_0 (by decide) ?_
  refine lv_istore_n (lv' := [(1, .int 0), (0, .ref o_u)]) hx hb dX1_firstRestingCouple_1 rfl hl (by decide) rfl (fun ls hl => ?_)
  obtain ⟨q1, hq1, hf⟩ := bnd hf
  obtain ⟨n1, hq1⟩ := lpw_ex hq1
  have Jq1_0 : ∀ rr1_0 : Int32 × Int32 × St, q1 = (.inl rr1_0) → ∀ (H : Heap) (locs : List Loc) (ls : Array Slot), va_P D vwCl (List.flatten [w1 cs o_u a0n rr1_0.2.2]) H → va_D A (List.flatten [w1 cs o_u a0n rr1_0.2.2]) → va_S A s.heap H locs → lv_has ls 3 [(1, .int rr1_0.1), (2, .int rr1_0.2.1)] → W p l e R s m args below meth c H locs 0 0 Q (F0 m 23 ls []) := by
    intro r1_0 eq1 H locs ls hP hD hS hl
    subst eq1
    try dsimp only at hf
    refine lv_bipush (v := 10) hx hb dX1_firstRestingCouple_23 (by decide) ?_
    refine lv_iload_n hx hb dX1_firstRestingCouple_25 rfl (lv_at hl 0 rfl) ?_
    refine lv_imul hx hb dX1_firstRestingCouple_26 ?_
    refine lv_iload_n hx hb dX1_firstRestingCouple_27 rfl (lv_at hl 1 rfl) ?_
    refine lv_iadd hx hb dX1_firstRestingCouple_28 ?_
    obtain rfl := Option.some.inj hf
    exact mretI hx hb hr hlocks hK hP hD hS rfl hQ dX1_firstRestingCouple_29
  have Jq1_1 : ∀ rr1_1 : St, q1 = (.inr rr1_1) → ∀ (H : Heap) (locs : List Loc) (ls : Array Slot), va_P D vwCl (List.flatten [w1 cs o_u a0n rr1_1]) H → va_D A (List.flatten [w1 cs o_u a0n rr1_1]) → va_S A s.heap H locs → lv_has ls 3 [] → W p l e R s m args below meth c H locs 0 0 Q (F0 m 42 ls []) := by
    intro r1_1 eq1 H locs ls hP hD hS hl
    subst eq1
    try dsimp only at hf
    refine lv_iconst (v := (-1)) hx hb dX1_firstRestingCouple_42 (by decide) ?_
    obtain rfl := Option.some.inj hf
    exact mretI hx hb hr hlocks hK hP hD hS rfl hQ dX1_firstRestingCouple_43
  clear hf
  have L1 : ∀ n1, ∀ v2 : Int32 × St, lp n1 (f1_firstRestingCouple_L1) v2 = some q1 → ∀ (H : Heap) (locs : List Loc) (ls : Array Slot), va_P D vwCl (List.flatten [w1 cs o_u a0n v2.2]) H → va_D A (List.flatten [w1 cs o_u a0n v2.2]) → va_S A s.heap H locs → lv_has ls 3 [(0, .ref o_u), (1, .int v2.1)] → W p l e R s m args below meth c H locs 0 0 Q (F0 m 2 ls []) := by
    intro n1
    induction n1 with
    | zero => intro v2 hn; cases hn
    | succ n1 ih1 =>
      intro v2 hn1 H locs ls hP hD hS hl
      obtain ⟨y1, hf, hn1⟩ := lp_succ hn1
      unfold f1_firstRestingCouple_L1 at hf
      refine lv_iload_n hx hb dX1_firstRestingCouple_2 rfl (lv_at hl 1 rfl) ?_
      refine lv_iconst (v := 2) hx hb dX1_firstRestingCouple_3 (by decide) ?_
      refine lv_icmp_ge (tgt := 42) hx hb dX1_firstRestingCouple_4 (by decide) (fun hc => ?_) (fun hc => ?_)
      · have hf := ifp hc hf
        cases hf
        exact Jq1_1 _ (Option.some.inj hn1).symm _ _ _ hP hD hS (lv_sub hl [] rfl)
      · have hf := ifn hc hf
        refine lv_iconst (v := 0) hx hb dX1_firstRestingCouple_7 (by decide) ?_
        refine lv_istore_n (lv' := [(2, .int 0), (0, .ref o_u), (1, .int v2.1)]) hx hb dX1_firstRestingCouple_8 rfl hl (by decide) rfl (fun ls hl => ?_)
        obtain ⟨q3, hq3, hf⟩ := bnd hf
        obtain ⟨n3, hq3⟩ := lpw_ex hq3
        have Jq3_0 : ∀ rr3_0 : Int32 × St, q3 = (.inl rr3_0) → ∀ (H : Heap) (locs : List Loc) (ls : Array Slot), va_P D vwCl (List.flatten [w1 cs o_u a0n rr3_0.2]) H → va_D A (List.flatten [w1 cs o_u a0n rr3_0.2]) → va_S A s.heap H locs → lv_has ls 3 [(1, .int v2.1), (2, .int rr3_0.1)] → W p l e R s m args below meth c H locs 0 0 Q (F0 m 23 ls []) := by
          intro r3_0 eq3 H locs ls hP hD hS hl
          subst eq3
          try dsimp only at hf
          cases hf
          exact Jq1_0 _ (Option.some.inj hn1).symm _ _ _ hP hD hS (lv_sub hl [0, 1] rfl)
        have Jq3_1 : ∀ rr3_1 : St, q3 = (.inr rr3_1) → ∀ (H : Heap) (locs : List Loc) (ls : Array Slot), va_P D vwCl (List.flatten [w1 cs o_u a0n rr3_1]) H → va_D A (List.flatten [w1 cs o_u a0n rr3_1]) → va_S A s.heap H locs → lv_has ls 3 [(0, .ref o_u), (1, .int v2.1)] → W p l e R s m args below meth c H locs 0 0 Q (F0 m 36 ls []) := by
          intro r3_1 eq3 H locs ls hP hD hS hl
          subst eq3
          try dsimp only at hf
          refine lv_iinc (v := (v2.1 + 1)) (lv' := [(1, .int (v2.1 + 1)), (0, .ref o_u)]) hx hb dX1_firstRestingCouple_36 hl (k := 1) rfl rfl (by decide) rfl (fun ls hl => ?_)
          refine lv_goto (tgt := 2) hx hb dX1_firstRestingCouple_39 (by decide) ?_
          cases hf
          exact ih1 _ hn1 _ _ _ hP hD hS (lv_sub hl [1, 0] rfl)
        clear hf
        have L3 : ∀ n3, ∀ v4 : Int32 × St, lp n3 (f1_firstRestingCouple_L3 v2) v4 = some q3 → ∀ (H : Heap) (locs : List Loc) (ls : Array Slot), va_P D vwCl (List.flatten [w1 cs o_u a0n v4.2]) H → va_D A (List.flatten [w1 cs o_u a0n v4.2]) → va_S A s.heap H locs → lv_has ls 3 [(0, .ref o_u), (1, .int v2.1), (2, .int v4.1)] → W p l e R s m args below meth c H locs 0 0 Q (F0 m 9 ls []) := by
          intro n3
          induction n3 with
          | zero => intro v4 hn; cases hn
          | succ n3 ih3 =>
            intro v4 hn3 H locs ls hP hD hS hl
            obtain ⟨y3, hf, hn3⟩ := lp_succ hn3
            unfold f1_firstRestingCouple_L3 at hf
            refine lv_iload_n hx hb dX1_firstRestingCouple_9 rfl (lv_at hl 2 rfl) ?_
            refine lv_iconst (v := 2) hx hb dX1_firstRestingCouple_10 (by decide) ?_
            refine lv_icmp_ge (tgt := 36) hx hb dX1_firstRestingCouple_11 (by decide) (fun hc => ?_) (fun hc => ?_)
            · have hf := ifp hc hf
              cases hf
              exact Jq3_1 _ (Option.some.inj hn3).symm _ _ _ hP hD hS (lv_sub hl [0, 1] rfl)
            · have hf := ifn hc hf
              refine lv_aload_n hx hb dX1_firstRestingCouple_14 rfl (lv_at hl 0 rfl) ?_
              refine lv_iload_n hx hb dX1_firstRestingCouple_15 rfl (lv_at hl 1 rfl) ?_
              refine lv_iload_n hx hb dX1_firstRestingCouple_16 rfl (lv_at hl 2 rfl) ?_
              obtain ⟨q5, eq5, hf⟩ := bnd hf
              refine mcVi (v := (zB q5.1)) (rest := []) (Bn := [w1 cs o_u a0n q5.2]) (isR := []) (isC := [0]) (i0 := 0) ⟨hx, hb, hml, hown, hts⟩ hK hP hD hS hA hG (c1_rests l D cs o_u v4.2 H.size v2.1 v4.1 _ eq5) (cwV 2 hts (gV wd1272 wd1274 wd36 wd115 wd1275) rfl rfl rfl (by decide +kernel) ⟨by rw [hR]; exact Nat.le_of_ble_eq_true rfl, by rw [hR]; exact Nat.le_of_ble_eq_true rfl⟩) 1 (by decide) rfl rfl rfl rfl rfl rfl rfl e1 rfl rfl rfl hl.1 rfl (Nat.le_of_ble_eq_true rfl) ⟨Nat.zero_le _, Nat.zero_le _⟩ dX1_firstRestingCouple_17 (fun H locs hP hD hS => ?_)
              refine lv_if_eq (tgt := 30) hx hb dX1_firstRestingCouple_20 (by decide) (fun hc => ?_) (fun hc => ?_)
              · have hf := ifp hc hf
                refine lv_iinc (v := (v4.1 + 1)) (lv' := [(2, .int (v4.1 + 1)), (0, .ref o_u), (1, .int v2.1)]) hx hb dX1_firstRestingCouple_30 hl (k := 2) rfl rfl (by decide) rfl (fun ls hl => ?_)
                refine lv_goto (tgt := 9) hx hb dX1_firstRestingCouple_33 (by decide) ?_
                cases hf
                exact ih3 _ hn3 _ _ _ hP hD hS (lv_sub hl [1, 2, 0] rfl)
              · have hf := ifn hc hf
                cases hf
                exact Jq3_0 _ (Option.some.inj hn3).symm _ _ _ hP hD hS (lv_sub hl [1, 2] rfl)
        exact L3 _ _ hq3 _ _ _ hP hD hS (lv_sub hl [1, 2, 0] rfl)
  exact L1 _ _ hq1 _ _ _ hP hD hS (lv_sub hl [1, 0] rfl)
/-! TwinLamps$Dice.draw -/
noncomputable def f0_draw (s_d : St) (x1 : Int32) : Option (Int32 × St) :=
  (some (sS s_d 0 (((s_d.1 0) * 1103515245) + 12345))).bind fun s1 =>
  if (1 : Int32) ≤ x1 then ((rmO (((s1.1 0) >>> (16 &&& 31)) &&& 32767) x1).bind fun q2 =>
  some (q2, s1))
  else some (0, s1)
set_option maxHeartbeats 4000000 in
set_option maxRecDepth 100000 in
theorem c0_draw (l : Launch) (D : va_G) (cs : xE) (o_d : Nat) (s_d : St) (sz : Nat) (x1 : Int32) (res : Int32 × St) (hf : f0_draw s_d x1 = some res) : Met l yX0_draw (Cond.code yX0_draw cX0_draw 2 (some .int) :: WG) { frames := 0, cells := 0, slots := 0, locals := 0 } (va_Pc [.ref o_d, .int x1] (mP D cs (List.flatten [w0 cs o_d a0n s_d]) sz)) (qI D cs res.1 (List.flatten [w0 cs o_d a0n res.2]) (va_A (List.flatten [w0 cs o_d a0n s_d]) sz)) 0 0 (va_A (List.flatten [w0 cs o_d a0n s_d]) sz) := by
  refine mgo (Qc := qI D cs res.1 (List.flatten [w0 cs o_d a0n res.2])) (cc := cX0_draw) (maxL := 2) (ret := (some .int)) (by decide) rfl (Nat.le_of_ble_eq_true rfl) ?_
  intro p e s m below meth c ls A R Q args H hR hQ hx hb hml hr hlocks hown hts hP hK hD hA hS hG hl
  have hown : s.vm.findClass RX0 = some m.cls := hown
  have hl : lv_has ls 2 [(0, .ref o_d), (1, .int x1)] := hl
  have hW : ∀ w ∈ WG, w.before args s = true := fun w h => hts w (List.mem_cons_of_mem _ h)
  have htX0 : ∀ w ∈ u_ws RX0 TX0 1, w.before args s = true := fun w h => hW w (inW_X0 w h)
  unfold f0_draw at hf
  refine lv_aload_n hx hb dX0_draw_0 rfl (lv_at hl 0 rfl) ?_
  refine lv_aload_n hx hb dX0_draw_1 rfl (lv_at hl 0 rfl) ?_
  refine gfB (i0 := 0) (own := RX0) (T := TX0) (k := 0) (v := .int (s_d.1 0)) hx hb htX0 hown hK hP rfl e0 rfl (by decide) (hW _ wd393) rfl dX0_draw_2 ?_
  refine lv_ldc (v := 1103515245) hx hb hown (hW _ wd1300) dX0_draw_5 ?_
  refine lv_imul hx hb dX0_draw_7 ?_
  refine lv_sipush (v := 12345) hx hb dX0_draw_8 (by decide) ?_
  refine lv_iadd hx hb dX0_draw_11 ?_
  obtain ⟨s1, es1, hf⟩ := bnd hf
  replace es1 := Option.some.inj es1
  refine pfB (i0 := 0) (own := RX0) (T := TX0) (k := 0) (Bn := [w0 cs o_d a0n s1]) tyX0 tyX0_ok nmX0 hx hb htX0 hown hK hP hD hS rfl e0 rfl (by decide) (hW _ wd393) rfl rfl rfl (Nat.le_of_ble_eq_true rfl) dX0_draw_12 (by rw [← es1]; exact u0_0) rfl (fun H locs hP hD hS => ?_)
  refine lv_iload_n hx hb dX0_draw_15 rfl (lv_at hl 1 rfl) ?_
  refine lv_iconst (v := 1) hx hb dX0_draw_16 (by decide) ?_
  refine lv_icmp_ge (tgt := 24) hx hb dX0_draw_17 (by decide) (fun hc => ?_) (fun hc => ?_)
  · have hf := ifp hc hf
    refine lv_aload_n hx hb dX0_draw_24 rfl (lv_at hl 0 rfl) ?_
    refine gfB (i0 := 0) (own := RX0) (T := TX0) (k := 0) (v := .int (s1.1 0)) hx hb htX0 hown hK hP rfl e0 rfl (by decide) (hW _ wd393) rfl dX0_draw_25 ?_
    refine lv_bipush (v := 16) hx hb dX0_draw_28 (by decide) ?_
    refine lv_ishr hx hb dX0_draw_30 ?_
    refine lv_sipush (v := 32767) hx hb dX0_draw_31 (by decide) ?_
    refine lv_iand hx hb dX0_draw_34 ?_
    refine lv_iload_n hx hb dX0_draw_35 rfl (lv_at hl 1 rfl) ?_
    obtain ⟨q2, eq2, hf⟩ := bnd hf
    obtain ⟨gq2, eq2⟩ := rmO_e eq2
    refine lv_irem hx hb dX0_draw_36 gq2 ?_
    refine lv_nm eq2 ?_
    obtain rfl := Option.some.inj hf
    exact mretI hx hb hr hlocks hK hP hD hS rfl hQ dX0_draw_37
  · have hf := ifn hc hf
    refine lv_iconst (v := 0) hx hb dX0_draw_20 (by decide) ?_
    refine lv_goto (tgt := 37) hx hb dX0_draw_21 (by decide) ?_
    obtain rfl := Option.some.inj hf
    exact mretI hx hb hr hlocks hK hP hD hS rfl hQ dX0_draw_37
/-! TwinLamps$Town.clear -/
noncomputable def f9_clear (s_t : St) : Option (St) :=
  (some (sS s_t 0 0)).bind fun s1 =>
  (some (sS s1 1 0)).bind fun s2 =>
  (some (sS s2 2 0)).bind fun s3 =>
  (some (sS s3 3 0)).bind fun s4 =>
  (some (sS s4 4 0)).bind fun s5 =>
  some s5
set_option maxHeartbeats 4000000 in
set_option maxRecDepth 100000 in
theorem c9_clear (l : Launch) (D : va_G) (cs : xE) (o_t : Nat) (a_t : Nat → Nat) (s_t : St) (sz : Nat) (res : St) (hf : f9_clear s_t = some res) : Met l yX9_clear (Cond.code yX9_clear cX9_clear 1 none :: WG) { frames := 0, cells := 0, slots := 0, locals := 0 } (va_Pc [.ref o_t] (mP D cs (List.flatten [w9 cs o_t a_t s_t]) sz)) (qV D cs (List.flatten [w9 cs o_t a_t res]) (va_A (List.flatten [w9 cs o_t a_t s_t]) sz)) 0 0 (va_A (List.flatten [w9 cs o_t a_t s_t]) sz) := by
  refine mgo (Qc := qV D cs (List.flatten [w9 cs o_t a_t res])) (cc := cX9_clear) (maxL := 1) (ret := none) (by decide) rfl (Nat.le_of_ble_eq_true rfl) ?_
  intro p e s m below meth c ls A R Q args H hR hQ hx hb hml hr hlocks hown hts hP hK hD hA hS hG hl
  have hown : s.vm.findClass RX9 = some m.cls := hown
  have hl : lv_has ls 1 [(0, .ref o_t)] := hl
  have hW : ∀ w ∈ WG, w.before args s = true := fun w h => hts w (List.mem_cons_of_mem _ h)
  have htX9 : ∀ w ∈ u_ws RX9 TX9 11, w.before args s = true := fun w h => hW w (inW_X9 w h)
  unfold f9_clear at hf
  refine lv_aload_n hx hb dX9_clear_0 rfl (lv_at hl 0 rfl) ?_
  refine lv_iconst (v := 0) hx hb dX9_clear_1 (by decide) ?_
  obtain ⟨s1, es1, hf⟩ := bnd hf
  replace es1 := Option.some.inj es1
  refine pfB (i0 := 0) (own := RX9) (T := TX9) (k := 0) (Bn := [w9 cs o_t a_t s1]) tyX9 tyX9_ok nmX9 hx hb htX9 hown hK hP hD hS rfl e9 rfl (by decide) (hW _ wd149) rfl rfl rfl (Nat.le_of_ble_eq_true rfl) dX9_clear_2 (by rw [← es1]; exact u9_0) rfl (fun H locs hP hD hS => ?_)
  refine lv_aload_n hx hb dX9_clear_5 rfl (lv_at hl 0 rfl) ?_
  refine lv_iconst (v := 0) hx hb dX9_clear_6 (by decide) ?_
  obtain ⟨s2, es2, hf⟩ := bnd hf
  replace es2 := Option.some.inj es2
  refine pfB (i0 := 0) (own := RX9) (T := TX9) (k := 1) (Bn := [w9 cs o_t a_t s2]) tyX9 tyX9_ok nmX9 hx hb htX9 hown hK hP hD hS rfl e9 rfl (by decide) (hW _ wd152) rfl rfl rfl (Nat.le_of_ble_eq_true rfl) dX9_clear_7 (by rw [← es2]; exact u9_1) rfl (fun H locs hP hD hS => ?_)
  refine lv_aload_n hx hb dX9_clear_10 rfl (lv_at hl 0 rfl) ?_
  refine lv_iconst (v := 0) hx hb dX9_clear_11 (by decide) ?_
  obtain ⟨s3, es3, hf⟩ := bnd hf
  replace es3 := Option.some.inj es3
  refine pfB (i0 := 0) (own := RX9) (T := TX9) (k := 2) (Bn := [w9 cs o_t a_t s3]) tyX9 tyX9_ok nmX9 hx hb htX9 hown hK hP hD hS rfl e9 rfl (by decide) (hW _ wd157) rfl rfl rfl (Nat.le_of_ble_eq_true rfl) dX9_clear_12 (by rw [← es3]; exact u9_2) rfl (fun H locs hP hD hS => ?_)
  refine lv_aload_n hx hb dX9_clear_15 rfl (lv_at hl 0 rfl) ?_
  refine lv_iconst (v := 0) hx hb dX9_clear_16 (by decide) ?_
  obtain ⟨s4, es4, hf⟩ := bnd hf
  replace es4 := Option.some.inj es4
  refine pfB (i0 := 0) (own := RX9) (T := TX9) (k := 3) (Bn := [w9 cs o_t a_t s4]) tyX9 tyX9_ok nmX9 hx hb htX9 hown hK hP hD hS rfl e9 rfl (by decide) (hW _ wd160) rfl rfl rfl (Nat.le_of_ble_eq_true rfl) dX9_clear_17 (by rw [← es4]; exact u9_3) rfl (fun H locs hP hD hS => ?_)
  refine lv_aload_n hx hb dX9_clear_20 rfl (lv_at hl 0 rfl) ?_
  refine lv_iconst (v := 0) hx hb dX9_clear_21 (by decide) ?_
  obtain ⟨s5, es5, hf⟩ := bnd hf
  replace es5 := Option.some.inj es5
  refine pfB (i0 := 0) (own := RX9) (T := TX9) (k := 4) (Bn := [w9 cs o_t a_t s5]) tyX9 tyX9_ok nmX9 hx hb htX9 hown hK hP hD hS rfl e9 rfl (by decide) (hW _ wd163) rfl rfl rfl (Nat.le_of_ble_eq_true rfl) dX9_clear_22 (by rw [← es5]; exact u9_4) rfl (fun H locs hP hD hS => ?_)
  obtain rfl := Option.some.inj hf
  exact mretV hx hb hr hlocks hK hP hD hS hQ dX9_clear_25
/-! TwinLamps$Town.addHouse -/
noncomputable def f9_addHouse (s_t : St) (x1 : Int32) (x2 : Int32) (x3 : Int32) : Option (St) :=
  ((if (8 : Int32) ≤ (s_t.1 0) then some s_t else (stS 8 s_t 5 (s_t.1 0) x1).bind fun s2 =>
  (stS 8 s2 6 (s2.1 0) x2).bind fun s3 =>
  (stS 8 s3 7 (s3.1 0) x3).bind fun s4 =>
  (some (sS s4 0 ((s4.1 0) + 1))).bind fun s5 =>
  some s5 : Option (St))).bind fun q1 =>
  some q1
set_option maxHeartbeats 4000000 in
set_option maxRecDepth 100000 in
theorem c9_addHouse (l : Launch) (D : va_G) (cs : xE) (o_t : Nat) (a_t : Nat → Nat) (s_t : St) (sz : Nat) (x1 : Int32) (x2 : Int32) (x3 : Int32) (res : St) (hf : f9_addHouse s_t x1 x2 x3 = some res) : Met l yX9_addHouse (Cond.code yX9_addHouse cX9_addHouse 4 none :: WG) { frames := 0, cells := 0, slots := 0, locals := 0 } (va_Pc [.ref o_t, .int x1, .int x2, .int x3] (mP D cs (List.flatten [w9 cs o_t a_t s_t]) sz)) (qV D cs (List.flatten [w9 cs o_t a_t res]) (va_A (List.flatten [w9 cs o_t a_t s_t]) sz)) 0 0 (va_A (List.flatten [w9 cs o_t a_t s_t]) sz) := by
  refine mgo (Qc := qV D cs (List.flatten [w9 cs o_t a_t res])) (cc := cX9_addHouse) (maxL := 4) (ret := none) (by decide) rfl (Nat.le_of_ble_eq_true rfl) ?_
  intro p e s m below meth c ls A R Q args H hR hQ hx hb hml hr hlocks hown hts hP hK hD hA hS hG hl
  have hown : s.vm.findClass RX9 = some m.cls := hown
  have hl : lv_has ls 4 [(0, .ref o_t), (1, .int x1), (2, .int x2), (3, .int x3)] := hl
  have hW : ∀ w ∈ WG, w.before args s = true := fun w h => hts w (List.mem_cons_of_mem _ h)
  have htX9 : ∀ w ∈ u_ws RX9 TX9 11, w.before args s = true := fun w h => hW w (inW_X9 w h)
  unfold f9_addHouse at hf
  refine lv_aload_n hx hb dX9_addHouse_0 rfl (lv_at hl 0 rfl) ?_
  refine gfB (i0 := 0) (own := RX9) (T := TX9) (k := 0) (v := .int (s_t.1 0)) hx hb htX9 hown hK hP rfl e9 rfl (by decide) (hW _ wd149) rfl dX9_addHouse_1 ?_
  refine lv_bipush (v := 8) hx hb dX9_addHouse_4 (by decide) ?_
  obtain ⟨q1, hq1, hf⟩ := bnd hf
  have Jq1 : ∀ r1 : St, q1 = r1 → ∀ (H : Heap) (locs : List Loc) (ls : Array Slot), va_P D vwCl (List.flatten [w9 cs o_t a_t r1]) H → va_D A (List.flatten [w9 cs o_t a_t r1]) → va_S A s.heap H locs → lv_has ls 4 [] → W p l e R s m args below meth c H locs 0 0 Q (F0 m 49 ls []) := by
    intro r1 eq1 H locs ls hP hD hS hl
    subst eq1
    obtain rfl := Option.some.inj hf
    exact mretV hx hb hr hlocks hK hP hD hS hQ dX9_addHouse_49
  clear hf
  have hf := hq1
  refine lv_icmp_ge (tgt := 49) hx hb dX9_addHouse_6 (by decide) (fun hc => ?_) (fun hc => ?_)
  · have hf := ifp hc hf
    exact Jq1 _ (Option.some.inj hf).symm _ _ _ hP hD hS (lv_sub hl [] rfl)
  · have hf := ifn hc hf
    refine lv_aload_n hx hb dX9_addHouse_9 rfl (lv_at hl 0 rfl) ?_
    refine gfB (i0 := 0) (own := RX9) (T := TX9) (k := 5) (v := .ref (a_t 5)) hx hb htX9 hown hK hP rfl e9 rfl (by decide) (hW _ wd165) rfl dX9_addHouse_10 ?_
    refine lv_aload_n hx hb dX9_addHouse_13 rfl (lv_at hl 0 rfl) ?_
    refine gfB (i0 := 0) (own := RX9) (T := TX9) (k := 0) (v := .int (s_t.1 0)) hx hb htX9 hown hK hP rfl e9 rfl (by decide) (hW _ wd149) rfl dX9_addHouse_14 ?_
    refine lv_iload_n hx hb dX9_addHouse_17 rfl (lv_at hl 1 rfl) ?_
    obtain ⟨s2, es2, hf⟩ := bnd hf
    obtain ⟨gs2, es2⟩ := stS_e es2
    refine astB (i0 := 0) (Bn := [w9 cs o_t a_t s2]) hx hb hK hP hD hS rfl a9_5 gs2 rfl dX9_addHouse_18 (by rw [← es2]; exact v9_5) rfl (fun H locs hP hD hS => ?_)
    refine lv_aload_n hx hb dX9_addHouse_19 rfl (lv_at hl 0 rfl) ?_
    refine gfB (i0 := 0) (own := RX9) (T := TX9) (k := 6) (v := .ref (a_t 6)) hx hb htX9 hown hK hP rfl e9 rfl (by decide) (hW _ wd168) rfl dX9_addHouse_20 ?_
    refine lv_aload_n hx hb dX9_addHouse_23 rfl (lv_at hl 0 rfl) ?_
    refine gfB (i0 := 0) (own := RX9) (T := TX9) (k := 0) (v := .int (s2.1 0)) hx hb htX9 hown hK hP rfl e9 rfl (by decide) (hW _ wd149) rfl dX9_addHouse_24 ?_
    refine lv_iload_n hx hb dX9_addHouse_27 rfl (lv_at hl 2 rfl) ?_
    obtain ⟨s3, es3, hf⟩ := bnd hf
    obtain ⟨gs3, es3⟩ := stS_e es3
    refine astB (i0 := 0) (Bn := [w9 cs o_t a_t s3]) hx hb hK hP hD hS rfl a9_6 gs3 rfl dX9_addHouse_28 (by rw [← es3]; exact v9_6) rfl (fun H locs hP hD hS => ?_)
    refine lv_aload_n hx hb dX9_addHouse_29 rfl (lv_at hl 0 rfl) ?_
    refine gfB (i0 := 0) (own := RX9) (T := TX9) (k := 7) (v := .ref (a_t 7)) hx hb htX9 hown hK hP rfl e9 rfl (by decide) (hW _ wd170) rfl dX9_addHouse_30 ?_
    refine lv_aload_n hx hb dX9_addHouse_33 rfl (lv_at hl 0 rfl) ?_
    refine gfB (i0 := 0) (own := RX9) (T := TX9) (k := 0) (v := .int (s3.1 0)) hx hb htX9 hown hK hP rfl e9 rfl (by decide) (hW _ wd149) rfl dX9_addHouse_34 ?_
    refine lv_iload_n hx hb dX9_addHouse_37 rfl (lv_at hl 3 rfl) ?_
    obtain ⟨s4, es4, hf⟩ := bnd hf
    obtain ⟨gs4, es4⟩ := stS_e es4
    refine astB (i0 := 0) (Bn := [w9 cs o_t a_t s4]) hx hb hK hP hD hS rfl a9_7 gs4 rfl dX9_addHouse_38 (by rw [← es4]; exact v9_7) rfl (fun H locs hP hD hS => ?_)
    refine lv_aload_n hx hb dX9_addHouse_39 rfl (lv_at hl 0 rfl) ?_
    refine lv_dup hx hb dX9_addHouse_40 rfl ?_
    refine gfB (i0 := 0) (own := RX9) (T := TX9) (k := 0) (v := .int (s4.1 0)) hx hb htX9 hown hK hP rfl e9 rfl (by decide) (hW _ wd149) rfl dX9_addHouse_41 ?_
    refine lv_iconst (v := 1) hx hb dX9_addHouse_44 (by decide) ?_
    refine lv_iadd hx hb dX9_addHouse_45 ?_
    obtain ⟨s5, es5, hf⟩ := bnd hf
    replace es5 := Option.some.inj es5
    refine pfB (i0 := 0) (own := RX9) (T := TX9) (k := 0) (Bn := [w9 cs o_t a_t s5]) tyX9 tyX9_ok nmX9 hx hb htX9 hown hK hP hD hS rfl e9 rfl (by decide) (hW _ wd149) rfl rfl rfl (Nat.le_of_ble_eq_true rfl) dX9_addHouse_46 (by rw [← es5]; exact u9_0) rfl (fun H locs hP hD hS => ?_)
    exact Jq1 _ (Option.some.inj hf).symm _ _ _ hP hD hS (lv_sub hl [] rfl)
/-! TwinLamps$Town.addLamp -/
noncomputable def f9_addLamp (s_t : St) (x1 : Int32) (x2 : Int32) : Option (St) :=
  ((if (12 : Int32) ≤ (s_t.1 1) then some s_t else (stS 12 s_t 8 (s_t.1 1) x1).bind fun s2 =>
  (stS 12 s2 9 (s2.1 1) x2).bind fun s3 =>
  (stS 12 s3 10 (s3.1 1) (-1)).bind fun s4 =>
  (some (sS s4 1 ((s4.1 1) + 1))).bind fun s5 =>
  some s5 : Option (St))).bind fun q1 =>
  some q1
set_option maxHeartbeats 4000000 in
set_option maxRecDepth 100000 in
theorem c9_addLamp (l : Launch) (D : va_G) (cs : xE) (o_t : Nat) (a_t : Nat → Nat) (s_t : St) (sz : Nat) (x1 : Int32) (x2 : Int32) (res : St) (hf : f9_addLamp s_t x1 x2 = some res) : Met l yX9_addLamp (Cond.code yX9_addLamp cX9_addLamp 3 none :: WG) { frames := 0, cells := 0, slots := 0, locals := 0 } (va_Pc [.ref o_t, .int x1, .int x2] (mP D cs (List.flatten [w9 cs o_t a_t s_t]) sz)) (qV D cs (List.flatten [w9 cs o_t a_t res]) (va_A (List.flatten [w9 cs o_t a_t s_t]) sz)) 0 0 (va_A (List.flatten [w9 cs o_t a_t s_t]) sz) := by
  refine mgo (Qc := qV D cs (List.flatten [w9 cs o_t a_t res])) (cc := cX9_addLamp) (maxL := 3) (ret := none) (by decide) rfl (Nat.le_of_ble_eq_true rfl) ?_
  intro p e s m below meth c ls A R Q args H hR hQ hx hb hml hr hlocks hown hts hP hK hD hA hS hG hl
  have hown : s.vm.findClass RX9 = some m.cls := hown
  have hl : lv_has ls 3 [(0, .ref o_t), (1, .int x1), (2, .int x2)] := hl
  have hW : ∀ w ∈ WG, w.before args s = true := fun w h => hts w (List.mem_cons_of_mem _ h)
  have htX9 : ∀ w ∈ u_ws RX9 TX9 11, w.before args s = true := fun w h => hW w (inW_X9 w h)
  unfold f9_addLamp at hf
  refine lv_aload_n hx hb dX9_addLamp_0 rfl (lv_at hl 0 rfl) ?_
  refine gfB (i0 := 0) (own := RX9) (T := TX9) (k := 1) (v := .int (s_t.1 1)) hx hb htX9 hown hK hP rfl e9 rfl (by decide) (hW _ wd152) rfl dX9_addLamp_1 ?_
  refine lv_bipush (v := 12) hx hb dX9_addLamp_4 (by decide) ?_
  obtain ⟨q1, hq1, hf⟩ := bnd hf
  have Jq1 : ∀ r1 : St, q1 = r1 → ∀ (H : Heap) (locs : List Loc) (ls : Array Slot), va_P D vwCl (List.flatten [w9 cs o_t a_t r1]) H → va_D A (List.flatten [w9 cs o_t a_t r1]) → va_S A s.heap H locs → lv_has ls 3 [] → W p l e R s m args below meth c H locs 0 0 Q (F0 m 49 ls []) := by
    intro r1 eq1 H locs ls hP hD hS hl
    subst eq1
    obtain rfl := Option.some.inj hf
    exact mretV hx hb hr hlocks hK hP hD hS hQ dX9_addLamp_49
  clear hf
  have hf := hq1
  refine lv_icmp_ge (tgt := 49) hx hb dX9_addLamp_6 (by decide) (fun hc => ?_) (fun hc => ?_)
  · have hf := ifp hc hf
    exact Jq1 _ (Option.some.inj hf).symm _ _ _ hP hD hS (lv_sub hl [] rfl)
  · have hf := ifn hc hf
    refine lv_aload_n hx hb dX9_addLamp_9 rfl (lv_at hl 0 rfl) ?_
    refine gfB (i0 := 0) (own := RX9) (T := TX9) (k := 8) (v := .ref (a_t 8)) hx hb htX9 hown hK hP rfl e9 rfl (by decide) (hW _ wd172) rfl dX9_addLamp_10 ?_
    refine lv_aload_n hx hb dX9_addLamp_13 rfl (lv_at hl 0 rfl) ?_
    refine gfB (i0 := 0) (own := RX9) (T := TX9) (k := 1) (v := .int (s_t.1 1)) hx hb htX9 hown hK hP rfl e9 rfl (by decide) (hW _ wd152) rfl dX9_addLamp_14 ?_
    refine lv_iload_n hx hb dX9_addLamp_17 rfl (lv_at hl 1 rfl) ?_
    obtain ⟨s2, es2, hf⟩ := bnd hf
    obtain ⟨gs2, es2⟩ := stS_e es2
    refine astB (i0 := 0) (Bn := [w9 cs o_t a_t s2]) hx hb hK hP hD hS rfl a9_8 gs2 rfl dX9_addLamp_18 (by rw [← es2]; exact v9_8) rfl (fun H locs hP hD hS => ?_)
    refine lv_aload_n hx hb dX9_addLamp_19 rfl (lv_at hl 0 rfl) ?_
    refine gfB (i0 := 0) (own := RX9) (T := TX9) (k := 9) (v := .ref (a_t 9)) hx hb htX9 hown hK hP rfl e9 rfl (by decide) (hW _ wd175) rfl dX9_addLamp_20 ?_
    refine lv_aload_n hx hb dX9_addLamp_23 rfl (lv_at hl 0 rfl) ?_
    refine gfB (i0 := 0) (own := RX9) (T := TX9) (k := 1) (v := .int (s2.1 1)) hx hb htX9 hown hK hP rfl e9 rfl (by decide) (hW _ wd152) rfl dX9_addLamp_24 ?_
    refine lv_iload_n hx hb dX9_addLamp_27 rfl (lv_at hl 2 rfl) ?_
    obtain ⟨s3, es3, hf⟩ := bnd hf
    obtain ⟨gs3, es3⟩ := stS_e es3
    refine astB (i0 := 0) (Bn := [w9 cs o_t a_t s3]) hx hb hK hP hD hS rfl a9_9 gs3 rfl dX9_addLamp_28 (by rw [← es3]; exact v9_9) rfl (fun H locs hP hD hS => ?_)
    refine lv_aload_n hx hb dX9_addLamp_29 rfl (lv_at hl 0 rfl) ?_
    refine gfB (i0 := 0) (own := RX9) (T := TX9) (k := 10) (v := .ref (a_t 10)) hx hb htX9 hown hK hP rfl e9 rfl (by decide) (hW _ wd180) rfl dX9_addLamp_30 ?_
    refine lv_aload_n hx hb dX9_addLamp_33 rfl (lv_at hl 0 rfl) ?_
    refine gfB (i0 := 0) (own := RX9) (T := TX9) (k := 1) (v := .int (s3.1 1)) hx hb htX9 hown hK hP rfl e9 rfl (by decide) (hW _ wd152) rfl dX9_addLamp_34 ?_
    refine lv_iconst (v := (-1)) hx hb dX9_addLamp_37 (by decide) ?_
    obtain ⟨s4, es4, hf⟩ := bnd hf
    obtain ⟨gs4, es4⟩ := stS_e es4
    refine astB (i0 := 0) (Bn := [w9 cs o_t a_t s4]) hx hb hK hP hD hS rfl a9_10 gs4 rfl dX9_addLamp_38 (by rw [← es4]; exact v9_10) rfl (fun H locs hP hD hS => ?_)
    refine lv_aload_n hx hb dX9_addLamp_39 rfl (lv_at hl 0 rfl) ?_
    refine lv_dup hx hb dX9_addLamp_40 rfl ?_
    refine gfB (i0 := 0) (own := RX9) (T := TX9) (k := 1) (v := .int (s4.1 1)) hx hb htX9 hown hK hP rfl e9 rfl (by decide) (hW _ wd152) rfl dX9_addLamp_41 ?_
    refine lv_iconst (v := 1) hx hb dX9_addLamp_44 (by decide) ?_
    refine lv_iadd hx hb dX9_addLamp_45 ?_
    obtain ⟨s5, es5, hf⟩ := bnd hf
    replace es5 := Option.some.inj es5
    refine pfB (i0 := 0) (own := RX9) (T := TX9) (k := 1) (Bn := [w9 cs o_t a_t s5]) tyX9 tyX9_ok nmX9 hx hb htX9 hown hK hP hD hS rfl e9 rfl (by decide) (hW _ wd152) rfl rfl rfl (Nat.le_of_ble_eq_true rfl) dX9_addLamp_46 (by rw [← es5]; exact u9_1) rfl (fun H locs hP hD hS => ?_)
    exact Jq1 _ (Option.some.inj hf).symm _ _ _ hP hD hS (lv_sub hl [] rfl)
/-! TwinLamps$Town.isLit -/
noncomputable def f9_isLit (s_t : St) (x1 : Int32) : Option (Bool) :=
  if (((s_t.1 3) >>> (x1 &&& 31)) &&& 1) = 1 then some true else some false
set_option maxHeartbeats 4000000 in
set_option maxRecDepth 100000 in
theorem c9_isLit (l : Launch) (D : va_G) (cs : xE) (o_t : Nat) (a_t : Nat → Nat) (s_t : St) (sz : Nat) (x1 : Int32) (res : Bool) (hf : f9_isLit s_t x1 = some res) : Met l yX9_isLit (Cond.code yX9_isLit cX9_isLit 2 (some .boolean) :: WG) { frames := 0, cells := 0, slots := 0, locals := 0 } (va_Pc [.ref o_t, .int x1] (mP D cs (List.flatten [w9 cs o_t a_t s_t]) sz)) (qI D cs (zB res) (List.flatten [w9 cs o_t a_t s_t]) (va_A (List.flatten [w9 cs o_t a_t s_t]) sz)) 0 0 (va_A (List.flatten [w9 cs o_t a_t s_t]) sz) := by
  refine mgo (Qc := qI D cs (zB res) (List.flatten [w9 cs o_t a_t s_t])) (cc := cX9_isLit) (maxL := 2) (ret := (some .boolean)) (by decide) rfl (Nat.le_of_ble_eq_true rfl) ?_
  intro p e s m below meth c ls A R Q args H hR hQ hx hb hml hr hlocks hown hts hP hK hD hA hS hG hl
  have hown : s.vm.findClass RX9 = some m.cls := hown
  have hl : lv_has ls 2 [(0, .ref o_t), (1, .int x1)] := hl
  have hW : ∀ w ∈ WG, w.before args s = true := fun w h => hts w (List.mem_cons_of_mem _ h)
  have htX9 : ∀ w ∈ u_ws RX9 TX9 11, w.before args s = true := fun w h => hW w (inW_X9 w h)
  unfold f9_isLit at hf
  refine lv_aload_n hx hb dX9_isLit_0 rfl (lv_at hl 0 rfl) ?_
  refine gfB (i0 := 0) (own := RX9) (T := TX9) (k := 3) (v := .int (s_t.1 3)) hx hb htX9 hown hK hP rfl e9 rfl (by decide) (hW _ wd160) rfl dX9_isLit_1 ?_
  refine lv_iload_n hx hb dX9_isLit_4 rfl (lv_at hl 1 rfl) ?_
  refine lv_ishr hx hb dX9_isLit_5 ?_
  refine lv_iconst (v := 1) hx hb dX9_isLit_6 (by decide) ?_
  refine lv_iand hx hb dX9_isLit_7 ?_
  refine lv_iconst (v := 1) hx hb dX9_isLit_8 (by decide) ?_
  refine lv_icmp_ne (tgt := 16) hx hb dX9_isLit_9 (by decide) (fun hc => ?_) (fun hc => ?_)
  · have hf := ifn hc hf
    refine lv_iconst (v := 0) hx hb dX9_isLit_16 (by decide) ?_
    obtain rfl := Option.some.inj hf
    exact mretZ hx hb hr hlocks hK hP hD hS rfl hQ dX9_isLit_17
  · have hf := ifp hc hf
    refine lv_iconst (v := 1) hx hb dX9_isLit_12 (by decide) ?_
    refine lv_goto (tgt := 17) hx hb dX9_isLit_13 (by decide) ?_
    obtain rfl := Option.some.inj hf
    exact mretZ hx hb hr hlocks hK hP hD hS rfl hQ dX9_isLit_17
/-! TwinLamps$Town.isBroken -/
noncomputable def f9_isBroken (s_t : St) (x1 : Int32) : Option (Bool) :=
  if (((s_t.1 4) >>> (x1 &&& 31)) &&& 1) = 1 then some true else some false
set_option maxHeartbeats 4000000 in
set_option maxRecDepth 100000 in
theorem c9_isBroken (l : Launch) (D : va_G) (cs : xE) (o_t : Nat) (a_t : Nat → Nat) (s_t : St) (sz : Nat) (x1 : Int32) (res : Bool) (hf : f9_isBroken s_t x1 = some res) : Met l yX9_isBroken (Cond.code yX9_isBroken cX9_isBroken 2 (some .boolean) :: WG) { frames := 0, cells := 0, slots := 0, locals := 0 } (va_Pc [.ref o_t, .int x1] (mP D cs (List.flatten [w9 cs o_t a_t s_t]) sz)) (qI D cs (zB res) (List.flatten [w9 cs o_t a_t s_t]) (va_A (List.flatten [w9 cs o_t a_t s_t]) sz)) 0 0 (va_A (List.flatten [w9 cs o_t a_t s_t]) sz) := by
  refine mgo (Qc := qI D cs (zB res) (List.flatten [w9 cs o_t a_t s_t])) (cc := cX9_isBroken) (maxL := 2) (ret := (some .boolean)) (by decide) rfl (Nat.le_of_ble_eq_true rfl) ?_
  intro p e s m below meth c ls A R Q args H hR hQ hx hb hml hr hlocks hown hts hP hK hD hA hS hG hl
  have hown : s.vm.findClass RX9 = some m.cls := hown
  have hl : lv_has ls 2 [(0, .ref o_t), (1, .int x1)] := hl
  have hW : ∀ w ∈ WG, w.before args s = true := fun w h => hts w (List.mem_cons_of_mem _ h)
  have htX9 : ∀ w ∈ u_ws RX9 TX9 11, w.before args s = true := fun w h => hW w (inW_X9 w h)
  unfold f9_isBroken at hf
  refine lv_aload_n hx hb dX9_isBroken_0 rfl (lv_at hl 0 rfl) ?_
  refine gfB (i0 := 0) (own := RX9) (T := TX9) (k := 4) (v := .int (s_t.1 4)) hx hb htX9 hown hK hP rfl e9 rfl (by decide) (hW _ wd163) rfl dX9_isBroken_1 ?_
  refine lv_iload_n hx hb dX9_isBroken_4 rfl (lv_at hl 1 rfl) ?_
  refine lv_ishr hx hb dX9_isBroken_5 ?_
  refine lv_iconst (v := 1) hx hb dX9_isBroken_6 (by decide) ?_
  refine lv_iand hx hb dX9_isBroken_7 ?_
  refine lv_iconst (v := 1) hx hb dX9_isBroken_8 (by decide) ?_
  refine lv_icmp_ne (tgt := 16) hx hb dX9_isBroken_9 (by decide) (fun hc => ?_) (fun hc => ?_)
  · have hf := ifn hc hf
    refine lv_iconst (v := 0) hx hb dX9_isBroken_16 (by decide) ?_
    obtain rfl := Option.some.inj hf
    exact mretZ hx hb hr hlocks hK hP hD hS rfl hQ dX9_isBroken_17
  · have hf := ifp hc hf
    refine lv_iconst (v := 1) hx hb dX9_isBroken_12 (by decide) ?_
    refine lv_goto (tgt := 17) hx hb dX9_isBroken_13 (by decide) ?_
    obtain rfl := Option.some.inj hf
    exact mretZ hx hb hr hlocks hK hP hD hS rfl hQ dX9_isBroken_17
/-! TwinLamps$Town.isAwake -/
noncomputable def f9_isAwake (s_t : St) (x1 : Int32) (x2 : Int32) : Option (Bool) :=
  (ldO 8 (s_t.2 6) x1).bind fun q1 =>
  (ldO 8 (s_t.2 7) x1).bind fun q2 =>
  if q1 = q2 then some true else if q2 ≤ q1 then if q1 ≤ x2 then some true else if q2 ≤ x2 then some false else some true else if x2 < q1 then some false else if q2 ≤ x2 then some false else some true
set_option maxHeartbeats 4000000 in
set_option maxRecDepth 100000 in
theorem c9_isAwake (l : Launch) (D : va_G) (cs : xE) (o_t : Nat) (a_t : Nat → Nat) (s_t : St) (sz : Nat) (x1 : Int32) (x2 : Int32) (res : Bool) (hf : f9_isAwake s_t x1 x2 = some res) : Met l yX9_isAwake (Cond.code yX9_isAwake cX9_isAwake 5 (some .boolean) :: WG) { frames := 0, cells := 0, slots := 0, locals := 0 } (va_Pc [.ref o_t, .int x1, .int x2] (mP D cs (List.flatten [w9 cs o_t a_t s_t]) sz)) (qI D cs (zB res) (List.flatten [w9 cs o_t a_t s_t]) (va_A (List.flatten [w9 cs o_t a_t s_t]) sz)) 0 0 (va_A (List.flatten [w9 cs o_t a_t s_t]) sz) := by
  refine mgo (Qc := qI D cs (zB res) (List.flatten [w9 cs o_t a_t s_t])) (cc := cX9_isAwake) (maxL := 5) (ret := (some .boolean)) (by decide) rfl (Nat.le_of_ble_eq_true rfl) ?_
  intro p e s m below meth c ls A R Q args H hR hQ hx hb hml hr hlocks hown hts hP hK hD hA hS hG hl
  have hown : s.vm.findClass RX9 = some m.cls := hown
  have hl : lv_has ls 5 [(0, .ref o_t), (1, .int x1), (2, .int x2)] := hl
  have hW : ∀ w ∈ WG, w.before args s = true := fun w h => hts w (List.mem_cons_of_mem _ h)
  have htX9 : ∀ w ∈ u_ws RX9 TX9 11, w.before args s = true := fun w h => hW w (inW_X9 w h)
  unfold f9_isAwake at hf
  refine lv_aload_n hx hb dX9_isAwake_0 rfl (lv_at hl 0 rfl) ?_
  refine gfB (i0 := 0) (own := RX9) (T := TX9) (k := 6) (v := .ref (a_t 6)) hx hb htX9 hown hK hP rfl e9 rfl (by decide) (hW _ wd168) rfl dX9_isAwake_1 ?_
  refine lv_iload_n hx hb dX9_isAwake_4 rfl (lv_at hl 1 rfl) ?_
  obtain ⟨q1, eq1, hf⟩ := bnd hf
  obtain ⟨gq1, eq1⟩ := ldO_e eq1
  refine aldB (i0 := 0) hx hb hK hP rfl a9_6 gq1 dX9_isAwake_5 ?_
  refine lv_nm eq1 ?_
  refine lv_istore_n (lv' := [(3, .int q1), (0, .ref o_t), (1, .int x1), (2, .int x2)]) hx hb dX9_isAwake_6 rfl hl (by decide) rfl (fun ls hl => ?_)
  refine lv_aload_n hx hb dX9_isAwake_7 rfl (lv_at hl 1 rfl) ?_
  refine gfB (i0 := 0) (own := RX9) (T := TX9) (k := 7) (v := .ref (a_t 7)) hx hb htX9 hown hK hP rfl e9 rfl (by decide) (hW _ wd170) rfl dX9_isAwake_8 ?_
  refine lv_iload_n hx hb dX9_isAwake_11 rfl (lv_at hl 2 rfl) ?_
  obtain ⟨q2, eq2, hf⟩ := bnd hf
  obtain ⟨gq2, eq2⟩ := ldO_e eq2
  refine aldB (i0 := 0) hx hb hK hP rfl a9_7 gq2 dX9_isAwake_12 ?_
  refine lv_nm eq2 ?_
  refine lv_istore (lv' := [(4, .int q2), (3, .int q1), (0, .ref o_t), (1, .int x1), (2, .int x2)]) hx hb dX9_isAwake_13 hl (by decide) rfl (fun ls hl => ?_)
  refine lv_iload_n hx hb dX9_isAwake_15 rfl (lv_at hl 1 rfl) ?_
  refine lv_iload hx hb dX9_isAwake_16 (lv_at hl 0 rfl) ?_
  refine lv_icmp_ne (tgt := 23) hx hb dX9_isAwake_18 (by decide) (fun hc => ?_) (fun hc => ?_)
  · have hf := ifn hc hf
    refine lv_iload_n hx hb dX9_isAwake_23 rfl (lv_at hl 1 rfl) ?_
    refine lv_iload hx hb dX9_isAwake_24 (lv_at hl 0 rfl) ?_
    refine lv_icmp_ge (tgt := 46) hx hb dX9_isAwake_26 (by decide) (fun hc => ?_) (fun hc => ?_)
    · have hf := ifp hc hf
      refine lv_iload_n hx hb dX9_isAwake_46 rfl (lv_at hl 4 rfl) ?_
      refine lv_iload_n hx hb dX9_isAwake_47 rfl (lv_at hl 1 rfl) ?_
      refine lv_icmp_ge (tgt := 57) hx hb dX9_isAwake_48 (by decide) (fun hc => ?_) (fun hc => ?_)
      · have hf := ifp hc hf
        refine lv_iconst (v := 1) hx hb dX9_isAwake_57 (by decide) ?_
        refine lv_goto (tgt := 62) hx hb dX9_isAwake_58 (by decide) ?_
        obtain rfl := Option.some.inj hf
        exact mretZ hx hb hr hlocks hK hP hD hS rfl hQ dX9_isAwake_62
      · have hf := ifn hc hf
        refine lv_iload_n hx hb dX9_isAwake_51 rfl (lv_at hl 4 rfl) ?_
        refine lv_iload hx hb dX9_isAwake_52 (lv_at hl 0 rfl) ?_
        refine lv_icmp_ge (tgt := 61) hx hb dX9_isAwake_54 (by decide) (fun hc => ?_) (fun hc => ?_)
        · have hf := ifp hc hf
          refine lv_iconst (v := 0) hx hb dX9_isAwake_61 (by decide) ?_
          obtain rfl := Option.some.inj hf
          exact mretZ hx hb hr hlocks hK hP hD hS rfl hQ dX9_isAwake_62
        · have hf := ifn hc hf
          refine lv_iconst (v := 1) hx hb dX9_isAwake_57 (by decide) ?_
          refine lv_goto (tgt := 62) hx hb dX9_isAwake_58 (by decide) ?_
          obtain rfl := Option.some.inj hf
          exact mretZ hx hb hr hlocks hK hP hD hS rfl hQ dX9_isAwake_62
    · have hf := ifn hc hf
      refine lv_iload_n hx hb dX9_isAwake_29 rfl (lv_at hl 4 rfl) ?_
      refine lv_iload_n hx hb dX9_isAwake_30 rfl (lv_at hl 1 rfl) ?_
      refine lv_icmp_lt (tgt := 44) hx hb dX9_isAwake_31 (by decide) (fun hc => ?_) (fun hc => ?_)
      · have hf := ifp hc hf
        refine lv_iconst (v := 0) hx hb dX9_isAwake_44 (by decide) ?_
        obtain rfl := Option.some.inj hf
        exact mretZ hx hb hr hlocks hK hP hD hS rfl hQ dX9_isAwake_45
      · have hf := ifn hc hf
        refine lv_iload_n hx hb dX9_isAwake_34 rfl (lv_at hl 4 rfl) ?_
        refine lv_iload hx hb dX9_isAwake_35 (lv_at hl 0 rfl) ?_
        refine lv_icmp_ge (tgt := 44) hx hb dX9_isAwake_37 (by decide) (fun hc => ?_) (fun hc => ?_)
        · have hf := ifp hc hf
          refine lv_iconst (v := 0) hx hb dX9_isAwake_44 (by decide) ?_
          obtain rfl := Option.some.inj hf
          exact mretZ hx hb hr hlocks hK hP hD hS rfl hQ dX9_isAwake_45
        · have hf := ifn hc hf
          refine lv_iconst (v := 1) hx hb dX9_isAwake_40 (by decide) ?_
          refine lv_goto (tgt := 45) hx hb dX9_isAwake_41 (by decide) ?_
          obtain rfl := Option.some.inj hf
          exact mretZ hx hb hr hlocks hK hP hD hS rfl hQ dX9_isAwake_45
  · have hf := ifp hc hf
    refine lv_iconst (v := 1) hx hb dX9_isAwake_21 (by decide) ?_
    obtain rfl := Option.some.inj hf
    exact mretZ hx hb hr hlocks hK hP hD hS rfl hQ dX9_isAwake_22
/-! TwinLamps$Town.hoursAwake -/
noncomputable def f9_hoursAwake_L1 (s_t : St) (x1 : Int32) (v2 : Int32 × Int32) : Option ((Int32 × Int32) ⊕ (Int32)) :=
  if (24 : Int32) ≤ v2.2 then some (.inr v2.1) else (f9_isAwake s_t x1 v2.2).bind fun q3 =>
  ((if (zB q3) = 0 then some v2.1 else some (v2.1 ||| ((1 : Int32) <<< (v2.2 &&& 31))) : Option (Int32))).bind fun q4 =>
  some (.inl (q4, (v2.2 + 1)))
noncomputable def f9_hoursAwake (s_t : St) (x1 : Int32) : Option (Int32) :=
  (lpw (f9_hoursAwake_L1 s_t x1) (0, 0)).bind fun q1 =>
  some q1
set_option maxHeartbeats 4000000 in
set_option maxRecDepth 100000 in
theorem c9_hoursAwake (l : Launch) (D : va_G) (cs : xE) (o_t : Nat) (a_t : Nat → Nat) (s_t : St) (sz : Nat) (x1 : Int32) (res : Int32) (hf : f9_hoursAwake s_t x1 = some res) : Met l yX9_hoursAwake (Cond.code yX9_hoursAwake cX9_hoursAwake 4 (some .int) :: WG) { frames := 1, cells := 0, slots := 0, locals := 24 } (va_Pc [.ref o_t, .int x1] (mP D cs (List.flatten [w9 cs o_t a_t s_t]) sz)) (qI D cs res (List.flatten [w9 cs o_t a_t s_t]) (va_A (List.flatten [w9 cs o_t a_t s_t]) sz)) 0 0 (va_A (List.flatten [w9 cs o_t a_t s_t]) sz) := by
  refine mgo (Qc := qI D cs res (List.flatten [w9 cs o_t a_t s_t])) (cc := cX9_hoursAwake) (maxL := 4) (ret := (some .int)) (by decide) rfl (Nat.le_of_ble_eq_true rfl) ?_
  intro p e s m below meth c ls A R Q args H hR hQ hx hb hml hr hlocks hown hts hP hK hD hA hS hG hl
  have hown : s.vm.findClass RX9 = some m.cls := hown
  have hl : lv_has ls 4 [(0, .ref o_t), (1, .int x1)] := hl
  have hW : ∀ w ∈ WG, w.before args s = true := fun w h => hts w (List.mem_cons_of_mem _ h)
  unfold f9_hoursAwake at hf
  refine lv_iconst (v := 0) hx hb dX9_hoursAwake_0 (by decide) ?_
  refine lv_istore_n (lv' := [(2, .int 0), (0, .ref o_t), (1, .int x1)]) hx hb dX9_hoursAwake_1 rfl hl (by decide) rfl (fun ls hl => ?_)
  refine lv_iconst (v := 0) hx hb dX9_hoursAwake_2 (by decide) ?_
  refine lv_istore_n (lv' := [(3, .int 0), (2, .int 0), (0, .ref o_t), (1, .int x1)]) hx hb dX9_hoursAwake_3 rfl hl (by decide) rfl (fun ls hl => ?_)
  obtain ⟨q1, hq1, hf⟩ := bnd hf
  obtain ⟨n1, hq1⟩ := lpw_ex hq1
  have Jq1_0 : ∀ rr1_0 : Int32, q1 = rr1_0 → ∀ (H : Heap) (locs : List Loc) (ls : Array Slot), va_P D vwCl (List.flatten [w9 cs o_t a_t s_t]) H → va_D A (List.flatten [w9 cs o_t a_t s_t]) → va_S A s.heap H locs → lv_has ls 4 [(2, .int rr1_0)] → W p l e R s m args below meth c H locs 0 0 Q (F0 m 31 ls []) := by
    intro rr1_0 eq1 H locs ls hP hD hS hl
    subst eq1
    refine lv_iload_n hx hb dX9_hoursAwake_31 rfl (lv_at hl 0 rfl) ?_
    obtain rfl := Option.some.inj hf
    exact mretI hx hb hr hlocks hK hP hD hS rfl hQ dX9_hoursAwake_32
  clear hf
  have L1 : ∀ n1, ∀ v2 : Int32 × Int32, lp n1 (f9_hoursAwake_L1 s_t x1) v2 = some q1 → ∀ (H : Heap) (locs : List Loc) (ls : Array Slot), va_P D vwCl (List.flatten [w9 cs o_t a_t s_t]) H → va_D A (List.flatten [w9 cs o_t a_t s_t]) → va_S A s.heap H locs → lv_has ls 4 [(0, .ref o_t), (1, .int x1), (2, .int v2.1), (3, .int v2.2)] → W p l e R s m args below meth c H locs 0 0 Q (F0 m 4 ls []) := by
    intro n1
    induction n1 with
    | zero => intro v2 hn; cases hn
    | succ n1 ih1 =>
      intro v2 hn1 H locs ls hP hD hS hl
      obtain ⟨y1, hf, hn1⟩ := lp_succ hn1
      unfold f9_hoursAwake_L1 at hf
      refine lv_iload_n hx hb dX9_hoursAwake_4 rfl (lv_at hl 3 rfl) ?_
      refine lv_bipush (v := 24) hx hb dX9_hoursAwake_5 (by decide) ?_
      refine lv_icmp_ge (tgt := 31) hx hb dX9_hoursAwake_7 (by decide) (fun hc => ?_) (fun hc => ?_)
      · have hf := ifp hc hf
        cases hf
        exact Jq1_0 _ (Option.some.inj hn1).symm _ _ _ hP hD hS (lv_sub hl [2] rfl)
      · have hf := ifn hc hf
        refine lv_aload_n hx hb dX9_hoursAwake_10 rfl (lv_at hl 0 rfl) ?_
        refine lv_iload_n hx hb dX9_hoursAwake_11 rfl (lv_at hl 1 rfl) ?_
        refine lv_iload_n hx hb dX9_hoursAwake_12 rfl (lv_at hl 3 rfl) ?_
        obtain ⟨q3, eq3, hf⟩ := bnd hf
        refine mcVi (v := (zB q3)) (rest := []) (Bn := [w9 cs o_t a_t s_t]) (isR := []) (isC := [0]) (i0 := 0) ⟨hx, hb, hml, hown, hts⟩ hK hP hD hS hA hG (c9_isAwake l D cs o_t a_t s_t H.size x1 v2.2 _ eq3) (cwV 2 hts (gV wd514 wd515 wd516 wd107 wd517) rfl rfl rfl (by decide +kernel) ⟨by rw [hR]; exact Nat.le_of_ble_eq_true rfl, by rw [hR]; exact Nat.le_of_ble_eq_true rfl⟩) 1 (by decide) rfl rfl rfl rfl rfl rfl rfl e9 rfl rfl rfl hl.1 rfl (Nat.le_of_ble_eq_true rfl) ⟨Nat.zero_le _, Nat.zero_le _⟩ dX9_hoursAwake_13 (fun H locs hP hD hS => ?_)
        obtain ⟨q4, hq4, hf⟩ := bnd hf
        have Jq4 : ∀ r4 : Int32, q4 = r4 → ∀ (H : Heap) (locs : List Loc) (ls : Array Slot), va_P D vwCl (List.flatten [w9 cs o_t a_t s_t]) H → va_D A (List.flatten [w9 cs o_t a_t s_t]) → va_S A s.heap H locs → lv_has ls 4 [(0, .ref o_t), (1, .int x1), (2, .int r4), (3, .int v2.2)] → W p l e R s m args below meth c H locs 0 0 Q (F0 m 25 ls []) := by
          intro r4 eq4 H locs ls hP hD hS hl
          subst eq4
          refine lv_iinc (v := (v2.2 + 1)) (lv' := [(3, .int (v2.2 + 1)), (0, .ref o_t), (1, .int x1), (2, .int q4)]) hx hb dX9_hoursAwake_25 hl (k := 3) rfl rfl (by decide) rfl (fun ls hl => ?_)
          refine lv_goto (tgt := 4) hx hb dX9_hoursAwake_28 (by decide) ?_
          cases hf
          exact ih1 _ hn1 _ _ _ hP hD hS (lv_sub hl [1, 2, 3, 0] rfl)
        clear hf
        have hf := hq4
        refine lv_if_eq (tgt := 25) hx hb dX9_hoursAwake_16 (by decide) (fun hc => ?_) (fun hc => ?_)
        · have hf := ifp hc hf
          exact Jq4 _ (Option.some.inj hf).symm _ _ _ hP hD hS (lv_sub hl [0, 1, 2, 3] rfl)
        · have hf := ifn hc hf
          refine lv_iload_n hx hb dX9_hoursAwake_19 rfl (lv_at hl 2 rfl) ?_
          refine lv_iconst (v := 1) hx hb dX9_hoursAwake_20 (by decide) ?_
          refine lv_iload_n hx hb dX9_hoursAwake_21 rfl (lv_at hl 3 rfl) ?_
          refine lv_ishl hx hb dX9_hoursAwake_22 ?_
          refine lv_ior hx hb dX9_hoursAwake_23 ?_
          refine lv_istore_n (lv' := [(2, .int (v2.1 ||| ((1 : Int32) <<< (v2.2 &&& 31)))), (0, .ref o_t), (1, .int x1), (3, .int v2.2)]) hx hb dX9_hoursAwake_24 rfl hl (by decide) rfl (fun ls hl => ?_)
          exact Jq4 _ (Option.some.inj hf).symm _ _ _ hP hD hS (lv_sub hl [1, 2, 0, 3] rfl)
  exact L1 _ _ hq1 _ _ _ hP hD hS (lv_sub hl [2, 3, 1, 0] rfl)
/-! TwinLamps$Town.awakeHouses -/
noncomputable def f9_awakeHouses_L1 (s_t : St) (x1 : Int32) (v2 : Int32 × Int32) : Option ((Int32 × Int32) ⊕ (Int32)) :=
  if (s_t.1 0) ≤ v2.2 then some (.inr v2.1) else (f9_isAwake s_t v2.2 x1).bind fun q3 =>
  ((if (zB q3) = 0 then some v2.1 else some (v2.1 ||| ((1 : Int32) <<< (v2.2 &&& 31))) : Option (Int32))).bind fun q4 =>
  some (.inl (q4, (v2.2 + 1)))
noncomputable def f9_awakeHouses (s_t : St) (x1 : Int32) : Option (Int32) :=
  (lpw (f9_awakeHouses_L1 s_t x1) (0, 0)).bind fun q1 =>
  some q1
set_option maxHeartbeats 4000000 in
set_option maxRecDepth 100000 in
theorem c9_awakeHouses (l : Launch) (D : va_G) (cs : xE) (o_t : Nat) (a_t : Nat → Nat) (s_t : St) (sz : Nat) (x1 : Int32) (res : Int32) (hf : f9_awakeHouses s_t x1 = some res) : Met l yX9_awakeHouses (Cond.code yX9_awakeHouses cX9_awakeHouses 4 (some .int) :: WG) { frames := 1, cells := 0, slots := 0, locals := 24 } (va_Pc [.ref o_t, .int x1] (mP D cs (List.flatten [w9 cs o_t a_t s_t]) sz)) (qI D cs res (List.flatten [w9 cs o_t a_t s_t]) (va_A (List.flatten [w9 cs o_t a_t s_t]) sz)) 0 0 (va_A (List.flatten [w9 cs o_t a_t s_t]) sz) := by
  refine mgo (Qc := qI D cs res (List.flatten [w9 cs o_t a_t s_t])) (cc := cX9_awakeHouses) (maxL := 4) (ret := (some .int)) (by decide) rfl (Nat.le_of_ble_eq_true rfl) ?_
  intro p e s m below meth c ls A R Q args H hR hQ hx hb hml hr hlocks hown hts hP hK hD hA hS hG hl
  have hown : s.vm.findClass RX9 = some m.cls := hown
  have hl : lv_has ls 4 [(0, .ref o_t), (1, .int x1)] := hl
  have hW : ∀ w ∈ WG, w.before args s = true := fun w h => hts w (List.mem_cons_of_mem _ h)
  have htX9 : ∀ w ∈ u_ws RX9 TX9 11, w.before args s = true := fun w h => hW w (inW_X9 w h)
  unfold f9_awakeHouses at hf
  refine lv_iconst (v := 0) hx hb dX9_awakeHouses_0 (by decide) ?_
  refine lv_istore_n (lv' := [(2, .int 0), (0, .ref o_t), (1, .int x1)]) hx hb dX9_awakeHouses_1 rfl hl (by decide) rfl (fun ls hl => ?_)
  refine lv_iconst (v := 0) hx hb dX9_awakeHouses_2 (by decide) ?_
  refine lv_istore_n (lv' := [(3, .int 0), (2, .int 0), (0, .ref o_t), (1, .int x1)]) hx hb dX9_awakeHouses_3 rfl hl (by decide) rfl (fun ls hl => ?_)
  obtain ⟨q1, hq1, hf⟩ := bnd hf
  obtain ⟨n1, hq1⟩ := lpw_ex hq1
  have Jq1_0 : ∀ rr1_0 : Int32, q1 = rr1_0 → ∀ (H : Heap) (locs : List Loc) (ls : Array Slot), va_P D vwCl (List.flatten [w9 cs o_t a_t s_t]) H → va_D A (List.flatten [w9 cs o_t a_t s_t]) → va_S A s.heap H locs → lv_has ls 4 [(2, .int rr1_0)] → W p l e R s m args below meth c H locs 0 0 Q (F0 m 33 ls []) := by
    intro rr1_0 eq1 H locs ls hP hD hS hl
    subst eq1
    refine lv_iload_n hx hb dX9_awakeHouses_33 rfl (lv_at hl 0 rfl) ?_
    obtain rfl := Option.some.inj hf
    exact mretI hx hb hr hlocks hK hP hD hS rfl hQ dX9_awakeHouses_34
  clear hf
  have L1 : ∀ n1, ∀ v2 : Int32 × Int32, lp n1 (f9_awakeHouses_L1 s_t x1) v2 = some q1 → ∀ (H : Heap) (locs : List Loc) (ls : Array Slot), va_P D vwCl (List.flatten [w9 cs o_t a_t s_t]) H → va_D A (List.flatten [w9 cs o_t a_t s_t]) → va_S A s.heap H locs → lv_has ls 4 [(0, .ref o_t), (1, .int x1), (2, .int v2.1), (3, .int v2.2)] → W p l e R s m args below meth c H locs 0 0 Q (F0 m 4 ls []) := by
    intro n1
    induction n1 with
    | zero => intro v2 hn; cases hn
    | succ n1 ih1 =>
      intro v2 hn1 H locs ls hP hD hS hl
      obtain ⟨y1, hf, hn1⟩ := lp_succ hn1
      unfold f9_awakeHouses_L1 at hf
      refine lv_iload_n hx hb dX9_awakeHouses_4 rfl (lv_at hl 3 rfl) ?_
      refine lv_aload_n hx hb dX9_awakeHouses_5 rfl (lv_at hl 0 rfl) ?_
      refine gfB (i0 := 0) (own := RX9) (T := TX9) (k := 0) (v := .int (s_t.1 0)) hx hb htX9 hown hK hP rfl e9 rfl (by decide) (hW _ wd149) rfl dX9_awakeHouses_6 ?_
      refine lv_icmp_ge (tgt := 33) hx hb dX9_awakeHouses_9 (by decide) (fun hc => ?_) (fun hc => ?_)
      · have hf := ifp hc hf
        cases hf
        exact Jq1_0 _ (Option.some.inj hn1).symm _ _ _ hP hD hS (lv_sub hl [2] rfl)
      · have hf := ifn hc hf
        refine lv_aload_n hx hb dX9_awakeHouses_12 rfl (lv_at hl 0 rfl) ?_
        refine lv_iload_n hx hb dX9_awakeHouses_13 rfl (lv_at hl 3 rfl) ?_
        refine lv_iload_n hx hb dX9_awakeHouses_14 rfl (lv_at hl 1 rfl) ?_
        obtain ⟨q3, eq3, hf⟩ := bnd hf
        refine mcVi (v := (zB q3)) (rest := []) (Bn := [w9 cs o_t a_t s_t]) (isR := []) (isC := [0]) (i0 := 0) ⟨hx, hb, hml, hown, hts⟩ hK hP hD hS hA hG (c9_isAwake l D cs o_t a_t s_t H.size v2.2 x1 _ eq3) (cwV 2 hts (gV wd514 wd515 wd516 wd107 wd517) rfl rfl rfl (by decide +kernel) ⟨by rw [hR]; exact Nat.le_of_ble_eq_true rfl, by rw [hR]; exact Nat.le_of_ble_eq_true rfl⟩) 1 (by decide) rfl rfl rfl rfl rfl rfl rfl e9 rfl rfl rfl hl.1 rfl (Nat.le_of_ble_eq_true rfl) ⟨Nat.zero_le _, Nat.zero_le _⟩ dX9_awakeHouses_15 (fun H locs hP hD hS => ?_)
        obtain ⟨q4, hq4, hf⟩ := bnd hf
        have Jq4 : ∀ r4 : Int32, q4 = r4 → ∀ (H : Heap) (locs : List Loc) (ls : Array Slot), va_P D vwCl (List.flatten [w9 cs o_t a_t s_t]) H → va_D A (List.flatten [w9 cs o_t a_t s_t]) → va_S A s.heap H locs → lv_has ls 4 [(0, .ref o_t), (1, .int x1), (2, .int r4), (3, .int v2.2)] → W p l e R s m args below meth c H locs 0 0 Q (F0 m 27 ls []) := by
          intro r4 eq4 H locs ls hP hD hS hl
          subst eq4
          refine lv_iinc (v := (v2.2 + 1)) (lv' := [(3, .int (v2.2 + 1)), (0, .ref o_t), (1, .int x1), (2, .int q4)]) hx hb dX9_awakeHouses_27 hl (k := 3) rfl rfl (by decide) rfl (fun ls hl => ?_)
          refine lv_goto (tgt := 4) hx hb dX9_awakeHouses_30 (by decide) ?_
          cases hf
          exact ih1 _ hn1 _ _ _ hP hD hS (lv_sub hl [1, 2, 3, 0] rfl)
        clear hf
        have hf := hq4
        refine lv_if_eq (tgt := 27) hx hb dX9_awakeHouses_18 (by decide) (fun hc => ?_) (fun hc => ?_)
        · have hf := ifp hc hf
          exact Jq4 _ (Option.some.inj hf).symm _ _ _ hP hD hS (lv_sub hl [0, 1, 2, 3] rfl)
        · have hf := ifn hc hf
          refine lv_iload_n hx hb dX9_awakeHouses_21 rfl (lv_at hl 2 rfl) ?_
          refine lv_iconst (v := 1) hx hb dX9_awakeHouses_22 (by decide) ?_
          refine lv_iload_n hx hb dX9_awakeHouses_23 rfl (lv_at hl 3 rfl) ?_
          refine lv_ishl hx hb dX9_awakeHouses_24 ?_
          refine lv_ior hx hb dX9_awakeHouses_25 ?_
          refine lv_istore_n (lv' := [(2, .int (v2.1 ||| ((1 : Int32) <<< (v2.2 &&& 31)))), (0, .ref o_t), (1, .int x1), (3, .int v2.2)]) hx hb dX9_awakeHouses_26 rfl hl (by decide) rfl (fun ls hl => ?_)
          exact Jq4 _ (Option.some.inj hf).symm _ _ _ hP hD hS (lv_sub hl [1, 2, 0, 3] rfl)
  exact L1 _ _ hq1 _ _ _ hP hD hS (lv_sub hl [2, 3, 1, 0] rfl)
/-! TwinLamps$Town.awakeLamps -/
noncomputable def f9_awakeLamps_L1 (s_t : St) (v2 : Int32 × Int32) : Option ((Int32 × Int32) ⊕ (Int32)) :=
  if (s_t.1 1) ≤ v2.2 then some (.inr v2.1) else (ldO 12 (s_t.2 8) v2.2).bind fun q3 =>
  (f9_isAwake s_t q3 ((s_t.1 2) - (s_t.1 2) / 24 * 24)).bind fun q4 =>
  ((if (zB q4) = 0 then some v2.1 else some (v2.1 ||| ((1 : Int32) <<< (v2.2 &&& 31))) : Option (Int32))).bind fun q5 =>
  some (.inl (q5, (v2.2 + 1)))
noncomputable def f9_awakeLamps (s_t : St) : Option (Int32) :=
  (lpw (f9_awakeLamps_L1 s_t) (0, 0)).bind fun q1 =>
  some q1
set_option maxHeartbeats 4000000 in
set_option maxRecDepth 100000 in
theorem c9_awakeLamps (l : Launch) (D : va_G) (cs : xE) (o_t : Nat) (a_t : Nat → Nat) (s_t : St) (sz : Nat) (res : Int32) (hf : f9_awakeLamps s_t = some res) : Met l yX9_awakeLamps (Cond.code yX9_awakeLamps cX9_awakeLamps 3 (some .int) :: WG) { frames := 1, cells := 0, slots := 0, locals := 24 } (va_Pc [.ref o_t] (mP D cs (List.flatten [w9 cs o_t a_t s_t]) sz)) (qI D cs res (List.flatten [w9 cs o_t a_t s_t]) (va_A (List.flatten [w9 cs o_t a_t s_t]) sz)) 0 0 (va_A (List.flatten [w9 cs o_t a_t s_t]) sz) := by
  refine mgo (Qc := qI D cs res (List.flatten [w9 cs o_t a_t s_t])) (cc := cX9_awakeLamps) (maxL := 3) (ret := (some .int)) (by decide) rfl (Nat.le_of_ble_eq_true rfl) ?_
  intro p e s m below meth c ls A R Q args H hR hQ hx hb hml hr hlocks hown hts hP hK hD hA hS hG hl
  have hown : s.vm.findClass RX9 = some m.cls := hown
  have hl : lv_has ls 3 [(0, .ref o_t)] := hl
  have hW : ∀ w ∈ WG, w.before args s = true := fun w h => hts w (List.mem_cons_of_mem _ h)
  have htX9 : ∀ w ∈ u_ws RX9 TX9 11, w.before args s = true := fun w h => hW w (inW_X9 w h)
  unfold f9_awakeLamps at hf
  refine lv_iconst (v := 0) hx hb dX9_awakeLamps_0 (by decide) ?_
  refine lv_istore_n (lv' := [(1, .int 0), (0, .ref o_t)]) hx hb dX9_awakeLamps_1 rfl hl (by decide) rfl (fun ls hl => ?_)
  refine lv_iconst (v := 0) hx hb dX9_awakeLamps_2 (by decide) ?_
  refine lv_istore_n (lv' := [(2, .int 0), (1, .int 0), (0, .ref o_t)]) hx hb dX9_awakeLamps_3 rfl hl (by decide) rfl (fun ls hl => ?_)
  obtain ⟨q1, hq1, hf⟩ := bnd hf
  obtain ⟨n1, hq1⟩ := lpw_ex hq1
  have Jq1_0 : ∀ rr1_0 : Int32, q1 = rr1_0 → ∀ (H : Heap) (locs : List Loc) (ls : Array Slot), va_P D vwCl (List.flatten [w9 cs o_t a_t s_t]) H → va_D A (List.flatten [w9 cs o_t a_t s_t]) → va_S A s.heap H locs → lv_has ls 3 [(1, .int rr1_0)] → W p l e R s m args below meth c H locs 0 0 Q (F0 m 44 ls []) := by
    intro rr1_0 eq1 H locs ls hP hD hS hl
    subst eq1
    refine lv_iload_n hx hb dX9_awakeLamps_44 rfl (lv_at hl 0 rfl) ?_
    obtain rfl := Option.some.inj hf
    exact mretI hx hb hr hlocks hK hP hD hS rfl hQ dX9_awakeLamps_45
  clear hf
  have L1 : ∀ n1, ∀ v2 : Int32 × Int32, lp n1 (f9_awakeLamps_L1 s_t) v2 = some q1 → ∀ (H : Heap) (locs : List Loc) (ls : Array Slot), va_P D vwCl (List.flatten [w9 cs o_t a_t s_t]) H → va_D A (List.flatten [w9 cs o_t a_t s_t]) → va_S A s.heap H locs → lv_has ls 3 [(0, .ref o_t), (1, .int v2.1), (2, .int v2.2)] → W p l e R s m args below meth c H locs 0 0 Q (F0 m 4 ls []) := by
    intro n1
    induction n1 with
    | zero => intro v2 hn; cases hn
    | succ n1 ih1 =>
      intro v2 hn1 H locs ls hP hD hS hl
      obtain ⟨y1, hf, hn1⟩ := lp_succ hn1
      unfold f9_awakeLamps_L1 at hf
      refine lv_iload_n hx hb dX9_awakeLamps_4 rfl (lv_at hl 2 rfl) ?_
      refine lv_aload_n hx hb dX9_awakeLamps_5 rfl (lv_at hl 0 rfl) ?_
      refine gfB (i0 := 0) (own := RX9) (T := TX9) (k := 1) (v := .int (s_t.1 1)) hx hb htX9 hown hK hP rfl e9 rfl (by decide) (hW _ wd152) rfl dX9_awakeLamps_6 ?_
      refine lv_icmp_ge (tgt := 44) hx hb dX9_awakeLamps_9 (by decide) (fun hc => ?_) (fun hc => ?_)
      · have hf := ifp hc hf
        cases hf
        exact Jq1_0 _ (Option.some.inj hn1).symm _ _ _ hP hD hS (lv_sub hl [1] rfl)
      · have hf := ifn hc hf
        refine lv_aload_n hx hb dX9_awakeLamps_12 rfl (lv_at hl 0 rfl) ?_
        refine lv_aload_n hx hb dX9_awakeLamps_13 rfl (lv_at hl 0 rfl) ?_
        refine gfB (i0 := 0) (own := RX9) (T := TX9) (k := 8) (v := .ref (a_t 8)) hx hb htX9 hown hK hP rfl e9 rfl (by decide) (hW _ wd172) rfl dX9_awakeLamps_14 ?_
        refine lv_iload_n hx hb dX9_awakeLamps_17 rfl (lv_at hl 2 rfl) ?_
        obtain ⟨q3, eq3, hf⟩ := bnd hf
        obtain ⟨gq3, eq3⟩ := ldO_e eq3
        refine aldB (i0 := 0) hx hb hK hP rfl a9_8 gq3 dX9_awakeLamps_18 ?_
        refine lv_nm eq3 ?_
        refine lv_aload_n hx hb dX9_awakeLamps_19 rfl (lv_at hl 0 rfl) ?_
        refine gfB (i0 := 0) (own := RX9) (T := TX9) (k := 2) (v := .int (s_t.1 2)) hx hb htX9 hown hK hP rfl e9 rfl (by decide) (hW _ wd157) rfl dX9_awakeLamps_20 ?_
        refine lv_bipush (v := 24) hx hb dX9_awakeLamps_23 (by decide) ?_
        refine lv_irem hx hb dX9_awakeLamps_25 (by decide) ?_
        obtain ⟨q4, eq4, hf⟩ := bnd hf
        refine mcVi (v := (zB q4)) (rest := []) (Bn := [w9 cs o_t a_t s_t]) (isR := []) (isC := [0]) (i0 := 0) ⟨hx, hb, hml, hown, hts⟩ hK hP hD hS hA hG (c9_isAwake l D cs o_t a_t s_t H.size q3 ((s_t.1 2) - (s_t.1 2) / 24 * 24) _ eq4) (cwV 2 hts (gV wd514 wd515 wd516 wd107 wd517) rfl rfl rfl (by decide +kernel) ⟨by rw [hR]; exact Nat.le_of_ble_eq_true rfl, by rw [hR]; exact Nat.le_of_ble_eq_true rfl⟩) 1 (by decide) rfl rfl rfl rfl rfl rfl rfl e9 rfl rfl rfl hl.1 rfl (Nat.le_of_ble_eq_true rfl) ⟨Nat.zero_le _, Nat.zero_le _⟩ dX9_awakeLamps_26 (fun H locs hP hD hS => ?_)
        obtain ⟨q5, hq5, hf⟩ := bnd hf
        have Jq5 : ∀ r5 : Int32, q5 = r5 → ∀ (H : Heap) (locs : List Loc) (ls : Array Slot), va_P D vwCl (List.flatten [w9 cs o_t a_t s_t]) H → va_D A (List.flatten [w9 cs o_t a_t s_t]) → va_S A s.heap H locs → lv_has ls 3 [(0, .ref o_t), (1, .int r5), (2, .int v2.2)] → W p l e R s m args below meth c H locs 0 0 Q (F0 m 38 ls []) := by
          intro r5 eq5 H locs ls hP hD hS hl
          subst eq5
          refine lv_iinc (v := (v2.2 + 1)) (lv' := [(2, .int (v2.2 + 1)), (0, .ref o_t), (1, .int q5)]) hx hb dX9_awakeLamps_38 hl (k := 2) rfl rfl (by decide) rfl (fun ls hl => ?_)
          refine lv_goto (tgt := 4) hx hb dX9_awakeLamps_41 (by decide) ?_
          cases hf
          exact ih1 _ hn1 _ _ _ hP hD hS (lv_sub hl [1, 2, 0] rfl)
        clear hf
        have hf := hq5
        refine lv_if_eq (tgt := 38) hx hb dX9_awakeLamps_29 (by decide) (fun hc => ?_) (fun hc => ?_)
        · have hf := ifp hc hf
          exact Jq5 _ (Option.some.inj hf).symm _ _ _ hP hD hS (lv_sub hl [0, 1, 2] rfl)
        · have hf := ifn hc hf
          refine lv_iload_n hx hb dX9_awakeLamps_32 rfl (lv_at hl 1 rfl) ?_
          refine lv_iconst (v := 1) hx hb dX9_awakeLamps_33 (by decide) ?_
          refine lv_iload_n hx hb dX9_awakeLamps_34 rfl (lv_at hl 2 rfl) ?_
          refine lv_ishl hx hb dX9_awakeLamps_35 ?_
          refine lv_ior hx hb dX9_awakeLamps_36 ?_
          refine lv_istore_n (lv' := [(1, .int (v2.1 ||| ((1 : Int32) <<< (v2.2 &&& 31)))), (0, .ref o_t), (2, .int v2.2)]) hx hb dX9_awakeLamps_37 rfl hl (by decide) rfl (fun ls hl => ?_)
          exact Jq5 _ (Option.some.inj hf).symm _ _ _ hP hD hS (lv_sub hl [1, 0, 2] rfl)
  exact L1 _ _ hq1 _ _ _ hP hD hS (lv_sub hl [2, 1, 0] rfl)
/-! TwinLamps$Town.allLamps -/
noncomputable def f9_allLamps (s_t : St) : Option (Int32) :=
  some (((1 : Int32) <<< ((s_t.1 1) &&& 31)) - 1)
set_option maxHeartbeats 4000000 in
set_option maxRecDepth 100000 in
theorem c9_allLamps (l : Launch) (D : va_G) (cs : xE) (o_t : Nat) (a_t : Nat → Nat) (s_t : St) (sz : Nat) (res : Int32) (hf : f9_allLamps s_t = some res) : Met l yX9_allLamps (Cond.code yX9_allLamps cX9_allLamps 1 (some .int) :: WG) { frames := 0, cells := 0, slots := 0, locals := 0 } (va_Pc [.ref o_t] (mP D cs (List.flatten [w9 cs o_t a_t s_t]) sz)) (qI D cs res (List.flatten [w9 cs o_t a_t s_t]) (va_A (List.flatten [w9 cs o_t a_t s_t]) sz)) 0 0 (va_A (List.flatten [w9 cs o_t a_t s_t]) sz) := by
  refine mgo (Qc := qI D cs res (List.flatten [w9 cs o_t a_t s_t])) (cc := cX9_allLamps) (maxL := 1) (ret := (some .int)) (by decide) rfl (Nat.le_of_ble_eq_true rfl) ?_
  intro p e s m below meth c ls A R Q args H hR hQ hx hb hml hr hlocks hown hts hP hK hD hA hS hG hl
  have hown : s.vm.findClass RX9 = some m.cls := hown
  have hl : lv_has ls 1 [(0, .ref o_t)] := hl
  have hW : ∀ w ∈ WG, w.before args s = true := fun w h => hts w (List.mem_cons_of_mem _ h)
  have htX9 : ∀ w ∈ u_ws RX9 TX9 11, w.before args s = true := fun w h => hW w (inW_X9 w h)
  unfold f9_allLamps at hf
  refine lv_iconst (v := 1) hx hb dX9_allLamps_0 (by decide) ?_
  refine lv_aload_n hx hb dX9_allLamps_1 rfl (lv_at hl 0 rfl) ?_
  refine gfB (i0 := 0) (own := RX9) (T := TX9) (k := 1) (v := .int (s_t.1 1)) hx hb htX9 hown hK hP rfl e9 rfl (by decide) (hW _ wd152) rfl dX9_allLamps_2 ?_
  refine lv_ishl hx hb dX9_allLamps_5 ?_
  refine lv_iconst (v := 1) hx hb dX9_allLamps_6 (by decide) ?_
  refine lv_isub hx hb dX9_allLamps_7 ?_
  obtain rfl := Option.some.inj hf
  exact mretI hx hb hr hlocks hK hP hD hS rfl hQ dX9_allLamps_8
/-! TwinLamps$Town.lampsOf -/
noncomputable def f9_lampsOf_L1 (s_t : St) (x1 : Int32) (v2 : Int32 × Int32) : Option ((Int32 × Int32) ⊕ (Int32)) :=
  if (s_t.1 1) ≤ v2.2 then some (.inr v2.1) else (ldO 12 (s_t.2 8) v2.2).bind fun q3 =>
  ((if q3 = x1 then some (v2.1 ||| ((1 : Int32) <<< (v2.2 &&& 31))) else some v2.1 : Option (Int32))).bind fun q4 =>
  some (.inl (q4, (v2.2 + 1)))
noncomputable def f9_lampsOf (s_t : St) (x1 : Int32) : Option (Int32) :=
  (lpw (f9_lampsOf_L1 s_t x1) (0, 0)).bind fun q1 =>
  some q1
set_option maxHeartbeats 4000000 in
set_option maxRecDepth 100000 in
theorem c9_lampsOf (l : Launch) (D : va_G) (cs : xE) (o_t : Nat) (a_t : Nat → Nat) (s_t : St) (sz : Nat) (x1 : Int32) (res : Int32) (hf : f9_lampsOf s_t x1 = some res) : Met l yX9_lampsOf (Cond.code yX9_lampsOf cX9_lampsOf 4 (some .int) :: WG) { frames := 0, cells := 0, slots := 0, locals := 0 } (va_Pc [.ref o_t, .int x1] (mP D cs (List.flatten [w9 cs o_t a_t s_t]) sz)) (qI D cs res (List.flatten [w9 cs o_t a_t s_t]) (va_A (List.flatten [w9 cs o_t a_t s_t]) sz)) 0 0 (va_A (List.flatten [w9 cs o_t a_t s_t]) sz) := by
  refine mgo (Qc := qI D cs res (List.flatten [w9 cs o_t a_t s_t])) (cc := cX9_lampsOf) (maxL := 4) (ret := (some .int)) (by decide) rfl (Nat.le_of_ble_eq_true rfl) ?_
  intro p e s m below meth c ls A R Q args H hR hQ hx hb hml hr hlocks hown hts hP hK hD hA hS hG hl
  have hown : s.vm.findClass RX9 = some m.cls := hown
  have hl : lv_has ls 4 [(0, .ref o_t), (1, .int x1)] := hl
  have hW : ∀ w ∈ WG, w.before args s = true := fun w h => hts w (List.mem_cons_of_mem _ h)
  have htX9 : ∀ w ∈ u_ws RX9 TX9 11, w.before args s = true := fun w h => hW w (inW_X9 w h)
  unfold f9_lampsOf at hf
  refine lv_iconst (v := 0) hx hb dX9_lampsOf_0 (by decide) ?_
  refine lv_istore_n (lv' := [(2, .int 0), (0, .ref o_t), (1, .int x1)]) hx hb dX9_lampsOf_1 rfl hl (by decide) rfl (fun ls hl => ?_)
  refine lv_iconst (v := 0) hx hb dX9_lampsOf_2 (by decide) ?_
  refine lv_istore_n (lv' := [(3, .int 0), (2, .int 0), (0, .ref o_t), (1, .int x1)]) hx hb dX9_lampsOf_3 rfl hl (by decide) rfl (fun ls hl => ?_)
  obtain ⟨q1, hq1, hf⟩ := bnd hf
  obtain ⟨n1, hq1⟩ := lpw_ex hq1
  have Jq1_0 : ∀ rr1_0 : Int32, q1 = rr1_0 → ∀ (H : Heap) (locs : List Loc) (ls : Array Slot), va_P D vwCl (List.flatten [w9 cs o_t a_t s_t]) H → va_D A (List.flatten [w9 cs o_t a_t s_t]) → va_S A s.heap H locs → lv_has ls 4 [(2, .int rr1_0)] → W p l e R s m args below meth c H locs 0 0 Q (F0 m 34 ls []) := by
    intro rr1_0 eq1 H locs ls hP hD hS hl
    subst eq1
    refine lv_iload_n hx hb dX9_lampsOf_34 rfl (lv_at hl 0 rfl) ?_
    obtain rfl := Option.some.inj hf
    exact mretI hx hb hr hlocks hK hP hD hS rfl hQ dX9_lampsOf_35
  clear hf
  have L1 : ∀ n1, ∀ v2 : Int32 × Int32, lp n1 (f9_lampsOf_L1 s_t x1) v2 = some q1 → ∀ (H : Heap) (locs : List Loc) (ls : Array Slot), va_P D vwCl (List.flatten [w9 cs o_t a_t s_t]) H → va_D A (List.flatten [w9 cs o_t a_t s_t]) → va_S A s.heap H locs → lv_has ls 4 [(0, .ref o_t), (1, .int x1), (2, .int v2.1), (3, .int v2.2)] → W p l e R s m args below meth c H locs 0 0 Q (F0 m 4 ls []) := by
    intro n1
    induction n1 with
    | zero => intro v2 hn; cases hn
    | succ n1 ih1 =>
      intro v2 hn1 H locs ls hP hD hS hl
      obtain ⟨y1, hf, hn1⟩ := lp_succ hn1
      unfold f9_lampsOf_L1 at hf
      refine lv_iload_n hx hb dX9_lampsOf_4 rfl (lv_at hl 3 rfl) ?_
      refine lv_aload_n hx hb dX9_lampsOf_5 rfl (lv_at hl 0 rfl) ?_
      refine gfB (i0 := 0) (own := RX9) (T := TX9) (k := 1) (v := .int (s_t.1 1)) hx hb htX9 hown hK hP rfl e9 rfl (by decide) (hW _ wd152) rfl dX9_lampsOf_6 ?_
      refine lv_icmp_ge (tgt := 34) hx hb dX9_lampsOf_9 (by decide) (fun hc => ?_) (fun hc => ?_)
      · have hf := ifp hc hf
        cases hf
        exact Jq1_0 _ (Option.some.inj hn1).symm _ _ _ hP hD hS (lv_sub hl [2] rfl)
      · have hf := ifn hc hf
        refine lv_aload_n hx hb dX9_lampsOf_12 rfl (lv_at hl 0 rfl) ?_
        refine gfB (i0 := 0) (own := RX9) (T := TX9) (k := 8) (v := .ref (a_t 8)) hx hb htX9 hown hK hP rfl e9 rfl (by decide) (hW _ wd172) rfl dX9_lampsOf_13 ?_
        refine lv_iload_n hx hb dX9_lampsOf_16 rfl (lv_at hl 3 rfl) ?_
        obtain ⟨q3, eq3, hf⟩ := bnd hf
        obtain ⟨gq3, eq3⟩ := ldO_e eq3
        refine aldB (i0 := 0) hx hb hK hP rfl a9_8 gq3 dX9_lampsOf_17 ?_
        refine lv_nm eq3 ?_
        refine lv_iload_n hx hb dX9_lampsOf_18 rfl (lv_at hl 1 rfl) ?_
        obtain ⟨q4, hq4, hf⟩ := bnd hf
        have Jq4 : ∀ r4 : Int32, q4 = r4 → ∀ (H : Heap) (locs : List Loc) (ls : Array Slot), va_P D vwCl (List.flatten [w9 cs o_t a_t s_t]) H → va_D A (List.flatten [w9 cs o_t a_t s_t]) → va_S A s.heap H locs → lv_has ls 4 [(0, .ref o_t), (1, .int x1), (2, .int r4), (3, .int v2.2)] → W p l e R s m args below meth c H locs 0 0 Q (F0 m 28 ls []) := by
          intro r4 eq4 H locs ls hP hD hS hl
          subst eq4
          refine lv_iinc (v := (v2.2 + 1)) (lv' := [(3, .int (v2.2 + 1)), (0, .ref o_t), (1, .int x1), (2, .int q4)]) hx hb dX9_lampsOf_28 hl (k := 3) rfl rfl (by decide) rfl (fun ls hl => ?_)
          refine lv_goto (tgt := 4) hx hb dX9_lampsOf_31 (by decide) ?_
          cases hf
          exact ih1 _ hn1 _ _ _ hP hD hS (lv_sub hl [1, 2, 3, 0] rfl)
        clear hf
        have hf := hq4
        refine lv_icmp_ne (tgt := 28) hx hb dX9_lampsOf_19 (by decide) (fun hc => ?_) (fun hc => ?_)
        · have hf := ifn hc hf
          exact Jq4 _ (Option.some.inj hf).symm _ _ _ hP hD hS (lv_sub hl [0, 1, 2, 3] rfl)
        · have hf := ifp hc hf
          refine lv_iload_n hx hb dX9_lampsOf_22 rfl (lv_at hl 2 rfl) ?_
          refine lv_iconst (v := 1) hx hb dX9_lampsOf_23 (by decide) ?_
          refine lv_iload_n hx hb dX9_lampsOf_24 rfl (lv_at hl 3 rfl) ?_
          refine lv_ishl hx hb dX9_lampsOf_25 ?_
          refine lv_ior hx hb dX9_lampsOf_26 ?_
          refine lv_istore_n (lv' := [(2, .int (v2.1 ||| ((1 : Int32) <<< (v2.2 &&& 31)))), (0, .ref o_t), (1, .int x1), (3, .int v2.2)]) hx hb dX9_lampsOf_27 rfl hl (by decide) rfl (fun ls hl => ?_)
          exact Jq4 _ (Option.some.inj hf).symm _ _ _ hP hD hS (lv_sub hl [1, 2, 0, 3] rfl)
  exact L1 _ _ hq1 _ _ _ hP hD hS (lv_sub hl [2, 3, 1, 0] rfl)
/-! TwinLamps$Town.oilInAll -/
noncomputable def f9_oilInAll_L1 (s_t : St) (v2 : Int32 × Int32) : Option ((Int32 × Int32) ⊕ (Int32)) :=
  if (s_t.1 1) ≤ v2.2 then some (.inr v2.1) else (ldO 12 (s_t.2 9) v2.2).bind fun q3 =>
  some (.inl ((v2.1 + q3), (v2.2 + 1)))
noncomputable def f9_oilInAll (s_t : St) : Option (Int32) :=
  (lpw (f9_oilInAll_L1 s_t) (0, 0)).bind fun q1 =>
  some q1
set_option maxHeartbeats 4000000 in
set_option maxRecDepth 100000 in
theorem c9_oilInAll (l : Launch) (D : va_G) (cs : xE) (o_t : Nat) (a_t : Nat → Nat) (s_t : St) (sz : Nat) (res : Int32) (hf : f9_oilInAll s_t = some res) : Met l yX9_oilInAll (Cond.code yX9_oilInAll cX9_oilInAll 3 (some .int) :: WG) { frames := 0, cells := 0, slots := 0, locals := 0 } (va_Pc [.ref o_t] (mP D cs (List.flatten [w9 cs o_t a_t s_t]) sz)) (qI D cs res (List.flatten [w9 cs o_t a_t s_t]) (va_A (List.flatten [w9 cs o_t a_t s_t]) sz)) 0 0 (va_A (List.flatten [w9 cs o_t a_t s_t]) sz) := by
  refine mgo (Qc := qI D cs res (List.flatten [w9 cs o_t a_t s_t])) (cc := cX9_oilInAll) (maxL := 3) (ret := (some .int)) (by decide) rfl (Nat.le_of_ble_eq_true rfl) ?_
  intro p e s m below meth c ls A R Q args H hR hQ hx hb hml hr hlocks hown hts hP hK hD hA hS hG hl
  have hown : s.vm.findClass RX9 = some m.cls := hown
  have hl : lv_has ls 3 [(0, .ref o_t)] := hl
  have hW : ∀ w ∈ WG, w.before args s = true := fun w h => hts w (List.mem_cons_of_mem _ h)
  have htX9 : ∀ w ∈ u_ws RX9 TX9 11, w.before args s = true := fun w h => hW w (inW_X9 w h)
  unfold f9_oilInAll at hf
  refine lv_iconst (v := 0) hx hb dX9_oilInAll_0 (by decide) ?_
  refine lv_istore_n (lv' := [(1, .int 0), (0, .ref o_t)]) hx hb dX9_oilInAll_1 rfl hl (by decide) rfl (fun ls hl => ?_)
  refine lv_iconst (v := 0) hx hb dX9_oilInAll_2 (by decide) ?_
  refine lv_istore_n (lv' := [(2, .int 0), (1, .int 0), (0, .ref o_t)]) hx hb dX9_oilInAll_3 rfl hl (by decide) rfl (fun ls hl => ?_)
  obtain ⟨q1, hq1, hf⟩ := bnd hf
  obtain ⟨n1, hq1⟩ := lpw_ex hq1
  have Jq1_0 : ∀ rr1_0 : Int32, q1 = rr1_0 → ∀ (H : Heap) (locs : List Loc) (ls : Array Slot), va_P D vwCl (List.flatten [w9 cs o_t a_t s_t]) H → va_D A (List.flatten [w9 cs o_t a_t s_t]) → va_S A s.heap H locs → lv_has ls 3 [(1, .int rr1_0)] → W p l e R s m args below meth c H locs 0 0 Q (F0 m 27 ls []) := by
    intro rr1_0 eq1 H locs ls hP hD hS hl
    subst eq1
    refine lv_iload_n hx hb dX9_oilInAll_27 rfl (lv_at hl 0 rfl) ?_
    obtain rfl := Option.some.inj hf
    exact mretI hx hb hr hlocks hK hP hD hS rfl hQ dX9_oilInAll_28
  clear hf
  have L1 : ∀ n1, ∀ v2 : Int32 × Int32, lp n1 (f9_oilInAll_L1 s_t) v2 = some q1 → ∀ (H : Heap) (locs : List Loc) (ls : Array Slot), va_P D vwCl (List.flatten [w9 cs o_t a_t s_t]) H → va_D A (List.flatten [w9 cs o_t a_t s_t]) → va_S A s.heap H locs → lv_has ls 3 [(0, .ref o_t), (1, .int v2.1), (2, .int v2.2)] → W p l e R s m args below meth c H locs 0 0 Q (F0 m 4 ls []) := by
    intro n1
    induction n1 with
    | zero => intro v2 hn; cases hn
    | succ n1 ih1 =>
      intro v2 hn1 H locs ls hP hD hS hl
      obtain ⟨y1, hf, hn1⟩ := lp_succ hn1
      unfold f9_oilInAll_L1 at hf
      refine lv_iload_n hx hb dX9_oilInAll_4 rfl (lv_at hl 2 rfl) ?_
      refine lv_aload_n hx hb dX9_oilInAll_5 rfl (lv_at hl 0 rfl) ?_
      refine gfB (i0 := 0) (own := RX9) (T := TX9) (k := 1) (v := .int (s_t.1 1)) hx hb htX9 hown hK hP rfl e9 rfl (by decide) (hW _ wd152) rfl dX9_oilInAll_6 ?_
      refine lv_icmp_ge (tgt := 27) hx hb dX9_oilInAll_9 (by decide) (fun hc => ?_) (fun hc => ?_)
      · have hf := ifp hc hf
        cases hf
        exact Jq1_0 _ (Option.some.inj hn1).symm _ _ _ hP hD hS (lv_sub hl [1] rfl)
      · have hf := ifn hc hf
        refine lv_iload_n hx hb dX9_oilInAll_12 rfl (lv_at hl 1 rfl) ?_
        refine lv_aload_n hx hb dX9_oilInAll_13 rfl (lv_at hl 0 rfl) ?_
        refine gfB (i0 := 0) (own := RX9) (T := TX9) (k := 9) (v := .ref (a_t 9)) hx hb htX9 hown hK hP rfl e9 rfl (by decide) (hW _ wd175) rfl dX9_oilInAll_14 ?_
        refine lv_iload_n hx hb dX9_oilInAll_17 rfl (lv_at hl 2 rfl) ?_
        obtain ⟨q3, eq3, hf⟩ := bnd hf
        obtain ⟨gq3, eq3⟩ := ldO_e eq3
        refine aldB (i0 := 0) hx hb hK hP rfl a9_9 gq3 dX9_oilInAll_18 ?_
        refine lv_nm eq3 ?_
        refine lv_iadd hx hb dX9_oilInAll_19 ?_
        refine lv_istore_n (lv' := [(1, .int (v2.1 + q3)), (0, .ref o_t), (2, .int v2.2)]) hx hb dX9_oilInAll_20 rfl hl (by decide) rfl (fun ls hl => ?_)
        refine lv_iinc (v := (v2.2 + 1)) (lv' := [(2, .int (v2.2 + 1)), (1, .int (v2.1 + q3)), (0, .ref o_t)]) hx hb dX9_oilInAll_21 hl (k := 2) rfl rfl (by decide) rfl (fun ls hl => ?_)
        refine lv_goto (tgt := 4) hx hb dX9_oilInAll_24 (by decide) ?_
        cases hf
        exact ih1 _ hn1 _ _ _ hP hD hS (lv_sub hl [2, 1, 0] rfl)
  exact L1 _ _ hq1 _ _ _ hP hD hS (lv_sub hl [2, 1, 0] rfl)
/-! TwinLamps$Town.singletons -/
noncomputable def f9_singletons_L1 (s_t : St) (v2 : Int32 × Int32) : Option ((Int32 × Int32) ⊕ (Int32)) :=
  if (s_t.1 1) ≤ v2.2 then some (.inr v2.1) else (ldO 12 (s_t.2 10) v2.2).bind fun q3 =>
  ((if q3 = (-1) then some (v2.1 ||| ((1 : Int32) <<< (v2.2 &&& 31))) else some v2.1 : Option (Int32))).bind fun q4 =>
  some (.inl (q4, (v2.2 + 1)))
noncomputable def f9_singletons (s_t : St) : Option (Int32) :=
  (lpw (f9_singletons_L1 s_t) (0, 0)).bind fun q1 =>
  some q1
set_option maxHeartbeats 4000000 in
set_option maxRecDepth 100000 in
theorem c9_singletons (l : Launch) (D : va_G) (cs : xE) (o_t : Nat) (a_t : Nat → Nat) (s_t : St) (sz : Nat) (res : Int32) (hf : f9_singletons s_t = some res) : Met l yX9_singletons (Cond.code yX9_singletons cX9_singletons 3 (some .int) :: WG) { frames := 0, cells := 0, slots := 0, locals := 0 } (va_Pc [.ref o_t] (mP D cs (List.flatten [w9 cs o_t a_t s_t]) sz)) (qI D cs res (List.flatten [w9 cs o_t a_t s_t]) (va_A (List.flatten [w9 cs o_t a_t s_t]) sz)) 0 0 (va_A (List.flatten [w9 cs o_t a_t s_t]) sz) := by
  refine mgo (Qc := qI D cs res (List.flatten [w9 cs o_t a_t s_t])) (cc := cX9_singletons) (maxL := 3) (ret := (some .int)) (by decide) rfl (Nat.le_of_ble_eq_true rfl) ?_
  intro p e s m below meth c ls A R Q args H hR hQ hx hb hml hr hlocks hown hts hP hK hD hA hS hG hl
  have hown : s.vm.findClass RX9 = some m.cls := hown
  have hl : lv_has ls 3 [(0, .ref o_t)] := hl
  have hW : ∀ w ∈ WG, w.before args s = true := fun w h => hts w (List.mem_cons_of_mem _ h)
  have htX9 : ∀ w ∈ u_ws RX9 TX9 11, w.before args s = true := fun w h => hW w (inW_X9 w h)
  unfold f9_singletons at hf
  refine lv_iconst (v := 0) hx hb dX9_singletons_0 (by decide) ?_
  refine lv_istore_n (lv' := [(1, .int 0), (0, .ref o_t)]) hx hb dX9_singletons_1 rfl hl (by decide) rfl (fun ls hl => ?_)
  refine lv_iconst (v := 0) hx hb dX9_singletons_2 (by decide) ?_
  refine lv_istore_n (lv' := [(2, .int 0), (1, .int 0), (0, .ref o_t)]) hx hb dX9_singletons_3 rfl hl (by decide) rfl (fun ls hl => ?_)
  obtain ⟨q1, hq1, hf⟩ := bnd hf
  obtain ⟨n1, hq1⟩ := lpw_ex hq1
  have Jq1_0 : ∀ rr1_0 : Int32, q1 = rr1_0 → ∀ (H : Heap) (locs : List Loc) (ls : Array Slot), va_P D vwCl (List.flatten [w9 cs o_t a_t s_t]) H → va_D A (List.flatten [w9 cs o_t a_t s_t]) → va_S A s.heap H locs → lv_has ls 3 [(1, .int rr1_0)] → W p l e R s m args below meth c H locs 0 0 Q (F0 m 34 ls []) := by
    intro rr1_0 eq1 H locs ls hP hD hS hl
    subst eq1
    refine lv_iload_n hx hb dX9_singletons_34 rfl (lv_at hl 0 rfl) ?_
    obtain rfl := Option.some.inj hf
    exact mretI hx hb hr hlocks hK hP hD hS rfl hQ dX9_singletons_35
  clear hf
  have L1 : ∀ n1, ∀ v2 : Int32 × Int32, lp n1 (f9_singletons_L1 s_t) v2 = some q1 → ∀ (H : Heap) (locs : List Loc) (ls : Array Slot), va_P D vwCl (List.flatten [w9 cs o_t a_t s_t]) H → va_D A (List.flatten [w9 cs o_t a_t s_t]) → va_S A s.heap H locs → lv_has ls 3 [(0, .ref o_t), (1, .int v2.1), (2, .int v2.2)] → W p l e R s m args below meth c H locs 0 0 Q (F0 m 4 ls []) := by
    intro n1
    induction n1 with
    | zero => intro v2 hn; cases hn
    | succ n1 ih1 =>
      intro v2 hn1 H locs ls hP hD hS hl
      obtain ⟨y1, hf, hn1⟩ := lp_succ hn1
      unfold f9_singletons_L1 at hf
      refine lv_iload_n hx hb dX9_singletons_4 rfl (lv_at hl 2 rfl) ?_
      refine lv_aload_n hx hb dX9_singletons_5 rfl (lv_at hl 0 rfl) ?_
      refine gfB (i0 := 0) (own := RX9) (T := TX9) (k := 1) (v := .int (s_t.1 1)) hx hb htX9 hown hK hP rfl e9 rfl (by decide) (hW _ wd152) rfl dX9_singletons_6 ?_
      refine lv_icmp_ge (tgt := 34) hx hb dX9_singletons_9 (by decide) (fun hc => ?_) (fun hc => ?_)
      · have hf := ifp hc hf
        cases hf
        exact Jq1_0 _ (Option.some.inj hn1).symm _ _ _ hP hD hS (lv_sub hl [1] rfl)
      · have hf := ifn hc hf
        refine lv_aload_n hx hb dX9_singletons_12 rfl (lv_at hl 0 rfl) ?_
        refine gfB (i0 := 0) (own := RX9) (T := TX9) (k := 10) (v := .ref (a_t 10)) hx hb htX9 hown hK hP rfl e9 rfl (by decide) (hW _ wd180) rfl dX9_singletons_13 ?_
        refine lv_iload_n hx hb dX9_singletons_16 rfl (lv_at hl 2 rfl) ?_
        obtain ⟨q3, eq3, hf⟩ := bnd hf
        obtain ⟨gq3, eq3⟩ := ldO_e eq3
        refine aldB (i0 := 0) hx hb hK hP rfl a9_10 gq3 dX9_singletons_17 ?_
        refine lv_nm eq3 ?_
        refine lv_iconst (v := (-1)) hx hb dX9_singletons_18 (by decide) ?_
        obtain ⟨q4, hq4, hf⟩ := bnd hf
        have Jq4 : ∀ r4 : Int32, q4 = r4 → ∀ (H : Heap) (locs : List Loc) (ls : Array Slot), va_P D vwCl (List.flatten [w9 cs o_t a_t s_t]) H → va_D A (List.flatten [w9 cs o_t a_t s_t]) → va_S A s.heap H locs → lv_has ls 3 [(0, .ref o_t), (1, .int r4), (2, .int v2.2)] → W p l e R s m args below meth c H locs 0 0 Q (F0 m 28 ls []) := by
          intro r4 eq4 H locs ls hP hD hS hl
          subst eq4
          refine lv_iinc (v := (v2.2 + 1)) (lv' := [(2, .int (v2.2 + 1)), (0, .ref o_t), (1, .int q4)]) hx hb dX9_singletons_28 hl (k := 2) rfl rfl (by decide) rfl (fun ls hl => ?_)
          refine lv_goto (tgt := 4) hx hb dX9_singletons_31 (by decide) ?_
          cases hf
          exact ih1 _ hn1 _ _ _ hP hD hS (lv_sub hl [1, 2, 0] rfl)
        clear hf
        have hf := hq4
        refine lv_icmp_ne (tgt := 28) hx hb dX9_singletons_19 (by decide) (fun hc => ?_) (fun hc => ?_)
        · have hf := ifn hc hf
          exact Jq4 _ (Option.some.inj hf).symm _ _ _ hP hD hS (lv_sub hl [0, 1, 2] rfl)
        · have hf := ifp hc hf
          refine lv_iload_n hx hb dX9_singletons_22 rfl (lv_at hl 1 rfl) ?_
          refine lv_iconst (v := 1) hx hb dX9_singletons_23 (by decide) ?_
          refine lv_iload_n hx hb dX9_singletons_24 rfl (lv_at hl 2 rfl) ?_
          refine lv_ishl hx hb dX9_singletons_25 ?_
          refine lv_ior hx hb dX9_singletons_26 ?_
          refine lv_istore_n (lv' := [(1, .int (v2.1 ||| ((1 : Int32) <<< (v2.2 &&& 31)))), (0, .ref o_t), (2, .int v2.2)]) hx hb dX9_singletons_27 rfl hl (by decide) rfl (fun ls hl => ?_)
          exact Jq4 _ (Option.some.inj hf).symm _ _ _ hP hD hS (lv_sub hl [1, 0, 2] rfl)
  exact L1 _ _ hq1 _ _ _ hP hD hS (lv_sub hl [2, 1, 0] rfl)
/-! TwinLamps$Town.happyLamps -/
noncomputable def f9_happyLamps_L1 (s_t : St) (v2 : Int32 × Int32) : Option ((Int32 × Int32) ⊕ (Int32)) :=
  if (s_t.1 1) ≤ v2.2 then some (.inr v2.1) else (ldO 12 (s_t.2 10) v2.2).bind fun q3 =>
  ((if q3 < 0 then some v2.1 else if (s_t.1 1) ≤ q3 then some v2.1 else (ldO 12 (s_t.2 8) q3).bind fun q5 =>
  (ldO 12 (s_t.2 8) v2.2).bind fun q6 =>
  if q5 = q6 then some (v2.1 ||| ((1 : Int32) <<< (v2.2 &&& 31))) else some v2.1 : Option (Int32))).bind fun q4 =>
  some (.inl (q4, (v2.2 + 1)))
noncomputable def f9_happyLamps (s_t : St) : Option (Int32) :=
  (lpw (f9_happyLamps_L1 s_t) (0, 0)).bind fun q1 =>
  some q1
set_option maxHeartbeats 4000000 in
set_option maxRecDepth 100000 in
theorem c9_happyLamps (l : Launch) (D : va_G) (cs : xE) (o_t : Nat) (a_t : Nat → Nat) (s_t : St) (sz : Nat) (res : Int32) (hf : f9_happyLamps s_t = some res) : Met l yX9_happyLamps (Cond.code yX9_happyLamps cX9_happyLamps 4 (some .int) :: WG) { frames := 0, cells := 0, slots := 0, locals := 0 } (va_Pc [.ref o_t] (mP D cs (List.flatten [w9 cs o_t a_t s_t]) sz)) (qI D cs res (List.flatten [w9 cs o_t a_t s_t]) (va_A (List.flatten [w9 cs o_t a_t s_t]) sz)) 0 0 (va_A (List.flatten [w9 cs o_t a_t s_t]) sz) := by
  refine mgo (Qc := qI D cs res (List.flatten [w9 cs o_t a_t s_t])) (cc := cX9_happyLamps) (maxL := 4) (ret := (some .int)) (by decide) rfl (Nat.le_of_ble_eq_true rfl) ?_
  intro p e s m below meth c ls A R Q args H hR hQ hx hb hml hr hlocks hown hts hP hK hD hA hS hG hl
  have hown : s.vm.findClass RX9 = some m.cls := hown
  have hl : lv_has ls 4 [(0, .ref o_t)] := hl
  have hW : ∀ w ∈ WG, w.before args s = true := fun w h => hts w (List.mem_cons_of_mem _ h)
  have htX9 : ∀ w ∈ u_ws RX9 TX9 11, w.before args s = true := fun w h => hW w (inW_X9 w h)
  unfold f9_happyLamps at hf
  refine lv_iconst (v := 0) hx hb dX9_happyLamps_0 (by decide) ?_
  refine lv_istore_n (lv' := [(1, .int 0), (0, .ref o_t)]) hx hb dX9_happyLamps_1 rfl hl (by decide) rfl (fun ls hl => ?_)
  refine lv_iconst (v := 0) hx hb dX9_happyLamps_2 (by decide) ?_
  refine lv_istore_n (lv' := [(2, .int 0), (1, .int 0), (0, .ref o_t)]) hx hb dX9_happyLamps_3 rfl hl (by decide) rfl (fun ls hl => ?_)
  obtain ⟨q1, hq1, hf⟩ := bnd hf
  obtain ⟨n1, hq1⟩ := lpw_ex hq1
  have Jq1_0 : ∀ rr1_0 : Int32, q1 = rr1_0 → ∀ (H : Heap) (locs : List Loc) (ls : Array Slot), va_P D vwCl (List.flatten [w9 cs o_t a_t s_t]) H → va_D A (List.flatten [w9 cs o_t a_t s_t]) → va_S A s.heap H locs → lv_has ls 4 [(1, .int rr1_0)] → W p l e R s m args below meth c H locs 0 0 Q (F0 m 58 ls []) := by
    intro rr1_0 eq1 H locs ls hP hD hS hl
    subst eq1
    refine lv_iload_n hx hb dX9_happyLamps_58 rfl (lv_at hl 0 rfl) ?_
    obtain rfl := Option.some.inj hf
    exact mretI hx hb hr hlocks hK hP hD hS rfl hQ dX9_happyLamps_59
  clear hf
  have L1 : ∀ n1, ∀ v2 : Int32 × Int32, lp n1 (f9_happyLamps_L1 s_t) v2 = some q1 → ∀ (H : Heap) (locs : List Loc) (ls : Array Slot), va_P D vwCl (List.flatten [w9 cs o_t a_t s_t]) H → va_D A (List.flatten [w9 cs o_t a_t s_t]) → va_S A s.heap H locs → lv_has ls 4 [(0, .ref o_t), (1, .int v2.1), (2, .int v2.2)] → W p l e R s m args below meth c H locs 0 0 Q (F0 m 4 ls []) := by
    intro n1
    induction n1 with
    | zero => intro v2 hn; cases hn
    | succ n1 ih1 =>
      intro v2 hn1 H locs ls hP hD hS hl
      obtain ⟨y1, hf, hn1⟩ := lp_succ hn1
      unfold f9_happyLamps_L1 at hf
      refine lv_iload_n hx hb dX9_happyLamps_4 rfl (lv_at hl 2 rfl) ?_
      refine lv_aload_n hx hb dX9_happyLamps_5 rfl (lv_at hl 0 rfl) ?_
      refine gfB (i0 := 0) (own := RX9) (T := TX9) (k := 1) (v := .int (s_t.1 1)) hx hb htX9 hown hK hP rfl e9 rfl (by decide) (hW _ wd152) rfl dX9_happyLamps_6 ?_
      refine lv_icmp_ge (tgt := 58) hx hb dX9_happyLamps_9 (by decide) (fun hc => ?_) (fun hc => ?_)
      · have hf := ifp hc hf
        cases hf
        exact Jq1_0 _ (Option.some.inj hn1).symm _ _ _ hP hD hS (lv_sub hl [1] rfl)
      · have hf := ifn hc hf
        refine lv_aload_n hx hb dX9_happyLamps_12 rfl (lv_at hl 0 rfl) ?_
        refine gfB (i0 := 0) (own := RX9) (T := TX9) (k := 10) (v := .ref (a_t 10)) hx hb htX9 hown hK hP rfl e9 rfl (by decide) (hW _ wd180) rfl dX9_happyLamps_13 ?_
        refine lv_iload_n hx hb dX9_happyLamps_16 rfl (lv_at hl 2 rfl) ?_
        obtain ⟨q3, eq3, hf⟩ := bnd hf
        obtain ⟨gq3, eq3⟩ := ldO_e eq3
        refine aldB (i0 := 0) hx hb hK hP rfl a9_10 gq3 dX9_happyLamps_17 ?_
        refine lv_nm eq3 ?_
        refine lv_istore_n (lv' := [(3, .int q3), (0, .ref o_t), (1, .int v2.1), (2, .int v2.2)]) hx hb dX9_happyLamps_18 rfl hl (by decide) rfl (fun ls hl => ?_)
        refine lv_iload_n hx hb dX9_happyLamps_19 rfl (lv_at hl 0 rfl) ?_
        obtain ⟨q4, hq4, hf⟩ := bnd hf
        have Jq4 : ∀ r4 : Int32, q4 = r4 → ∀ (H : Heap) (locs : List Loc) (ls : Array Slot), va_P D vwCl (List.flatten [w9 cs o_t a_t s_t]) H → va_D A (List.flatten [w9 cs o_t a_t s_t]) → va_S A s.heap H locs → lv_has ls 4 [(0, .ref o_t), (1, .int r4), (2, .int v2.2)] → W p l e R s m args below meth c H locs 0 0 Q (F0 m 52 ls []) := by
          intro r4 eq4 H locs ls hP hD hS hl
          subst eq4
          refine lv_iinc (v := (v2.2 + 1)) (lv' := [(2, .int (v2.2 + 1)), (0, .ref o_t), (1, .int q4)]) hx hb dX9_happyLamps_52 hl (k := 2) rfl rfl (by decide) rfl (fun ls hl => ?_)
          refine lv_goto (tgt := 4) hx hb dX9_happyLamps_55 (by decide) ?_
          cases hf
          exact ih1 _ hn1 _ _ _ hP hD hS (lv_sub hl [1, 2, 0] rfl)
        clear hf
        have hf := hq4
        refine lv_if_lt (tgt := 52) hx hb dX9_happyLamps_20 (by decide) (fun hc => ?_) (fun hc => ?_)
        · have hf := ifp hc hf
          exact Jq4 _ (Option.some.inj hf).symm _ _ _ hP hD hS (lv_sub hl [1, 2, 3] rfl)
        · have hf := ifn hc hf
          refine lv_iload_n hx hb dX9_happyLamps_23 rfl (lv_at hl 0 rfl) ?_
          refine lv_aload_n hx hb dX9_happyLamps_24 rfl (lv_at hl 1 rfl) ?_
          refine gfB (i0 := 0) (own := RX9) (T := TX9) (k := 1) (v := .int (s_t.1 1)) hx hb htX9 hown hK hP rfl e9 rfl (by decide) (hW _ wd152) rfl dX9_happyLamps_25 ?_
          refine lv_icmp_ge (tgt := 52) hx hb dX9_happyLamps_28 (by decide) (fun hc => ?_) (fun hc => ?_)
          · have hf := ifp hc hf
            exact Jq4 _ (Option.some.inj hf).symm _ _ _ hP hD hS (lv_sub hl [1, 2, 3] rfl)
          · have hf := ifn hc hf
            refine lv_aload_n hx hb dX9_happyLamps_31 rfl (lv_at hl 1 rfl) ?_
            refine gfB (i0 := 0) (own := RX9) (T := TX9) (k := 8) (v := .ref (a_t 8)) hx hb htX9 hown hK hP rfl e9 rfl (by decide) (hW _ wd172) rfl dX9_happyLamps_32 ?_
            refine lv_iload_n hx hb dX9_happyLamps_35 rfl (lv_at hl 0 rfl) ?_
            obtain ⟨q5, eq5, hf⟩ := bnd hf
            obtain ⟨gq5, eq5⟩ := ldO_e eq5
            refine aldB (i0 := 0) hx hb hK hP rfl a9_8 gq5 dX9_happyLamps_36 ?_
            refine lv_nm eq5 ?_
            refine lv_aload_n hx hb dX9_happyLamps_37 rfl (lv_at hl 1 rfl) ?_
            refine gfB (i0 := 0) (own := RX9) (T := TX9) (k := 8) (v := .ref (a_t 8)) hx hb htX9 hown hK hP rfl e9 rfl (by decide) (hW _ wd172) rfl dX9_happyLamps_38 ?_
            refine lv_iload_n hx hb dX9_happyLamps_41 rfl (lv_at hl 3 rfl) ?_
            obtain ⟨q6, eq6, hf⟩ := bnd hf
            obtain ⟨gq6, eq6⟩ := ldO_e eq6
            refine aldB (i0 := 0) hx hb hK hP rfl a9_8 gq6 dX9_happyLamps_42 ?_
            refine lv_nm eq6 ?_
            refine lv_icmp_ne (tgt := 52) hx hb dX9_happyLamps_43 (by decide) (fun hc => ?_) (fun hc => ?_)
            · have hf := ifn hc hf
              exact Jq4 _ (Option.some.inj hf).symm _ _ _ hP hD hS (lv_sub hl [1, 2, 3] rfl)
            · have hf := ifp hc hf
              refine lv_iload_n hx hb dX9_happyLamps_46 rfl (lv_at hl 2 rfl) ?_
              refine lv_iconst (v := 1) hx hb dX9_happyLamps_47 (by decide) ?_
              refine lv_iload_n hx hb dX9_happyLamps_48 rfl (lv_at hl 3 rfl) ?_
              refine lv_ishl hx hb dX9_happyLamps_49 ?_
              refine lv_ior hx hb dX9_happyLamps_50 ?_
              refine lv_istore_n (lv' := [(1, .int (v2.1 ||| ((1 : Int32) <<< (v2.2 &&& 31)))), (3, .int q3), (0, .ref o_t), (2, .int v2.2)]) hx hb dX9_happyLamps_51 rfl hl (by decide) rfl (fun ls hl => ?_)
              exact Jq4 _ (Option.some.inj hf).symm _ _ _ hP hD hS (lv_sub hl [2, 0, 3] rfl)
  exact L1 _ _ hq1 _ _ _ hP hD hS (lv_sub hl [2, 1, 0] rfl)
/-! TwinLamps$Town.couple -/
noncomputable def f9_couple (s_t : St) (x1 : Int32) : Option (Int32) :=
  (ldO 12 (s_t.2 10) x1).bind fun q1 =>
  if q1 = (-1) then some ((1 : Int32) <<< (x1 &&& 31)) else some (((1 : Int32) <<< (x1 &&& 31)) ||| ((1 : Int32) <<< (q1 &&& 31)))
set_option maxHeartbeats 4000000 in
set_option maxRecDepth 100000 in
theorem c9_couple (l : Launch) (D : va_G) (cs : xE) (o_t : Nat) (a_t : Nat → Nat) (s_t : St) (sz : Nat) (x1 : Int32) (res : Int32) (hf : f9_couple s_t x1 = some res) : Met l yX9_couple (Cond.code yX9_couple cX9_couple 3 (some .int) :: WG) { frames := 0, cells := 0, slots := 0, locals := 0 } (va_Pc [.ref o_t, .int x1] (mP D cs (List.flatten [w9 cs o_t a_t s_t]) sz)) (qI D cs res (List.flatten [w9 cs o_t a_t s_t]) (va_A (List.flatten [w9 cs o_t a_t s_t]) sz)) 0 0 (va_A (List.flatten [w9 cs o_t a_t s_t]) sz) := by
  refine mgo (Qc := qI D cs res (List.flatten [w9 cs o_t a_t s_t])) (cc := cX9_couple) (maxL := 3) (ret := (some .int)) (by decide) rfl (Nat.le_of_ble_eq_true rfl) ?_
  intro p e s m below meth c ls A R Q args H hR hQ hx hb hml hr hlocks hown hts hP hK hD hA hS hG hl
  have hown : s.vm.findClass RX9 = some m.cls := hown
  have hl : lv_has ls 3 [(0, .ref o_t), (1, .int x1)] := hl
  have hW : ∀ w ∈ WG, w.before args s = true := fun w h => hts w (List.mem_cons_of_mem _ h)
  have htX9 : ∀ w ∈ u_ws RX9 TX9 11, w.before args s = true := fun w h => hW w (inW_X9 w h)
  unfold f9_couple at hf
  refine lv_aload_n hx hb dX9_couple_0 rfl (lv_at hl 0 rfl) ?_
  refine gfB (i0 := 0) (own := RX9) (T := TX9) (k := 10) (v := .ref (a_t 10)) hx hb htX9 hown hK hP rfl e9 rfl (by decide) (hW _ wd180) rfl dX9_couple_1 ?_
  refine lv_iload_n hx hb dX9_couple_4 rfl (lv_at hl 1 rfl) ?_
  obtain ⟨q1, eq1, hf⟩ := bnd hf
  obtain ⟨gq1, eq1⟩ := ldO_e eq1
  refine aldB (i0 := 0) hx hb hK hP rfl a9_10 gq1 dX9_couple_5 ?_
  refine lv_nm eq1 ?_
  refine lv_istore_n (lv' := [(2, .int q1), (0, .ref o_t), (1, .int x1)]) hx hb dX9_couple_6 rfl hl (by decide) rfl (fun ls hl => ?_)
  refine lv_iload_n hx hb dX9_couple_7 rfl (lv_at hl 0 rfl) ?_
  refine lv_iconst (v := (-1)) hx hb dX9_couple_8 (by decide) ?_
  refine lv_icmp_ne (tgt := 18) hx hb dX9_couple_9 (by decide) (fun hc => ?_) (fun hc => ?_)
  · have hf := ifn hc hf
    refine lv_iconst (v := 1) hx hb dX9_couple_18 (by decide) ?_
    refine lv_iload_n hx hb dX9_couple_19 rfl (lv_at hl 2 rfl) ?_
    refine lv_ishl hx hb dX9_couple_20 ?_
    refine lv_iconst (v := 1) hx hb dX9_couple_21 (by decide) ?_
    refine lv_iload_n hx hb dX9_couple_22 rfl (lv_at hl 0 rfl) ?_
    refine lv_ishl hx hb dX9_couple_23 ?_
    refine lv_ior hx hb dX9_couple_24 ?_
    obtain rfl := Option.some.inj hf
    exact mretI hx hb hr hlocks hK hP hD hS rfl hQ dX9_couple_25
  · have hf := ifp hc hf
    refine lv_iconst (v := 1) hx hb dX9_couple_12 (by decide) ?_
    refine lv_iload_n hx hb dX9_couple_13 rfl (lv_at hl 2 rfl) ?_
    refine lv_ishl hx hb dX9_couple_14 ?_
    refine lv_goto (tgt := 25) hx hb dX9_couple_15 (by decide) ?_
    obtain rfl := Option.some.inj hf
    exact mretI hx hb hr hlocks hK hP hD hS rfl hQ dX9_couple_25
/-! TwinLamps$Town.canBeLit -/
noncomputable def f9_canBeLit (s_t : St) (x1 : Int32) : Option (Bool) :=
  (ldO 12 (s_t.2 10) x1).bind fun q1 =>
  if q1 < 0 then ((ldO 12 (s_t.2 9) x1).bind fun q2 =>
  if q2 ≤ 0 then some false else (f9_couple s_t x1).bind fun q3 =>
  if ((s_t.1 4) &&& q3) = 0 then some true else some false)
  else if (s_t.1 1) ≤ q1 then ((ldO 12 (s_t.2 9) x1).bind fun q4 =>
  if q4 ≤ 0 then some false else (f9_couple s_t x1).bind fun q5 =>
  if ((s_t.1 4) &&& q5) = 0 then some true else some false)
  else (ldO 12 (s_t.2 9) q1).bind fun q6 =>
  if q6 = 0 then some false else (ldO 12 (s_t.2 9) x1).bind fun q7 =>
  if q7 ≤ 0 then some false else (f9_couple s_t x1).bind fun q8 =>
  if ((s_t.1 4) &&& q8) = 0 then some true else some false
set_option maxHeartbeats 4000000 in
set_option maxRecDepth 100000 in
theorem c9_canBeLit (l : Launch) (D : va_G) (cs : xE) (o_t : Nat) (a_t : Nat → Nat) (s_t : St) (sz : Nat) (x1 : Int32) (res : Bool) (hf : f9_canBeLit s_t x1 = some res) : Met l yX9_canBeLit (Cond.code yX9_canBeLit cX9_canBeLit 3 (some .boolean) :: WG) { frames := 1, cells := 0, slots := 0, locals := 22 } (va_Pc [.ref o_t, .int x1] (mP D cs (List.flatten [w9 cs o_t a_t s_t]) sz)) (qI D cs (zB res) (List.flatten [w9 cs o_t a_t s_t]) (va_A (List.flatten [w9 cs o_t a_t s_t]) sz)) 0 0 (va_A (List.flatten [w9 cs o_t a_t s_t]) sz) := by
  refine mgo (Qc := qI D cs (zB res) (List.flatten [w9 cs o_t a_t s_t])) (cc := cX9_canBeLit) (maxL := 3) (ret := (some .boolean)) (by decide) rfl (Nat.le_of_ble_eq_true rfl) ?_
  intro p e s m below meth c ls A R Q args H hR hQ hx hb hml hr hlocks hown hts hP hK hD hA hS hG hl
  have hown : s.vm.findClass RX9 = some m.cls := hown
  have hl : lv_has ls 3 [(0, .ref o_t), (1, .int x1)] := hl
  have hW : ∀ w ∈ WG, w.before args s = true := fun w h => hts w (List.mem_cons_of_mem _ h)
  have htX9 : ∀ w ∈ u_ws RX9 TX9 11, w.before args s = true := fun w h => hW w (inW_X9 w h)
  unfold f9_canBeLit at hf
  refine lv_aload_n hx hb dX9_canBeLit_0 rfl (lv_at hl 0 rfl) ?_
  refine gfB (i0 := 0) (own := RX9) (T := TX9) (k := 10) (v := .ref (a_t 10)) hx hb htX9 hown hK hP rfl e9 rfl (by decide) (hW _ wd180) rfl dX9_canBeLit_1 ?_
  refine lv_iload_n hx hb dX9_canBeLit_4 rfl (lv_at hl 1 rfl) ?_
  obtain ⟨q1, eq1, hf⟩ := bnd hf
  obtain ⟨gq1, eq1⟩ := ldO_e eq1
  refine aldB (i0 := 0) hx hb hK hP rfl a9_10 gq1 dX9_canBeLit_5 ?_
  refine lv_nm eq1 ?_
  refine lv_istore_n (lv' := [(2, .int q1), (0, .ref o_t), (1, .int x1)]) hx hb dX9_canBeLit_6 rfl hl (by decide) rfl (fun ls hl => ?_)
  refine lv_iload_n hx hb dX9_canBeLit_7 rfl (lv_at hl 0 rfl) ?_
  refine lv_if_lt (tgt := 30) hx hb dX9_canBeLit_8 (by decide) (fun hc => ?_) (fun hc => ?_)
  · have hf := ifp hc hf
    refine lv_aload_n hx hb dX9_canBeLit_30 rfl (lv_at hl 1 rfl) ?_
    refine gfB (i0 := 0) (own := RX9) (T := TX9) (k := 9) (v := .ref (a_t 9)) hx hb htX9 hown hK hP rfl e9 rfl (by decide) (hW _ wd175) rfl dX9_canBeLit_31 ?_
    refine lv_iload_n hx hb dX9_canBeLit_34 rfl (lv_at hl 2 rfl) ?_
    obtain ⟨q2, eq2, hf⟩ := bnd hf
    obtain ⟨gq2, eq2⟩ := ldO_e eq2
    refine aldB (i0 := 0) hx hb hK hP rfl a9_9 gq2 dX9_canBeLit_35 ?_
    refine lv_nm eq2 ?_
    refine lv_if_le (tgt := 56) hx hb dX9_canBeLit_36 (by decide) (fun hc => ?_) (fun hc => ?_)
    · have hf := ifp hc hf
      refine lv_iconst (v := 0) hx hb dX9_canBeLit_56 (by decide) ?_
      obtain rfl := Option.some.inj hf
      exact mretZ hx hb hr hlocks hK hP hD hS rfl hQ dX9_canBeLit_57
    · have hf := ifn hc hf
      refine lv_aload_n hx hb dX9_canBeLit_39 rfl (lv_at hl 1 rfl) ?_
      refine gfB (i0 := 0) (own := RX9) (T := TX9) (k := 4) (v := .int (s_t.1 4)) hx hb htX9 hown hK hP rfl e9 rfl (by decide) (hW _ wd163) rfl dX9_canBeLit_40 ?_
      refine lv_aload_n hx hb dX9_canBeLit_43 rfl (lv_at hl 1 rfl) ?_
      refine lv_iload_n hx hb dX9_canBeLit_44 rfl (lv_at hl 2 rfl) ?_
      obtain ⟨q3, eq3, hf⟩ := bnd hf
      refine mcVi (v := q3) (rest := [.int (s_t.1 4)]) (Bn := [w9 cs o_t a_t s_t]) (isR := []) (isC := [0]) (i0 := 0) ⟨hx, hb, hml, hown, hts⟩ hK hP hD hS hA hG (c9_couple l D cs o_t a_t s_t H.size x1 _ eq3) (cwV 1 hts (gV wd563 wd564 wd565 wd107 wd566) rfl rfl rfl (by decide +kernel) ⟨by rw [hR]; exact Nat.le_of_ble_eq_true rfl, by rw [hR]; exact Nat.le_of_ble_eq_true rfl⟩) 1 (by decide) rfl rfl rfl rfl rfl rfl rfl e9 rfl rfl rfl hl.1 rfl (Nat.le_of_ble_eq_true rfl) ⟨Nat.zero_le _, Nat.zero_le _⟩ dX9_canBeLit_45 (fun H locs hP hD hS => ?_)
      refine lv_iand hx hb dX9_canBeLit_48 ?_
      refine lv_if_ne (tgt := 56) hx hb dX9_canBeLit_49 (by decide) (fun hc => ?_) (fun hc => ?_)
      · have hf := ifn hc hf
        refine lv_iconst (v := 0) hx hb dX9_canBeLit_56 (by decide) ?_
        obtain rfl := Option.some.inj hf
        exact mretZ hx hb hr hlocks hK hP hD hS rfl hQ dX9_canBeLit_57
      · have hf := ifp hc hf
        refine lv_iconst (v := 1) hx hb dX9_canBeLit_52 (by decide) ?_
        refine lv_goto (tgt := 57) hx hb dX9_canBeLit_53 (by decide) ?_
        obtain rfl := Option.some.inj hf
        exact mretZ hx hb hr hlocks hK hP hD hS rfl hQ dX9_canBeLit_57
  · have hf := ifn hc hf
    refine lv_iload_n hx hb dX9_canBeLit_11 rfl (lv_at hl 0 rfl) ?_
    refine lv_aload_n hx hb dX9_canBeLit_12 rfl (lv_at hl 1 rfl) ?_
    refine gfB (i0 := 0) (own := RX9) (T := TX9) (k := 1) (v := .int (s_t.1 1)) hx hb htX9 hown hK hP rfl e9 rfl (by decide) (hW _ wd152) rfl dX9_canBeLit_13 ?_
    refine lv_icmp_ge (tgt := 30) hx hb dX9_canBeLit_16 (by decide) (fun hc => ?_) (fun hc => ?_)
    · have hf := ifp hc hf
      refine lv_aload_n hx hb dX9_canBeLit_30 rfl (lv_at hl 1 rfl) ?_
      refine gfB (i0 := 0) (own := RX9) (T := TX9) (k := 9) (v := .ref (a_t 9)) hx hb htX9 hown hK hP rfl e9 rfl (by decide) (hW _ wd175) rfl dX9_canBeLit_31 ?_
      refine lv_iload_n hx hb dX9_canBeLit_34 rfl (lv_at hl 2 rfl) ?_
      obtain ⟨q4, eq4, hf⟩ := bnd hf
      obtain ⟨gq4, eq4⟩ := ldO_e eq4
      refine aldB (i0 := 0) hx hb hK hP rfl a9_9 gq4 dX9_canBeLit_35 ?_
      refine lv_nm eq4 ?_
      refine lv_if_le (tgt := 56) hx hb dX9_canBeLit_36 (by decide) (fun hc => ?_) (fun hc => ?_)
      · have hf := ifp hc hf
        refine lv_iconst (v := 0) hx hb dX9_canBeLit_56 (by decide) ?_
        obtain rfl := Option.some.inj hf
        exact mretZ hx hb hr hlocks hK hP hD hS rfl hQ dX9_canBeLit_57
      · have hf := ifn hc hf
        refine lv_aload_n hx hb dX9_canBeLit_39 rfl (lv_at hl 1 rfl) ?_
        refine gfB (i0 := 0) (own := RX9) (T := TX9) (k := 4) (v := .int (s_t.1 4)) hx hb htX9 hown hK hP rfl e9 rfl (by decide) (hW _ wd163) rfl dX9_canBeLit_40 ?_
        refine lv_aload_n hx hb dX9_canBeLit_43 rfl (lv_at hl 1 rfl) ?_
        refine lv_iload_n hx hb dX9_canBeLit_44 rfl (lv_at hl 2 rfl) ?_
        obtain ⟨q5, eq5, hf⟩ := bnd hf
        refine mcVi (v := q5) (rest := [.int (s_t.1 4)]) (Bn := [w9 cs o_t a_t s_t]) (isR := []) (isC := [0]) (i0 := 0) ⟨hx, hb, hml, hown, hts⟩ hK hP hD hS hA hG (c9_couple l D cs o_t a_t s_t H.size x1 _ eq5) (cwV 1 hts (gV wd563 wd564 wd565 wd107 wd566) rfl rfl rfl (by decide +kernel) ⟨by rw [hR]; exact Nat.le_of_ble_eq_true rfl, by rw [hR]; exact Nat.le_of_ble_eq_true rfl⟩) 1 (by decide) rfl rfl rfl rfl rfl rfl rfl e9 rfl rfl rfl hl.1 rfl (Nat.le_of_ble_eq_true rfl) ⟨Nat.zero_le _, Nat.zero_le _⟩ dX9_canBeLit_45 (fun H locs hP hD hS => ?_)
        refine lv_iand hx hb dX9_canBeLit_48 ?_
        refine lv_if_ne (tgt := 56) hx hb dX9_canBeLit_49 (by decide) (fun hc => ?_) (fun hc => ?_)
        · have hf := ifn hc hf
          refine lv_iconst (v := 0) hx hb dX9_canBeLit_56 (by decide) ?_
          obtain rfl := Option.some.inj hf
          exact mretZ hx hb hr hlocks hK hP hD hS rfl hQ dX9_canBeLit_57
        · have hf := ifp hc hf
          refine lv_iconst (v := 1) hx hb dX9_canBeLit_52 (by decide) ?_
          refine lv_goto (tgt := 57) hx hb dX9_canBeLit_53 (by decide) ?_
          obtain rfl := Option.some.inj hf
          exact mretZ hx hb hr hlocks hK hP hD hS rfl hQ dX9_canBeLit_57
    · have hf := ifn hc hf
      refine lv_aload_n hx hb dX9_canBeLit_19 rfl (lv_at hl 1 rfl) ?_
      refine gfB (i0 := 0) (own := RX9) (T := TX9) (k := 9) (v := .ref (a_t 9)) hx hb htX9 hown hK hP rfl e9 rfl (by decide) (hW _ wd175) rfl dX9_canBeLit_20 ?_
      refine lv_iload_n hx hb dX9_canBeLit_23 rfl (lv_at hl 0 rfl) ?_
      obtain ⟨q6, eq6, hf⟩ := bnd hf
      obtain ⟨gq6, eq6⟩ := ldO_e eq6
      refine aldB (i0 := 0) hx hb hK hP rfl a9_9 gq6 dX9_canBeLit_24 ?_
      refine lv_nm eq6 ?_
      refine lv_if_ne (tgt := 30) hx hb dX9_canBeLit_25 (by decide) (fun hc => ?_) (fun hc => ?_)
      · have hf := ifn hc hf
        refine lv_aload_n hx hb dX9_canBeLit_30 rfl (lv_at hl 1 rfl) ?_
        refine gfB (i0 := 0) (own := RX9) (T := TX9) (k := 9) (v := .ref (a_t 9)) hx hb htX9 hown hK hP rfl e9 rfl (by decide) (hW _ wd175) rfl dX9_canBeLit_31 ?_
        refine lv_iload_n hx hb dX9_canBeLit_34 rfl (lv_at hl 2 rfl) ?_
        obtain ⟨q7, eq7, hf⟩ := bnd hf
        obtain ⟨gq7, eq7⟩ := ldO_e eq7
        refine aldB (i0 := 0) hx hb hK hP rfl a9_9 gq7 dX9_canBeLit_35 ?_
        refine lv_nm eq7 ?_
        refine lv_if_le (tgt := 56) hx hb dX9_canBeLit_36 (by decide) (fun hc => ?_) (fun hc => ?_)
        · have hf := ifp hc hf
          refine lv_iconst (v := 0) hx hb dX9_canBeLit_56 (by decide) ?_
          obtain rfl := Option.some.inj hf
          exact mretZ hx hb hr hlocks hK hP hD hS rfl hQ dX9_canBeLit_57
        · have hf := ifn hc hf
          refine lv_aload_n hx hb dX9_canBeLit_39 rfl (lv_at hl 1 rfl) ?_
          refine gfB (i0 := 0) (own := RX9) (T := TX9) (k := 4) (v := .int (s_t.1 4)) hx hb htX9 hown hK hP rfl e9 rfl (by decide) (hW _ wd163) rfl dX9_canBeLit_40 ?_
          refine lv_aload_n hx hb dX9_canBeLit_43 rfl (lv_at hl 1 rfl) ?_
          refine lv_iload_n hx hb dX9_canBeLit_44 rfl (lv_at hl 2 rfl) ?_
          obtain ⟨q8, eq8, hf⟩ := bnd hf
          refine mcVi (v := q8) (rest := [.int (s_t.1 4)]) (Bn := [w9 cs o_t a_t s_t]) (isR := []) (isC := [0]) (i0 := 0) ⟨hx, hb, hml, hown, hts⟩ hK hP hD hS hA hG (c9_couple l D cs o_t a_t s_t H.size x1 _ eq8) (cwV 1 hts (gV wd563 wd564 wd565 wd107 wd566) rfl rfl rfl (by decide +kernel) ⟨by rw [hR]; exact Nat.le_of_ble_eq_true rfl, by rw [hR]; exact Nat.le_of_ble_eq_true rfl⟩) 1 (by decide) rfl rfl rfl rfl rfl rfl rfl e9 rfl rfl rfl hl.1 rfl (Nat.le_of_ble_eq_true rfl) ⟨Nat.zero_le _, Nat.zero_le _⟩ dX9_canBeLit_45 (fun H locs hP hD hS => ?_)
          refine lv_iand hx hb dX9_canBeLit_48 ?_
          refine lv_if_ne (tgt := 56) hx hb dX9_canBeLit_49 (by decide) (fun hc => ?_) (fun hc => ?_)
          · have hf := ifn hc hf
            refine lv_iconst (v := 0) hx hb dX9_canBeLit_56 (by decide) ?_
            obtain rfl := Option.some.inj hf
            exact mretZ hx hb hr hlocks hK hP hD hS rfl hQ dX9_canBeLit_57
          · have hf := ifp hc hf
            refine lv_iconst (v := 1) hx hb dX9_canBeLit_52 (by decide) ?_
            refine lv_goto (tgt := 57) hx hb dX9_canBeLit_53 (by decide) ?_
            obtain rfl := Option.some.inj hf
            exact mretZ hx hb hr hlocks hK hP hD hS rfl hQ dX9_canBeLit_57
      · have hf := ifp hc hf
        refine lv_iconst (v := 0) hx hb dX9_canBeLit_28 (by decide) ?_
        obtain rfl := Option.some.inj hf
        exact mretZ hx hb hr hlocks hK hP hD hS rfl hQ dX9_canBeLit_29
/-! TwinLamps$Town.putOut -/
noncomputable def f9_putOut (s_t : St) (x1 : Int32) : Option (St) :=
  (f9_couple s_t x1).bind fun q1 =>
  (some (sS s_t 3 ((s_t.1 3) &&& (q1 ^^^ (-1))))).bind fun s2 =>
  some s2
set_option maxHeartbeats 4000000 in
set_option maxRecDepth 100000 in
theorem c9_putOut (l : Launch) (D : va_G) (cs : xE) (o_t : Nat) (a_t : Nat → Nat) (s_t : St) (sz : Nat) (x1 : Int32) (res : St) (hf : f9_putOut s_t x1 = some res) : Met l yX9_putOut (Cond.code yX9_putOut cX9_putOut 2 none :: WG) { frames := 1, cells := 0, slots := 0, locals := 22 } (va_Pc [.ref o_t, .int x1] (mP D cs (List.flatten [w9 cs o_t a_t s_t]) sz)) (qV D cs (List.flatten [w9 cs o_t a_t res]) (va_A (List.flatten [w9 cs o_t a_t s_t]) sz)) 0 0 (va_A (List.flatten [w9 cs o_t a_t s_t]) sz) := by
  refine mgo (Qc := qV D cs (List.flatten [w9 cs o_t a_t res])) (cc := cX9_putOut) (maxL := 2) (ret := none) (by decide) rfl (Nat.le_of_ble_eq_true rfl) ?_
  intro p e s m below meth c ls A R Q args H hR hQ hx hb hml hr hlocks hown hts hP hK hD hA hS hG hl
  have hown : s.vm.findClass RX9 = some m.cls := hown
  have hl : lv_has ls 2 [(0, .ref o_t), (1, .int x1)] := hl
  have hW : ∀ w ∈ WG, w.before args s = true := fun w h => hts w (List.mem_cons_of_mem _ h)
  have htX9 : ∀ w ∈ u_ws RX9 TX9 11, w.before args s = true := fun w h => hW w (inW_X9 w h)
  unfold f9_putOut at hf
  refine lv_aload_n hx hb dX9_putOut_0 rfl (lv_at hl 0 rfl) ?_
  refine lv_dup hx hb dX9_putOut_1 rfl ?_
  refine gfB (i0 := 0) (own := RX9) (T := TX9) (k := 3) (v := .int (s_t.1 3)) hx hb htX9 hown hK hP rfl e9 rfl (by decide) (hW _ wd160) rfl dX9_putOut_2 ?_
  refine lv_aload_n hx hb dX9_putOut_5 rfl (lv_at hl 0 rfl) ?_
  refine lv_iload_n hx hb dX9_putOut_6 rfl (lv_at hl 1 rfl) ?_
  obtain ⟨q1, eq1, hf⟩ := bnd hf
  refine mcVi (v := q1) (rest := [.int (s_t.1 3), .ref o_t]) (Bn := [w9 cs o_t a_t s_t]) (isR := []) (isC := [0]) (i0 := 0) ⟨hx, hb, hml, hown, hts⟩ hK hP hD hS hA hG (c9_couple l D cs o_t a_t s_t H.size x1 _ eq1) (cwV 1 hts (gV wd563 wd564 wd565 wd107 wd566) rfl rfl rfl (by decide +kernel) ⟨by rw [hR]; exact Nat.le_of_ble_eq_true rfl, by rw [hR]; exact Nat.le_of_ble_eq_true rfl⟩) 1 (by decide) rfl rfl rfl rfl rfl rfl rfl e9 rfl rfl rfl hl.1 rfl (Nat.le_of_ble_eq_true rfl) ⟨Nat.zero_le _, Nat.zero_le _⟩ dX9_putOut_7 (fun H locs hP hD hS => ?_)
  refine lv_iconst (v := (-1)) hx hb dX9_putOut_10 (by decide) ?_
  refine lv_ixor hx hb dX9_putOut_11 ?_
  refine lv_iand hx hb dX9_putOut_12 ?_
  obtain ⟨s2, es2, hf⟩ := bnd hf
  replace es2 := Option.some.inj es2
  refine pfB (i0 := 0) (own := RX9) (T := TX9) (k := 3) (Bn := [w9 cs o_t a_t s2]) tyX9 tyX9_ok nmX9 hx hb htX9 hown hK hP hD hS rfl e9 rfl (by decide) (hW _ wd160) rfl rfl rfl (Nat.le_of_ble_eq_true rfl) dX9_putOut_13 (by rw [← es2]; exact u9_3) rfl (fun H locs hP hD hS => ?_)
  obtain rfl := Option.some.inj hf
  exact mretV hx hb hr hlocks hK hP hD hS hQ dX9_putOut_16
/-! TwinLamps$Town.light -/
noncomputable def f9_light (s_t : St) (x1 : Int32) : Option (St) :=
  (f9_couple s_t x1).bind fun q1 =>
  (some (sS s_t 3 ((s_t.1 3) ||| q1))).bind fun s2 =>
  some s2
set_option maxHeartbeats 4000000 in
set_option maxRecDepth 100000 in
theorem c9_light (l : Launch) (D : va_G) (cs : xE) (o_t : Nat) (a_t : Nat → Nat) (s_t : St) (sz : Nat) (x1 : Int32) (res : St) (hf : f9_light s_t x1 = some res) : Met l yX9_light (Cond.code yX9_light cX9_light 2 none :: WG) { frames := 1, cells := 0, slots := 0, locals := 22 } (va_Pc [.ref o_t, .int x1] (mP D cs (List.flatten [w9 cs o_t a_t s_t]) sz)) (qV D cs (List.flatten [w9 cs o_t a_t res]) (va_A (List.flatten [w9 cs o_t a_t s_t]) sz)) 0 0 (va_A (List.flatten [w9 cs o_t a_t s_t]) sz) := by
  refine mgo (Qc := qV D cs (List.flatten [w9 cs o_t a_t res])) (cc := cX9_light) (maxL := 2) (ret := none) (by decide) rfl (Nat.le_of_ble_eq_true rfl) ?_
  intro p e s m below meth c ls A R Q args H hR hQ hx hb hml hr hlocks hown hts hP hK hD hA hS hG hl
  have hown : s.vm.findClass RX9 = some m.cls := hown
  have hl : lv_has ls 2 [(0, .ref o_t), (1, .int x1)] := hl
  have hW : ∀ w ∈ WG, w.before args s = true := fun w h => hts w (List.mem_cons_of_mem _ h)
  have htX9 : ∀ w ∈ u_ws RX9 TX9 11, w.before args s = true := fun w h => hW w (inW_X9 w h)
  unfold f9_light at hf
  refine lv_aload_n hx hb dX9_light_0 rfl (lv_at hl 0 rfl) ?_
  refine lv_dup hx hb dX9_light_1 rfl ?_
  refine gfB (i0 := 0) (own := RX9) (T := TX9) (k := 3) (v := .int (s_t.1 3)) hx hb htX9 hown hK hP rfl e9 rfl (by decide) (hW _ wd160) rfl dX9_light_2 ?_
  refine lv_aload_n hx hb dX9_light_5 rfl (lv_at hl 0 rfl) ?_
  refine lv_iload_n hx hb dX9_light_6 rfl (lv_at hl 1 rfl) ?_
  obtain ⟨q1, eq1, hf⟩ := bnd hf
  refine mcVi (v := q1) (rest := [.int (s_t.1 3), .ref o_t]) (Bn := [w9 cs o_t a_t s_t]) (isR := []) (isC := [0]) (i0 := 0) ⟨hx, hb, hml, hown, hts⟩ hK hP hD hS hA hG (c9_couple l D cs o_t a_t s_t H.size x1 _ eq1) (cwV 1 hts (gV wd563 wd564 wd565 wd107 wd566) rfl rfl rfl (by decide +kernel) ⟨by rw [hR]; exact Nat.le_of_ble_eq_true rfl, by rw [hR]; exact Nat.le_of_ble_eq_true rfl⟩) 1 (by decide) rfl rfl rfl rfl rfl rfl rfl e9 rfl rfl rfl hl.1 rfl (Nat.le_of_ble_eq_true rfl) ⟨Nat.zero_le _, Nat.zero_le _⟩ dX9_light_7 (fun H locs hP hD hS => ?_)
  refine lv_ior hx hb dX9_light_10 ?_
  obtain ⟨s2, es2, hf⟩ := bnd hf
  replace es2 := Option.some.inj es2
  refine pfB (i0 := 0) (own := RX9) (T := TX9) (k := 3) (Bn := [w9 cs o_t a_t s2]) tyX9 tyX9_ok nmX9 hx hb htX9 hown hK hP hD hS rfl e9 rfl (by decide) (hW _ wd160) rfl rfl rfl (Nat.le_of_ble_eq_true rfl) dX9_light_11 (by rw [← es2]; exact u9_3) rfl (fun H locs hP hD hS => ?_)
  obtain rfl := Option.some.inj hf
  exact mretV hx hb hr hlocks hK hP hD hS hQ dX9_light_14
/-! TwinLamps$Town.flickByHand -/
noncomputable def f9_flickByHand (s_t : St) (x1 : Int32) : Option (St) :=
  (f9_isLit s_t x1).bind fun q1 =>
  ((if (zB q1) = 0 then ((f9_canBeLit s_t x1).bind fun q3 =>
  if (zB q3) = 0 then some s_t else (f9_light s_t x1).bind fun q4 =>
  some q4)
  else (f9_putOut s_t x1).bind fun q5 =>
  some q5 : Option (St))).bind fun q2 =>
  some q2
set_option maxHeartbeats 4000000 in
set_option maxRecDepth 100000 in
theorem c9_flickByHand (l : Launch) (D : va_G) (cs : xE) (o_t : Nat) (a_t : Nat → Nat) (s_t : St) (sz : Nat) (x1 : Int32) (res : St) (hf : f9_flickByHand s_t x1 = some res) : Met l yX9_flickByHand (Cond.code yX9_flickByHand cX9_flickByHand 2 none :: WG) { frames := 2, cells := 0, slots := 0, locals := 44 } (va_Pc [.ref o_t, .int x1] (mP D cs (List.flatten [w9 cs o_t a_t s_t]) sz)) (qV D cs (List.flatten [w9 cs o_t a_t res]) (va_A (List.flatten [w9 cs o_t a_t s_t]) sz)) 0 0 (va_A (List.flatten [w9 cs o_t a_t s_t]) sz) := by
  refine mgo (Qc := qV D cs (List.flatten [w9 cs o_t a_t res])) (cc := cX9_flickByHand) (maxL := 2) (ret := none) (by decide) rfl (Nat.le_of_ble_eq_true rfl) ?_
  intro p e s m below meth c ls A R Q args H hR hQ hx hb hml hr hlocks hown hts hP hK hD hA hS hG hl
  have hown : s.vm.findClass RX9 = some m.cls := hown
  have hl : lv_has ls 2 [(0, .ref o_t), (1, .int x1)] := hl
  have hW : ∀ w ∈ WG, w.before args s = true := fun w h => hts w (List.mem_cons_of_mem _ h)
  unfold f9_flickByHand at hf
  refine lv_aload_n hx hb dX9_flickByHand_0 rfl (lv_at hl 0 rfl) ?_
  refine lv_iload_n hx hb dX9_flickByHand_1 rfl (lv_at hl 1 rfl) ?_
  obtain ⟨q1, eq1, hf⟩ := bnd hf
  refine mcVi (v := (zB q1)) (rest := []) (Bn := [w9 cs o_t a_t s_t]) (isR := []) (isC := [0]) (i0 := 0) ⟨hx, hb, hml, hown, hts⟩ hK hP hD hS hA hG (c9_isLit l D cs o_t a_t s_t H.size x1 _ eq1) (cwV 1 hts (gV wd981 wd556 wd557 wd107 wd558) rfl rfl rfl (by decide +kernel) ⟨by rw [hR]; exact Nat.le_of_ble_eq_true rfl, by rw [hR]; exact Nat.le_of_ble_eq_true rfl⟩) 1 (by decide) rfl rfl rfl rfl rfl rfl rfl e9 rfl rfl rfl hl.1 rfl (Nat.le_of_ble_eq_true rfl) ⟨Nat.zero_le _, Nat.zero_le _⟩ dX9_flickByHand_2 (fun H locs hP hD hS => ?_)
  obtain ⟨q2, hq2, hf⟩ := bnd hf
  have Jq2 : ∀ r2 : St, q2 = r2 → ∀ (H : Heap) (locs : List Loc) (ls : Array Slot), va_P D vwCl (List.flatten [w9 cs o_t a_t r2]) H → va_D A (List.flatten [w9 cs o_t a_t r2]) → va_S A s.heap H locs → lv_has ls 2 [] → W p l e R s m args below meth c H locs 0 0 Q (F0 m 29 ls []) := by
    intro r2 eq2 H locs ls hP hD hS hl
    subst eq2
    obtain rfl := Option.some.inj hf
    exact mretV hx hb hr hlocks hK hP hD hS hQ dX9_flickByHand_29
  clear hf
  have hf := hq2
  refine lv_if_eq (tgt := 16) hx hb dX9_flickByHand_5 (by decide) (fun hc => ?_) (fun hc => ?_)
  · have hf := ifp hc hf
    refine lv_aload_n hx hb dX9_flickByHand_16 rfl (lv_at hl 0 rfl) ?_
    refine lv_iload_n hx hb dX9_flickByHand_17 rfl (lv_at hl 1 rfl) ?_
    obtain ⟨q3, eq3, hf⟩ := bnd hf
    refine mcVi (v := (zB q3)) (rest := []) (Bn := [w9 cs o_t a_t s_t]) (isR := []) (isC := [0]) (i0 := 0) ⟨hx, hb, hml, hown, hts⟩ hK hP hD hS hA hG (c9_canBeLit l D cs o_t a_t s_t H.size x1 _ eq3) (cwV 1 hts (gV wd983 wd560 wd561 wd107 wd562) rfl rfl rfl (by decide +kernel) ⟨by rw [hR]; exact Nat.le_of_ble_eq_true rfl, by rw [hR]; exact Nat.le_of_ble_eq_true rfl⟩) 1 (by decide) rfl rfl rfl rfl rfl rfl rfl e9 rfl rfl rfl hl.1 rfl (Nat.le_of_ble_eq_true rfl) ⟨Nat.zero_le _, Nat.zero_le _⟩ dX9_flickByHand_18 (fun H locs hP hD hS => ?_)
    refine lv_if_eq (tgt := 29) hx hb dX9_flickByHand_21 (by decide) (fun hc => ?_) (fun hc => ?_)
    · have hf := ifp hc hf
      exact Jq2 _ (Option.some.inj hf).symm _ _ _ hP hD hS (lv_sub hl [] rfl)
    · have hf := ifn hc hf
      refine lv_aload_n hx hb dX9_flickByHand_24 rfl (lv_at hl 0 rfl) ?_
      refine lv_iload_n hx hb dX9_flickByHand_25 rfl (lv_at hl 1 rfl) ?_
      obtain ⟨q4, eq4, hf⟩ := bnd hf
      refine mcVv (rest := []) (Bn := [w9 cs o_t a_t q4]) (isR := []) (isC := [0]) (i0 := 0) ⟨hx, hb, hml, hown, hts⟩ hK hP hD hS hA hG (c9_light l D cs o_t a_t s_t H.size x1 _ eq4) (cwV 1 hts (gV wd984 wd568 wd569 wd107 wd570) rfl rfl rfl (by decide +kernel) ⟨by rw [hR]; exact Nat.le_of_ble_eq_true rfl, by rw [hR]; exact Nat.le_of_ble_eq_true rfl⟩) 1 (by decide) rfl rfl rfl rfl rfl rfl rfl e9 rfl rfl rfl hl.1 rfl (Nat.le_of_ble_eq_true rfl) ⟨Nat.zero_le _, Nat.zero_le _⟩ dX9_flickByHand_26 (fun H locs hP hD hS => ?_)
      exact Jq2 _ (Option.some.inj hf).symm _ _ _ hP hD hS (lv_sub hl [] rfl)
  · have hf := ifn hc hf
    refine lv_aload_n hx hb dX9_flickByHand_8 rfl (lv_at hl 0 rfl) ?_
    refine lv_iload_n hx hb dX9_flickByHand_9 rfl (lv_at hl 1 rfl) ?_
    obtain ⟨q5, eq5, hf⟩ := bnd hf
    refine mcVv (rest := []) (Bn := [w9 cs o_t a_t q5]) (isR := []) (isC := [0]) (i0 := 0) ⟨hx, hb, hml, hown, hts⟩ hK hP hD hS hA hG (c9_putOut l D cs o_t a_t s_t H.size x1 _ eq5) (cwV 1 hts (gV wd982 wd572 wd573 wd107 wd574) rfl rfl rfl (by decide +kernel) ⟨by rw [hR]; exact Nat.le_of_ble_eq_true rfl, by rw [hR]; exact Nat.le_of_ble_eq_true rfl⟩) 1 (by decide) rfl rfl rfl rfl rfl rfl rfl e9 rfl rfl rfl hl.1 rfl (Nat.le_of_ble_eq_true rfl) ⟨Nat.zero_le _, Nat.zero_le _⟩ dX9_flickByHand_10 (fun H locs hP hD hS => ?_)
    refine lv_goto (tgt := 29) hx hb dX9_flickByHand_13 (by decide) ?_
    exact Jq2 _ (Option.some.inj hf).symm _ _ _ hP hD hS (lv_sub hl [] rfl)
/-! TwinLamps$Town.shatter -/
noncomputable def f9_shatter (s_t : St) (x1 : Int32) : Option (St) :=
  (f9_putOut s_t x1).bind fun q1 =>
  (some (sS q1 4 ((q1.1 4) ||| ((1 : Int32) <<< (x1 &&& 31))))).bind fun s2 =>
  some s2
set_option maxHeartbeats 4000000 in
set_option maxRecDepth 100000 in
theorem c9_shatter (l : Launch) (D : va_G) (cs : xE) (o_t : Nat) (a_t : Nat → Nat) (s_t : St) (sz : Nat) (x1 : Int32) (res : St) (hf : f9_shatter s_t x1 = some res) : Met l yX9_shatter (Cond.code yX9_shatter cX9_shatter 2 none :: WG) { frames := 2, cells := 0, slots := 0, locals := 43 } (va_Pc [.ref o_t, .int x1] (mP D cs (List.flatten [w9 cs o_t a_t s_t]) sz)) (qV D cs (List.flatten [w9 cs o_t a_t res]) (va_A (List.flatten [w9 cs o_t a_t s_t]) sz)) 0 0 (va_A (List.flatten [w9 cs o_t a_t s_t]) sz) := by
  refine mgo (Qc := qV D cs (List.flatten [w9 cs o_t a_t res])) (cc := cX9_shatter) (maxL := 2) (ret := none) (by decide) rfl (Nat.le_of_ble_eq_true rfl) ?_
  intro p e s m below meth c ls A R Q args H hR hQ hx hb hml hr hlocks hown hts hP hK hD hA hS hG hl
  have hown : s.vm.findClass RX9 = some m.cls := hown
  have hl : lv_has ls 2 [(0, .ref o_t), (1, .int x1)] := hl
  have hW : ∀ w ∈ WG, w.before args s = true := fun w h => hts w (List.mem_cons_of_mem _ h)
  have htX9 : ∀ w ∈ u_ws RX9 TX9 11, w.before args s = true := fun w h => hW w (inW_X9 w h)
  unfold f9_shatter at hf
  refine lv_aload_n hx hb dX9_shatter_0 rfl (lv_at hl 0 rfl) ?_
  refine lv_iload_n hx hb dX9_shatter_1 rfl (lv_at hl 1 rfl) ?_
  obtain ⟨q1, eq1, hf⟩ := bnd hf
  refine mcVv (rest := []) (Bn := [w9 cs o_t a_t q1]) (isR := []) (isC := [0]) (i0 := 0) ⟨hx, hb, hml, hown, hts⟩ hK hP hD hS hA hG (c9_putOut l D cs o_t a_t s_t H.size x1 _ eq1) (cwV 1 hts (gV wd982 wd572 wd573 wd107 wd574) rfl rfl rfl (by decide +kernel) ⟨by rw [hR]; exact Nat.le_of_ble_eq_true rfl, by rw [hR]; exact Nat.le_of_ble_eq_true rfl⟩) 1 (by decide) rfl rfl rfl rfl rfl rfl rfl e9 rfl rfl rfl hl.1 rfl (Nat.le_of_ble_eq_true rfl) ⟨Nat.zero_le _, Nat.zero_le _⟩ dX9_shatter_2 (fun H locs hP hD hS => ?_)
  refine lv_aload_n hx hb dX9_shatter_5 rfl (lv_at hl 0 rfl) ?_
  refine lv_dup hx hb dX9_shatter_6 rfl ?_
  refine gfB (i0 := 0) (own := RX9) (T := TX9) (k := 4) (v := .int (q1.1 4)) hx hb htX9 hown hK hP rfl e9 rfl (by decide) (hW _ wd163) rfl dX9_shatter_7 ?_
  refine lv_iconst (v := 1) hx hb dX9_shatter_10 (by decide) ?_
  refine lv_iload_n hx hb dX9_shatter_11 rfl (lv_at hl 1 rfl) ?_
  refine lv_ishl hx hb dX9_shatter_12 ?_
  refine lv_ior hx hb dX9_shatter_13 ?_
  obtain ⟨s2, es2, hf⟩ := bnd hf
  replace es2 := Option.some.inj es2
  refine pfB (i0 := 0) (own := RX9) (T := TX9) (k := 4) (Bn := [w9 cs o_t a_t s2]) tyX9 tyX9_ok nmX9 hx hb htX9 hown hK hP hD hS rfl e9 rfl (by decide) (hW _ wd163) rfl rfl rfl (Nat.le_of_ble_eq_true rfl) dX9_shatter_14 (by rw [← es2]; exact u9_4) rfl (fun H locs hP hD hS => ?_)
  obtain rfl := Option.some.inj hf
  exact mretV hx hb hr hlocks hK hP hD hS hQ dX9_shatter_17
/-! TwinLamps$Town.soundTwins -/
noncomputable def f9_soundTwins_L1 (s_t : St) (v2 : Int32 × Int32) : Option ((Int32 × Int32) ⊕ (Int32)) :=
  if (s_t.1 1) ≤ v2.2 then some (.inr v2.1) else (ldO 12 (s_t.2 10) v2.2).bind fun q3 =>
  ((if q3 = (-1) then some v2.1 else (f9_couple s_t v2.2).bind fun q5 =>
  if ((s_t.1 4) &&& q5) = 0 then some (v2.1 ||| ((1 : Int32) <<< (v2.2 &&& 31))) else some v2.1 : Option (Int32))).bind fun q4 =>
  some (.inl (q4, (v2.2 + 1)))
noncomputable def f9_soundTwins (s_t : St) : Option (Int32) :=
  (lpw (f9_soundTwins_L1 s_t) (0, 0)).bind fun q1 =>
  some q1
set_option maxHeartbeats 4000000 in
set_option maxRecDepth 100000 in
theorem c9_soundTwins (l : Launch) (D : va_G) (cs : xE) (o_t : Nat) (a_t : Nat → Nat) (s_t : St) (sz : Nat) (res : Int32) (hf : f9_soundTwins s_t = some res) : Met l yX9_soundTwins (Cond.code yX9_soundTwins cX9_soundTwins 3 (some .int) :: WG) { frames := 1, cells := 0, slots := 0, locals := 22 } (va_Pc [.ref o_t] (mP D cs (List.flatten [w9 cs o_t a_t s_t]) sz)) (qI D cs res (List.flatten [w9 cs o_t a_t s_t]) (va_A (List.flatten [w9 cs o_t a_t s_t]) sz)) 0 0 (va_A (List.flatten [w9 cs o_t a_t s_t]) sz) := by
  refine mgo (Qc := qI D cs res (List.flatten [w9 cs o_t a_t s_t])) (cc := cX9_soundTwins) (maxL := 3) (ret := (some .int)) (by decide) rfl (Nat.le_of_ble_eq_true rfl) ?_
  intro p e s m below meth c ls A R Q args H hR hQ hx hb hml hr hlocks hown hts hP hK hD hA hS hG hl
  have hown : s.vm.findClass RX9 = some m.cls := hown
  have hl : lv_has ls 3 [(0, .ref o_t)] := hl
  have hW : ∀ w ∈ WG, w.before args s = true := fun w h => hts w (List.mem_cons_of_mem _ h)
  have htX9 : ∀ w ∈ u_ws RX9 TX9 11, w.before args s = true := fun w h => hW w (inW_X9 w h)
  unfold f9_soundTwins at hf
  refine lv_iconst (v := 0) hx hb dX9_soundTwins_0 (by decide) ?_
  refine lv_istore_n (lv' := [(1, .int 0), (0, .ref o_t)]) hx hb dX9_soundTwins_1 rfl hl (by decide) rfl (fun ls hl => ?_)
  refine lv_iconst (v := 0) hx hb dX9_soundTwins_2 (by decide) ?_
  refine lv_istore_n (lv' := [(2, .int 0), (1, .int 0), (0, .ref o_t)]) hx hb dX9_soundTwins_3 rfl hl (by decide) rfl (fun ls hl => ?_)
  obtain ⟨q1, hq1, hf⟩ := bnd hf
  obtain ⟨n1, hq1⟩ := lpw_ex hq1
  have Jq1_0 : ∀ rr1_0 : Int32, q1 = rr1_0 → ∀ (H : Heap) (locs : List Loc) (ls : Array Slot), va_P D vwCl (List.flatten [w9 cs o_t a_t s_t]) H → va_D A (List.flatten [w9 cs o_t a_t s_t]) → va_S A s.heap H locs → lv_has ls 3 [(1, .int rr1_0)] → W p l e R s m args below meth c H locs 0 0 Q (F0 m 47 ls []) := by
    intro rr1_0 eq1 H locs ls hP hD hS hl
    subst eq1
    refine lv_iload_n hx hb dX9_soundTwins_47 rfl (lv_at hl 0 rfl) ?_
    obtain rfl := Option.some.inj hf
    exact mretI hx hb hr hlocks hK hP hD hS rfl hQ dX9_soundTwins_48
  clear hf
  have L1 : ∀ n1, ∀ v2 : Int32 × Int32, lp n1 (f9_soundTwins_L1 s_t) v2 = some q1 → ∀ (H : Heap) (locs : List Loc) (ls : Array Slot), va_P D vwCl (List.flatten [w9 cs o_t a_t s_t]) H → va_D A (List.flatten [w9 cs o_t a_t s_t]) → va_S A s.heap H locs → lv_has ls 3 [(0, .ref o_t), (1, .int v2.1), (2, .int v2.2)] → W p l e R s m args below meth c H locs 0 0 Q (F0 m 4 ls []) := by
    intro n1
    induction n1 with
    | zero => intro v2 hn; cases hn
    | succ n1 ih1 =>
      intro v2 hn1 H locs ls hP hD hS hl
      obtain ⟨y1, hf, hn1⟩ := lp_succ hn1
      unfold f9_soundTwins_L1 at hf
      refine lv_iload_n hx hb dX9_soundTwins_4 rfl (lv_at hl 2 rfl) ?_
      refine lv_aload_n hx hb dX9_soundTwins_5 rfl (lv_at hl 0 rfl) ?_
      refine gfB (i0 := 0) (own := RX9) (T := TX9) (k := 1) (v := .int (s_t.1 1)) hx hb htX9 hown hK hP rfl e9 rfl (by decide) (hW _ wd152) rfl dX9_soundTwins_6 ?_
      refine lv_icmp_ge (tgt := 47) hx hb dX9_soundTwins_9 (by decide) (fun hc => ?_) (fun hc => ?_)
      · have hf := ifp hc hf
        cases hf
        exact Jq1_0 _ (Option.some.inj hn1).symm _ _ _ hP hD hS (lv_sub hl [1] rfl)
      · have hf := ifn hc hf
        refine lv_aload_n hx hb dX9_soundTwins_12 rfl (lv_at hl 0 rfl) ?_
        refine gfB (i0 := 0) (own := RX9) (T := TX9) (k := 10) (v := .ref (a_t 10)) hx hb htX9 hown hK hP rfl e9 rfl (by decide) (hW _ wd180) rfl dX9_soundTwins_13 ?_
        refine lv_iload_n hx hb dX9_soundTwins_16 rfl (lv_at hl 2 rfl) ?_
        obtain ⟨q3, eq3, hf⟩ := bnd hf
        obtain ⟨gq3, eq3⟩ := ldO_e eq3
        refine aldB (i0 := 0) hx hb hK hP rfl a9_10 gq3 dX9_soundTwins_17 ?_
        refine lv_nm eq3 ?_
        refine lv_iconst (v := (-1)) hx hb dX9_soundTwins_18 (by decide) ?_
        obtain ⟨q4, hq4, hf⟩ := bnd hf
        have Jq4 : ∀ r4 : Int32, q4 = r4 → ∀ (H : Heap) (locs : List Loc) (ls : Array Slot), va_P D vwCl (List.flatten [w9 cs o_t a_t s_t]) H → va_D A (List.flatten [w9 cs o_t a_t s_t]) → va_S A s.heap H locs → lv_has ls 3 [(0, .ref o_t), (1, .int r4), (2, .int v2.2)] → W p l e R s m args below meth c H locs 0 0 Q (F0 m 41 ls []) := by
          intro r4 eq4 H locs ls hP hD hS hl
          subst eq4
          refine lv_iinc (v := (v2.2 + 1)) (lv' := [(2, .int (v2.2 + 1)), (0, .ref o_t), (1, .int q4)]) hx hb dX9_soundTwins_41 hl (k := 2) rfl rfl (by decide) rfl (fun ls hl => ?_)
          refine lv_goto (tgt := 4) hx hb dX9_soundTwins_44 (by decide) ?_
          cases hf
          exact ih1 _ hn1 _ _ _ hP hD hS (lv_sub hl [1, 2, 0] rfl)
        clear hf
        have hf := hq4
        refine lv_icmp_eq (tgt := 41) hx hb dX9_soundTwins_19 (by decide) (fun hc => ?_) (fun hc => ?_)
        · have hf := ifp hc hf
          exact Jq4 _ (Option.some.inj hf).symm _ _ _ hP hD hS (lv_sub hl [0, 1, 2] rfl)
        · have hf := ifn hc hf
          refine lv_aload_n hx hb dX9_soundTwins_22 rfl (lv_at hl 0 rfl) ?_
          refine gfB (i0 := 0) (own := RX9) (T := TX9) (k := 4) (v := .int (s_t.1 4)) hx hb htX9 hown hK hP rfl e9 rfl (by decide) (hW _ wd163) rfl dX9_soundTwins_23 ?_
          refine lv_aload_n hx hb dX9_soundTwins_26 rfl (lv_at hl 0 rfl) ?_
          refine lv_iload_n hx hb dX9_soundTwins_27 rfl (lv_at hl 2 rfl) ?_
          obtain ⟨q5, eq5, hf⟩ := bnd hf
          refine mcVi (v := q5) (rest := [.int (s_t.1 4)]) (Bn := [w9 cs o_t a_t s_t]) (isR := []) (isC := [0]) (i0 := 0) ⟨hx, hb, hml, hown, hts⟩ hK hP hD hS hA hG (c9_couple l D cs o_t a_t s_t H.size v2.2 _ eq5) (cwV 1 hts (gV wd563 wd564 wd565 wd107 wd566) rfl rfl rfl (by decide +kernel) ⟨by rw [hR]; exact Nat.le_of_ble_eq_true rfl, by rw [hR]; exact Nat.le_of_ble_eq_true rfl⟩) 1 (by decide) rfl rfl rfl rfl rfl rfl rfl e9 rfl rfl rfl hl.1 rfl (Nat.le_of_ble_eq_true rfl) ⟨Nat.zero_le _, Nat.zero_le _⟩ dX9_soundTwins_28 (fun H locs hP hD hS => ?_)
          refine lv_iand hx hb dX9_soundTwins_31 ?_
          refine lv_if_ne (tgt := 41) hx hb dX9_soundTwins_32 (by decide) (fun hc => ?_) (fun hc => ?_)
          · have hf := ifn hc hf
            exact Jq4 _ (Option.some.inj hf).symm _ _ _ hP hD hS (lv_sub hl [0, 1, 2] rfl)
          · have hf := ifp hc hf
            refine lv_iload_n hx hb dX9_soundTwins_35 rfl (lv_at hl 1 rfl) ?_
            refine lv_iconst (v := 1) hx hb dX9_soundTwins_36 (by decide) ?_
            refine lv_iload_n hx hb dX9_soundTwins_37 rfl (lv_at hl 2 rfl) ?_
            refine lv_ishl hx hb dX9_soundTwins_38 ?_
            refine lv_ior hx hb dX9_soundTwins_39 ?_
            refine lv_istore_n (lv' := [(1, .int (v2.1 ||| ((1 : Int32) <<< (v2.2 &&& 31)))), (0, .ref o_t), (2, .int v2.2)]) hx hb dX9_soundTwins_40 rfl hl (by decide) rfl (fun ls hl => ?_)
            exact Jq4 _ (Option.some.inj hf).symm _ _ _ hP hD hS (lv_sub hl [1, 0, 2] rfl)
  exact L1 _ _ hq1 _ _ _ hP hD hS (lv_sub hl [2, 1, 0] rfl)
/-! TwinLamps$Town.hasSoundLamp -/
noncomputable def f9_hasSoundLamp_L1 (s_t : St) (x1 : Int32) (v2 : Int32) : Option ((Int32) ⊕ ((Unit) ⊕ (Unit))) :=
  if (s_t.1 1) ≤ v2 then some (.inr (.inr ())) else (ldO 12 (s_t.2 8) v2).bind fun q3 =>
  if q3 = x1 then ((f9_couple s_t v2).bind fun q4 =>
  if ((s_t.1 4) &&& q4) = 0 then some (.inr (.inl ())) else some (.inl (v2 + 1)))
  else some (.inl (v2 + 1))
noncomputable def f9_hasSoundLamp (s_t : St) (x1 : Int32) : Option (Bool) :=
  (lpw (f9_hasSoundLamp_L1 s_t x1) 0).bind fun q1 =>
  match q1 with
  | .inl r1_0 => (some true)
  | .inr r1_1 => (some false)
set_option maxHeartbeats 4000000 in
set_option maxRecDepth 100000 in
theorem c9_hasSoundLamp (l : Launch) (D : va_G) (cs : xE) (o_t : Nat) (a_t : Nat → Nat) (s_t : St) (sz : Nat) (x1 : Int32) (res : Bool) (hf : f9_hasSoundLamp s_t x1 = some res) : Met l yX9_hasSoundLamp (Cond.code yX9_hasSoundLamp cX9_hasSoundLamp 3 (some .boolean) :: WG) { frames := 1, cells := 0, slots := 0, locals := 22 } (va_Pc [.ref o_t, .int x1] (mP D cs (List.flatten [w9 cs o_t a_t s_t]) sz)) (qI D cs (zB res) (List.flatten [w9 cs o_t a_t s_t]) (va_A (List.flatten [w9 cs o_t a_t s_t]) sz)) 0 0 (va_A (List.flatten [w9 cs o_t a_t s_t]) sz) := by
  refine mgo (Qc := qI D cs (zB res) (List.flatten [w9 cs o_t a_t s_t])) (cc := cX9_hasSoundLamp) (maxL := 3) (ret := (some .boolean)) (by decide) rfl (Nat.le_of_ble_eq_true rfl) ?_
  intro p e s m below meth c ls A R Q args H hR hQ hx hb hml hr hlocks hown hts hP hK hD hA hS hG hl
  have hown : s.vm.findClass RX9 = some m.cls := hown
  have hl : lv_has ls 3 [(0, .ref o_t), (1, .int x1)] := hl
  have hW : ∀ w ∈ WG, w.before args s = true := fun w h => hts w (List.mem_cons_of_mem _ h)
  have htX9 : ∀ w ∈ u_ws RX9 TX9 11, w.before args s = true := fun w h => hW w (inW_X9 w h)
  unfold f9_hasSoundLamp at hf
  refine lv_iconst (v := 0) hx hb dX9_hasSoundLamp_0 (by decide) ?_
  refine lv_istore_n (lv' := [(2, .int 0), (0, .ref o_t), (1, .int x1)]) hx hb dX9_hasSoundLamp_1 rfl hl (by decide) rfl (fun ls hl => ?_)
  obtain ⟨q1, hq1, hf⟩ := bnd hf
  obtain ⟨n1, hq1⟩ := lpw_ex hq1
  have Jq1_0 : ∀ rr1_0 : Unit, q1 = (.inl rr1_0) → ∀ (H : Heap) (locs : List Loc) (ls : Array Slot), va_P D vwCl (List.flatten [w9 cs o_t a_t s_t]) H → va_D A (List.flatten [w9 cs o_t a_t s_t]) → va_S A s.heap H locs → lv_has ls 3 [] → W p l e R s m args below meth c H locs 0 0 Q (F0 m 33 ls []) := by
    intro r1_0 eq1 H locs ls hP hD hS hl
    subst eq1
    try dsimp only at hf
    refine lv_iconst (v := 1) hx hb dX9_hasSoundLamp_33 (by decide) ?_
    obtain rfl := Option.some.inj hf
    exact mretZ hx hb hr hlocks hK hP hD hS rfl hQ dX9_hasSoundLamp_34
  have Jq1_1 : ∀ rr1_1 : Unit, q1 = (.inr rr1_1) → ∀ (H : Heap) (locs : List Loc) (ls : Array Slot), va_P D vwCl (List.flatten [w9 cs o_t a_t s_t]) H → va_D A (List.flatten [w9 cs o_t a_t s_t]) → va_S A s.heap H locs → lv_has ls 3 [] → W p l e R s m args below meth c H locs 0 0 Q (F0 m 41 ls []) := by
    intro r1_1 eq1 H locs ls hP hD hS hl
    subst eq1
    try dsimp only at hf
    refine lv_iconst (v := 0) hx hb dX9_hasSoundLamp_41 (by decide) ?_
    obtain rfl := Option.some.inj hf
    exact mretZ hx hb hr hlocks hK hP hD hS rfl hQ dX9_hasSoundLamp_42
  clear hf
  have L1 : ∀ n1, ∀ v2 : Int32, lp n1 (f9_hasSoundLamp_L1 s_t x1) v2 = some q1 → ∀ (H : Heap) (locs : List Loc) (ls : Array Slot), va_P D vwCl (List.flatten [w9 cs o_t a_t s_t]) H → va_D A (List.flatten [w9 cs o_t a_t s_t]) → va_S A s.heap H locs → lv_has ls 3 [(0, .ref o_t), (1, .int x1), (2, .int v2)] → W p l e R s m args below meth c H locs 0 0 Q (F0 m 2 ls []) := by
    intro n1
    induction n1 with
    | zero => intro v2 hn; cases hn
    | succ n1 ih1 =>
      intro v2 hn1 H locs ls hP hD hS hl
      obtain ⟨y1, hf, hn1⟩ := lp_succ hn1
      unfold f9_hasSoundLamp_L1 at hf
      refine lv_iload_n hx hb dX9_hasSoundLamp_2 rfl (lv_at hl 2 rfl) ?_
      refine lv_aload_n hx hb dX9_hasSoundLamp_3 rfl (lv_at hl 0 rfl) ?_
      refine gfB (i0 := 0) (own := RX9) (T := TX9) (k := 1) (v := .int (s_t.1 1)) hx hb htX9 hown hK hP rfl e9 rfl (by decide) (hW _ wd152) rfl dX9_hasSoundLamp_4 ?_
      refine lv_icmp_ge (tgt := 41) hx hb dX9_hasSoundLamp_7 (by decide) (fun hc => ?_) (fun hc => ?_)
      · have hf := ifp hc hf
        cases hf
        exact Jq1_1 _ (Option.some.inj hn1).symm _ _ _ hP hD hS (lv_sub hl [] rfl)
      · have hf := ifn hc hf
        refine lv_aload_n hx hb dX9_hasSoundLamp_10 rfl (lv_at hl 0 rfl) ?_
        refine gfB (i0 := 0) (own := RX9) (T := TX9) (k := 8) (v := .ref (a_t 8)) hx hb htX9 hown hK hP rfl e9 rfl (by decide) (hW _ wd172) rfl dX9_hasSoundLamp_11 ?_
        refine lv_iload_n hx hb dX9_hasSoundLamp_14 rfl (lv_at hl 2 rfl) ?_
        obtain ⟨q3, eq3, hf⟩ := bnd hf
        obtain ⟨gq3, eq3⟩ := ldO_e eq3
        refine aldB (i0 := 0) hx hb hK hP rfl a9_8 gq3 dX9_hasSoundLamp_15 ?_
        refine lv_nm eq3 ?_
        refine lv_iload_n hx hb dX9_hasSoundLamp_16 rfl (lv_at hl 1 rfl) ?_
        refine lv_icmp_ne (tgt := 35) hx hb dX9_hasSoundLamp_17 (by decide) (fun hc => ?_) (fun hc => ?_)
        · have hf := ifn hc hf
          refine lv_iinc (v := (v2 + 1)) (lv' := [(2, .int (v2 + 1)), (0, .ref o_t), (1, .int x1)]) hx hb dX9_hasSoundLamp_35 hl (k := 2) rfl rfl (by decide) rfl (fun ls hl => ?_)
          refine lv_goto (tgt := 2) hx hb dX9_hasSoundLamp_38 (by decide) ?_
          cases hf
          exact ih1 _ hn1 _ _ _ hP hD hS (lv_sub hl [1, 2, 0] rfl)
        · have hf := ifp hc hf
          refine lv_aload_n hx hb dX9_hasSoundLamp_20 rfl (lv_at hl 0 rfl) ?_
          refine gfB (i0 := 0) (own := RX9) (T := TX9) (k := 4) (v := .int (s_t.1 4)) hx hb htX9 hown hK hP rfl e9 rfl (by decide) (hW _ wd163) rfl dX9_hasSoundLamp_21 ?_
          refine lv_aload_n hx hb dX9_hasSoundLamp_24 rfl (lv_at hl 0 rfl) ?_
          refine lv_iload_n hx hb dX9_hasSoundLamp_25 rfl (lv_at hl 2 rfl) ?_
          obtain ⟨q4, eq4, hf⟩ := bnd hf
          refine mcVi (v := q4) (rest := [.int (s_t.1 4)]) (Bn := [w9 cs o_t a_t s_t]) (isR := []) (isC := [0]) (i0 := 0) ⟨hx, hb, hml, hown, hts⟩ hK hP hD hS hA hG (c9_couple l D cs o_t a_t s_t H.size v2 _ eq4) (cwV 1 hts (gV wd563 wd564 wd565 wd107 wd566) rfl rfl rfl (by decide +kernel) ⟨by rw [hR]; exact Nat.le_of_ble_eq_true rfl, by rw [hR]; exact Nat.le_of_ble_eq_true rfl⟩) 1 (by decide) rfl rfl rfl rfl rfl rfl rfl e9 rfl rfl rfl hl.1 rfl (Nat.le_of_ble_eq_true rfl) ⟨Nat.zero_le _, Nat.zero_le _⟩ dX9_hasSoundLamp_26 (fun H locs hP hD hS => ?_)
          refine lv_iand hx hb dX9_hasSoundLamp_29 ?_
          refine lv_if_ne (tgt := 35) hx hb dX9_hasSoundLamp_30 (by decide) (fun hc => ?_) (fun hc => ?_)
          · have hf := ifn hc hf
            refine lv_iinc (v := (v2 + 1)) (lv' := [(2, .int (v2 + 1)), (0, .ref o_t), (1, .int x1)]) hx hb dX9_hasSoundLamp_35 hl (k := 2) rfl rfl (by decide) rfl (fun ls hl => ?_)
            refine lv_goto (tgt := 2) hx hb dX9_hasSoundLamp_38 (by decide) ?_
            cases hf
            exact ih1 _ hn1 _ _ _ hP hD hS (lv_sub hl [1, 2, 0] rfl)
          · have hf := ifp hc hf
            cases hf
            exact Jq1_0 _ (Option.some.inj hn1).symm _ _ _ hP hD hS (lv_sub hl [] rfl)
  exact L1 _ _ hq1 _ _ _ hP hD hS (lv_sub hl [1, 2, 0] rfl)
/-! TwinLamps$Town.plungedBy -/
noncomputable def f9_plungedBy_L1 (s_t : St) (x1 : Int32) (v2 : Int32 × Int32) : Option ((Int32 × Int32) ⊕ (Int32)) :=
  if (s_t.1 1) ≤ v2.2 then some (.inr v2.1) else (ldO 12 (s_t.2 10) v2.2).bind fun q3 =>
  (ldO 12 (s_t.2 8) v2.2).bind fun q4 =>
  ((if q4 = x1 then (if q3 < 0 then some v2.1 else if (s_t.1 1) ≤ q3 then some v2.1 else (ldO 12 (s_t.2 8) q3).bind fun q6 =>
  some (v2.1 ||| ((1 : Int32) <<< (q6 &&& 31))))
  else some v2.1 : Option (Int32))).bind fun q5 =>
  some (.inl (q5, (v2.2 + 1)))
noncomputable def f9_plungedBy (s_t : St) (x1 : Int32) : Option (Int32) :=
  (lpw (f9_plungedBy_L1 s_t x1) (0, 0)).bind fun q1 =>
  some q1
set_option maxHeartbeats 4000000 in
set_option maxRecDepth 100000 in
theorem c9_plungedBy (l : Launch) (D : va_G) (cs : xE) (o_t : Nat) (a_t : Nat → Nat) (s_t : St) (sz : Nat) (x1 : Int32) (res : Int32) (hf : f9_plungedBy s_t x1 = some res) : Met l yX9_plungedBy (Cond.code yX9_plungedBy cX9_plungedBy 5 (some .int) :: WG) { frames := 0, cells := 0, slots := 0, locals := 0 } (va_Pc [.ref o_t, .int x1] (mP D cs (List.flatten [w9 cs o_t a_t s_t]) sz)) (qI D cs res (List.flatten [w9 cs o_t a_t s_t]) (va_A (List.flatten [w9 cs o_t a_t s_t]) sz)) 0 0 (va_A (List.flatten [w9 cs o_t a_t s_t]) sz) := by
  refine mgo (Qc := qI D cs res (List.flatten [w9 cs o_t a_t s_t])) (cc := cX9_plungedBy) (maxL := 5) (ret := (some .int)) (by decide) rfl (Nat.le_of_ble_eq_true rfl) ?_
  intro p e s m below meth c ls A R Q args H hR hQ hx hb hml hr hlocks hown hts hP hK hD hA hS hG hl
  have hown : s.vm.findClass RX9 = some m.cls := hown
  have hl : lv_has ls 5 [(0, .ref o_t), (1, .int x1)] := hl
  have hW : ∀ w ∈ WG, w.before args s = true := fun w h => hts w (List.mem_cons_of_mem _ h)
  have htX9 : ∀ w ∈ u_ws RX9 TX9 11, w.before args s = true := fun w h => hW w (inW_X9 w h)
  unfold f9_plungedBy at hf
  refine lv_iconst (v := 0) hx hb dX9_plungedBy_0 (by decide) ?_
  refine lv_istore_n (lv' := [(2, .int 0), (0, .ref o_t), (1, .int x1)]) hx hb dX9_plungedBy_1 rfl hl (by decide) rfl (fun ls hl => ?_)
  refine lv_iconst (v := 0) hx hb dX9_plungedBy_2 (by decide) ?_
  refine lv_istore_n (lv' := [(3, .int 0), (2, .int 0), (0, .ref o_t), (1, .int x1)]) hx hb dX9_plungedBy_3 rfl hl (by decide) rfl (fun ls hl => ?_)
  obtain ⟨q1, hq1, hf⟩ := bnd hf
  obtain ⟨n1, hq1⟩ := lpw_ex hq1
  have Jq1_0 : ∀ rr1_0 : Int32, q1 = rr1_0 → ∀ (H : Heap) (locs : List Loc) (ls : Array Slot), va_P D vwCl (List.flatten [w9 cs o_t a_t s_t]) H → va_D A (List.flatten [w9 cs o_t a_t s_t]) → va_S A s.heap H locs → lv_has ls 5 [(2, .int rr1_0)] → W p l e R s m args below meth c H locs 0 0 Q (F0 m 62 ls []) := by
    intro rr1_0 eq1 H locs ls hP hD hS hl
    subst eq1
    refine lv_iload_n hx hb dX9_plungedBy_62 rfl (lv_at hl 0 rfl) ?_
    obtain rfl := Option.some.inj hf
    exact mretI hx hb hr hlocks hK hP hD hS rfl hQ dX9_plungedBy_63
  clear hf
  have L1 : ∀ n1, ∀ v2 : Int32 × Int32, lp n1 (f9_plungedBy_L1 s_t x1) v2 = some q1 → ∀ (H : Heap) (locs : List Loc) (ls : Array Slot), va_P D vwCl (List.flatten [w9 cs o_t a_t s_t]) H → va_D A (List.flatten [w9 cs o_t a_t s_t]) → va_S A s.heap H locs → lv_has ls 5 [(0, .ref o_t), (1, .int x1), (2, .int v2.1), (3, .int v2.2)] → W p l e R s m args below meth c H locs 0 0 Q (F0 m 4 ls []) := by
    intro n1
    induction n1 with
    | zero => intro v2 hn; cases hn
    | succ n1 ih1 =>
      intro v2 hn1 H locs ls hP hD hS hl
      obtain ⟨y1, hf, hn1⟩ := lp_succ hn1
      unfold f9_plungedBy_L1 at hf
      refine lv_iload_n hx hb dX9_plungedBy_4 rfl (lv_at hl 3 rfl) ?_
      refine lv_aload_n hx hb dX9_plungedBy_5 rfl (lv_at hl 0 rfl) ?_
      refine gfB (i0 := 0) (own := RX9) (T := TX9) (k := 1) (v := .int (s_t.1 1)) hx hb htX9 hown hK hP rfl e9 rfl (by decide) (hW _ wd152) rfl dX9_plungedBy_6 ?_
      refine lv_icmp_ge (tgt := 62) hx hb dX9_plungedBy_9 (by decide) (fun hc => ?_) (fun hc => ?_)
      · have hf := ifp hc hf
        cases hf
        exact Jq1_0 _ (Option.some.inj hn1).symm _ _ _ hP hD hS (lv_sub hl [2] rfl)
      · have hf := ifn hc hf
        refine lv_aload_n hx hb dX9_plungedBy_12 rfl (lv_at hl 0 rfl) ?_
        refine gfB (i0 := 0) (own := RX9) (T := TX9) (k := 10) (v := .ref (a_t 10)) hx hb htX9 hown hK hP rfl e9 rfl (by decide) (hW _ wd180) rfl dX9_plungedBy_13 ?_
        refine lv_iload_n hx hb dX9_plungedBy_16 rfl (lv_at hl 3 rfl) ?_
        obtain ⟨q3, eq3, hf⟩ := bnd hf
        obtain ⟨gq3, eq3⟩ := ldO_e eq3
        refine aldB (i0 := 0) hx hb hK hP rfl a9_10 gq3 dX9_plungedBy_17 ?_
        refine lv_nm eq3 ?_
        refine lv_istore (lv' := [(4, .int q3), (0, .ref o_t), (1, .int x1), (2, .int v2.1), (3, .int v2.2)]) hx hb dX9_plungedBy_18 hl (by decide) rfl (fun ls hl => ?_)
        refine lv_aload_n hx hb dX9_plungedBy_20 rfl (lv_at hl 1 rfl) ?_
        refine gfB (i0 := 0) (own := RX9) (T := TX9) (k := 8) (v := .ref (a_t 8)) hx hb htX9 hown hK hP rfl e9 rfl (by decide) (hW _ wd172) rfl dX9_plungedBy_21 ?_
        refine lv_iload_n hx hb dX9_plungedBy_24 rfl (lv_at hl 4 rfl) ?_
        obtain ⟨q4, eq4, hf⟩ := bnd hf
        obtain ⟨gq4, eq4⟩ := ldO_e eq4
        refine aldB (i0 := 0) hx hb hK hP rfl a9_8 gq4 dX9_plungedBy_25 ?_
        refine lv_nm eq4 ?_
        refine lv_iload_n hx hb dX9_plungedBy_26 rfl (lv_at hl 2 rfl) ?_
        obtain ⟨q5, hq5, hf⟩ := bnd hf
        have Jq5 : ∀ r5 : Int32, q5 = r5 → ∀ (H : Heap) (locs : List Loc) (ls : Array Slot), va_P D vwCl (List.flatten [w9 cs o_t a_t s_t]) H → va_D A (List.flatten [w9 cs o_t a_t s_t]) → va_S A s.heap H locs → lv_has ls 5 [(0, .ref o_t), (1, .int x1), (2, .int r5), (3, .int v2.2)] → W p l e R s m args below meth c H locs 0 0 Q (F0 m 56 ls []) := by
          intro r5 eq5 H locs ls hP hD hS hl
          subst eq5
          refine lv_iinc (v := (v2.2 + 1)) (lv' := [(3, .int (v2.2 + 1)), (0, .ref o_t), (1, .int x1), (2, .int q5)]) hx hb dX9_plungedBy_56 hl (k := 3) rfl rfl (by decide) rfl (fun ls hl => ?_)
          refine lv_goto (tgt := 4) hx hb dX9_plungedBy_59 (by decide) ?_
          cases hf
          exact ih1 _ hn1 _ _ _ hP hD hS (lv_sub hl [1, 2, 3, 0] rfl)
        clear hf
        have hf := hq5
        refine lv_icmp_ne (tgt := 56) hx hb dX9_plungedBy_27 (by decide) (fun hc => ?_) (fun hc => ?_)
        · have hf := ifn hc hf
          exact Jq5 _ (Option.some.inj hf).symm _ _ _ hP hD hS (lv_sub hl [1, 2, 3, 4] rfl)
        · have hf := ifp hc hf
          refine lv_iload hx hb dX9_plungedBy_30 (lv_at hl 0 rfl) ?_
          refine lv_if_lt (tgt := 56) hx hb dX9_plungedBy_32 (by decide) (fun hc => ?_) (fun hc => ?_)
          · have hf := ifp hc hf
            exact Jq5 _ (Option.some.inj hf).symm _ _ _ hP hD hS (lv_sub hl [1, 2, 3, 4] rfl)
          · have hf := ifn hc hf
            refine lv_iload hx hb dX9_plungedBy_35 (lv_at hl 0 rfl) ?_
            refine lv_aload_n hx hb dX9_plungedBy_37 rfl (lv_at hl 1 rfl) ?_
            refine gfB (i0 := 0) (own := RX9) (T := TX9) (k := 1) (v := .int (s_t.1 1)) hx hb htX9 hown hK hP rfl e9 rfl (by decide) (hW _ wd152) rfl dX9_plungedBy_38 ?_
            refine lv_icmp_ge (tgt := 56) hx hb dX9_plungedBy_41 (by decide) (fun hc => ?_) (fun hc => ?_)
            · have hf := ifp hc hf
              exact Jq5 _ (Option.some.inj hf).symm _ _ _ hP hD hS (lv_sub hl [1, 2, 3, 4] rfl)
            · have hf := ifn hc hf
              refine lv_iload_n hx hb dX9_plungedBy_44 rfl (lv_at hl 3 rfl) ?_
              refine lv_iconst (v := 1) hx hb dX9_plungedBy_45 (by decide) ?_
              refine lv_aload_n hx hb dX9_plungedBy_46 rfl (lv_at hl 1 rfl) ?_
              refine gfB (i0 := 0) (own := RX9) (T := TX9) (k := 8) (v := .ref (a_t 8)) hx hb htX9 hown hK hP rfl e9 rfl (by decide) (hW _ wd172) rfl dX9_plungedBy_47 ?_
              refine lv_iload hx hb dX9_plungedBy_50 (lv_at hl 0 rfl) ?_
              obtain ⟨q6, eq6, hf⟩ := bnd hf
              obtain ⟨gq6, eq6⟩ := ldO_e eq6
              refine aldB (i0 := 0) hx hb hK hP rfl a9_8 gq6 dX9_plungedBy_52 ?_
              refine lv_nm eq6 ?_
              refine lv_ishl hx hb dX9_plungedBy_53 ?_
              refine lv_ior hx hb dX9_plungedBy_54 ?_
              refine lv_istore_n (lv' := [(2, .int (v2.1 ||| ((1 : Int32) <<< (q6 &&& 31)))), (4, .int q3), (0, .ref o_t), (1, .int x1), (3, .int v2.2)]) hx hb dX9_plungedBy_55 rfl hl (by decide) rfl (fun ls hl => ?_)
              exact Jq5 _ (Option.some.inj hf).symm _ _ _ hP hD hS (lv_sub hl [2, 3, 0, 4] rfl)
  exact L1 _ _ hq1 _ _ _ hP hD hS (lv_sub hl [2, 3, 1, 0] rfl)
/-! TwinLamps$Town.oneTwinFurther -/
noncomputable def f9_oneTwinFurther_L1 (s_t : St) (x1 : Int32) (v2 : Int32 × Int32) : Option ((Int32 × Int32) ⊕ (Int32)) :=
  if (s_t.1 0) ≤ v2.2 then some (.inr v2.1) else ((if ((x1 >>> (v2.2 &&& 31)) &&& 1) = 1 then ((f9_plungedBy s_t v2.2).bind fun q4 =>
  some (v2.1 ||| q4))
  else some v2.1 : Option (Int32))).bind fun q3 =>
  some (.inl (q3, (v2.2 + 1)))
noncomputable def f9_oneTwinFurther (s_t : St) (x1 : Int32) : Option (Int32) :=
  (lpw (f9_oneTwinFurther_L1 s_t x1) (x1, 0)).bind fun q1 =>
  some q1
set_option maxHeartbeats 4000000 in
set_option maxRecDepth 100000 in
theorem c9_oneTwinFurther (l : Launch) (D : va_G) (cs : xE) (o_t : Nat) (a_t : Nat → Nat) (s_t : St) (sz : Nat) (x1 : Int32) (res : Int32) (hf : f9_oneTwinFurther s_t x1 = some res) : Met l yX9_oneTwinFurther (Cond.code yX9_oneTwinFurther cX9_oneTwinFurther 4 (some .int) :: WG) { frames := 1, cells := 0, slots := 0, locals := 24 } (va_Pc [.ref o_t, .int x1] (mP D cs (List.flatten [w9 cs o_t a_t s_t]) sz)) (qI D cs res (List.flatten [w9 cs o_t a_t s_t]) (va_A (List.flatten [w9 cs o_t a_t s_t]) sz)) 0 0 (va_A (List.flatten [w9 cs o_t a_t s_t]) sz) := by
  refine mgo (Qc := qI D cs res (List.flatten [w9 cs o_t a_t s_t])) (cc := cX9_oneTwinFurther) (maxL := 4) (ret := (some .int)) (by decide) rfl (Nat.le_of_ble_eq_true rfl) ?_
  intro p e s m below meth c ls A R Q args H hR hQ hx hb hml hr hlocks hown hts hP hK hD hA hS hG hl
  have hown : s.vm.findClass RX9 = some m.cls := hown
  have hl : lv_has ls 4 [(0, .ref o_t), (1, .int x1)] := hl
  have hW : ∀ w ∈ WG, w.before args s = true := fun w h => hts w (List.mem_cons_of_mem _ h)
  have htX9 : ∀ w ∈ u_ws RX9 TX9 11, w.before args s = true := fun w h => hW w (inW_X9 w h)
  unfold f9_oneTwinFurther at hf
  refine lv_iload_n hx hb dX9_oneTwinFurther_0 rfl (lv_at hl 1 rfl) ?_
  refine lv_istore_n (lv' := [(2, .int x1), (0, .ref o_t), (1, .int x1)]) hx hb dX9_oneTwinFurther_1 rfl hl (by decide) rfl (fun ls hl => ?_)
  refine lv_iconst (v := 0) hx hb dX9_oneTwinFurther_2 (by decide) ?_
  refine lv_istore_n (lv' := [(3, .int 0), (2, .int x1), (0, .ref o_t), (1, .int x1)]) hx hb dX9_oneTwinFurther_3 rfl hl (by decide) rfl (fun ls hl => ?_)
  obtain ⟨q1, hq1, hf⟩ := bnd hf
  obtain ⟨n1, hq1⟩ := lpw_ex hq1
  have Jq1_0 : ∀ rr1_0 : Int32, q1 = rr1_0 → ∀ (H : Heap) (locs : List Loc) (ls : Array Slot), va_P D vwCl (List.flatten [w9 cs o_t a_t s_t]) H → va_D A (List.flatten [w9 cs o_t a_t s_t]) → va_S A s.heap H locs → lv_has ls 4 [(2, .int rr1_0)] → W p l e R s m args below meth c H locs 0 0 Q (F0 m 35 ls []) := by
    intro rr1_0 eq1 H locs ls hP hD hS hl
    subst eq1
    refine lv_iload_n hx hb dX9_oneTwinFurther_35 rfl (lv_at hl 0 rfl) ?_
    obtain rfl := Option.some.inj hf
    exact mretI hx hb hr hlocks hK hP hD hS rfl hQ dX9_oneTwinFurther_36
  clear hf
  have L1 : ∀ n1, ∀ v2 : Int32 × Int32, lp n1 (f9_oneTwinFurther_L1 s_t x1) v2 = some q1 → ∀ (H : Heap) (locs : List Loc) (ls : Array Slot), va_P D vwCl (List.flatten [w9 cs o_t a_t s_t]) H → va_D A (List.flatten [w9 cs o_t a_t s_t]) → va_S A s.heap H locs → lv_has ls 4 [(0, .ref o_t), (1, .int x1), (2, .int v2.1), (3, .int v2.2)] → W p l e R s m args below meth c H locs 0 0 Q (F0 m 4 ls []) := by
    intro n1
    induction n1 with
    | zero => intro v2 hn; cases hn
    | succ n1 ih1 =>
      intro v2 hn1 H locs ls hP hD hS hl
      obtain ⟨y1, hf, hn1⟩ := lp_succ hn1
      unfold f9_oneTwinFurther_L1 at hf
      refine lv_iload_n hx hb dX9_oneTwinFurther_4 rfl (lv_at hl 3 rfl) ?_
      refine lv_aload_n hx hb dX9_oneTwinFurther_5 rfl (lv_at hl 0 rfl) ?_
      refine gfB (i0 := 0) (own := RX9) (T := TX9) (k := 0) (v := .int (s_t.1 0)) hx hb htX9 hown hK hP rfl e9 rfl (by decide) (hW _ wd149) rfl dX9_oneTwinFurther_6 ?_
      refine lv_icmp_ge (tgt := 35) hx hb dX9_oneTwinFurther_9 (by decide) (fun hc => ?_) (fun hc => ?_)
      · have hf := ifp hc hf
        cases hf
        exact Jq1_0 _ (Option.some.inj hn1).symm _ _ _ hP hD hS (lv_sub hl [2] rfl)
      · have hf := ifn hc hf
        refine lv_iload_n hx hb dX9_oneTwinFurther_12 rfl (lv_at hl 1 rfl) ?_
        refine lv_iload_n hx hb dX9_oneTwinFurther_13 rfl (lv_at hl 3 rfl) ?_
        refine lv_ishr hx hb dX9_oneTwinFurther_14 ?_
        refine lv_iconst (v := 1) hx hb dX9_oneTwinFurther_15 (by decide) ?_
        refine lv_iand hx hb dX9_oneTwinFurther_16 ?_
        refine lv_iconst (v := 1) hx hb dX9_oneTwinFurther_17 (by decide) ?_
        obtain ⟨q3, hq3, hf⟩ := bnd hf
        have Jq3 : ∀ r3 : Int32, q3 = r3 → ∀ (H : Heap) (locs : List Loc) (ls : Array Slot), va_P D vwCl (List.flatten [w9 cs o_t a_t s_t]) H → va_D A (List.flatten [w9 cs o_t a_t s_t]) → va_S A s.heap H locs → lv_has ls 4 [(0, .ref o_t), (1, .int x1), (2, .int r3), (3, .int v2.2)] → W p l e R s m args below meth c H locs 0 0 Q (F0 m 29 ls []) := by
          intro r3 eq3 H locs ls hP hD hS hl
          subst eq3
          refine lv_iinc (v := (v2.2 + 1)) (lv' := [(3, .int (v2.2 + 1)), (0, .ref o_t), (1, .int x1), (2, .int q3)]) hx hb dX9_oneTwinFurther_29 hl (k := 3) rfl rfl (by decide) rfl (fun ls hl => ?_)
          refine lv_goto (tgt := 4) hx hb dX9_oneTwinFurther_32 (by decide) ?_
          cases hf
          exact ih1 _ hn1 _ _ _ hP hD hS (lv_sub hl [1, 2, 3, 0] rfl)
        clear hf
        have hf := hq3
        refine lv_icmp_ne (tgt := 29) hx hb dX9_oneTwinFurther_18 (by decide) (fun hc => ?_) (fun hc => ?_)
        · have hf := ifn hc hf
          exact Jq3 _ (Option.some.inj hf).symm _ _ _ hP hD hS (lv_sub hl [0, 1, 2, 3] rfl)
        · have hf := ifp hc hf
          refine lv_iload_n hx hb dX9_oneTwinFurther_21 rfl (lv_at hl 2 rfl) ?_
          refine lv_aload_n hx hb dX9_oneTwinFurther_22 rfl (lv_at hl 0 rfl) ?_
          refine lv_iload_n hx hb dX9_oneTwinFurther_23 rfl (lv_at hl 3 rfl) ?_
          obtain ⟨q4, eq4, hf⟩ := bnd hf
          refine mcVi (v := q4) (rest := [.int v2.1]) (Bn := [w9 cs o_t a_t s_t]) (isR := []) (isC := [0]) (i0 := 0) ⟨hx, hb, hml, hown, hts⟩ hK hP hD hS hA hG (c9_plungedBy l D cs o_t a_t s_t H.size v2.2 _ eq4) (cwV 1 hts (gV wd906 wd907 wd908 wd107 wd909) rfl rfl rfl (by decide +kernel) ⟨by rw [hR]; exact Nat.le_of_ble_eq_true rfl, by rw [hR]; exact Nat.le_of_ble_eq_true rfl⟩) 1 (by decide) rfl rfl rfl rfl rfl rfl rfl e9 rfl rfl rfl hl.1 rfl (Nat.le_of_ble_eq_true rfl) ⟨Nat.zero_le _, Nat.zero_le _⟩ dX9_oneTwinFurther_24 (fun H locs hP hD hS => ?_)
          refine lv_ior hx hb dX9_oneTwinFurther_27 ?_
          refine lv_istore_n (lv' := [(2, .int (v2.1 ||| q4)), (0, .ref o_t), (1, .int x1), (3, .int v2.2)]) hx hb dX9_oneTwinFurther_28 rfl hl (by decide) rfl (fun ls hl => ?_)
          exact Jq3 _ (Option.some.inj hf).symm _ _ _ hP hD hS (lv_sub hl [1, 2, 0, 3] rfl)
  exact L1 _ _ hq1 _ _ _ hP hD hS (lv_sub hl [2, 3, 1, 0] rfl)
/-! TwinLamps$Town.fewestTwins -/
noncomputable def f9_fewestTwins_L1 (s_t : St) (x2 : Int32) (v2 : Int32 × Int32) : Option ((Int32 × Int32) ⊕ ((Int32) ⊕ (Unit))) :=
  if (8 : Int32) ≤ v2.2 then some (.inr (.inr ())) else if ((v2.1 >>> (x2 &&& 31)) &&& 1) = 1 then some (.inr (.inl v2.2)) else (f9_oneTwinFurther s_t v2.1).bind fun q3 =>
  some (.inl (q3, (v2.2 + 1)))
noncomputable def f9_fewestTwins (s_t : St) (x1 : Int32) (x2 : Int32) : Option (Int32) :=
  (lpw (f9_fewestTwins_L1 s_t x2) (((1 : Int32) <<< (x1 &&& 31)), 0)).bind fun q1 =>
  match q1 with
  | .inl r1_0 => (some r1_0)
  | .inr r1_1 => (some (-1))
set_option maxHeartbeats 4000000 in
set_option maxRecDepth 100000 in
theorem c9_fewestTwins (l : Launch) (D : va_G) (cs : xE) (o_t : Nat) (a_t : Nat → Nat) (s_t : St) (sz : Nat) (x1 : Int32) (x2 : Int32) (res : Int32) (hf : f9_fewestTwins s_t x1 x2 = some res) : Met l yX9_fewestTwins (Cond.code yX9_fewestTwins cX9_fewestTwins 5 (some .int) :: WG) { frames := 2, cells := 0, slots := 0, locals := 47 } (va_Pc [.ref o_t, .int x1, .int x2] (mP D cs (List.flatten [w9 cs o_t a_t s_t]) sz)) (qI D cs res (List.flatten [w9 cs o_t a_t s_t]) (va_A (List.flatten [w9 cs o_t a_t s_t]) sz)) 0 0 (va_A (List.flatten [w9 cs o_t a_t s_t]) sz) := by
  refine mgo (Qc := qI D cs res (List.flatten [w9 cs o_t a_t s_t])) (cc := cX9_fewestTwins) (maxL := 5) (ret := (some .int)) (by decide) rfl (Nat.le_of_ble_eq_true rfl) ?_
  intro p e s m below meth c ls A R Q args H hR hQ hx hb hml hr hlocks hown hts hP hK hD hA hS hG hl
  have hown : s.vm.findClass RX9 = some m.cls := hown
  have hl : lv_has ls 5 [(0, .ref o_t), (1, .int x1), (2, .int x2)] := hl
  have hW : ∀ w ∈ WG, w.before args s = true := fun w h => hts w (List.mem_cons_of_mem _ h)
  unfold f9_fewestTwins at hf
  refine lv_iconst (v := 1) hx hb dX9_fewestTwins_0 (by decide) ?_
  refine lv_iload_n hx hb dX9_fewestTwins_1 rfl (lv_at hl 1 rfl) ?_
  refine lv_ishl hx hb dX9_fewestTwins_2 ?_
  refine lv_istore_n (lv' := [(3, .int ((1 : Int32) <<< (x1 &&& 31))), (0, .ref o_t), (1, .int x1), (2, .int x2)]) hx hb dX9_fewestTwins_3 rfl hl (by decide) rfl (fun ls hl => ?_)
  refine lv_iconst (v := 0) hx hb dX9_fewestTwins_4 (by decide) ?_
  refine lv_istore (lv' := [(4, .int 0), (3, .int ((1 : Int32) <<< (x1 &&& 31))), (0, .ref o_t), (1, .int x1), (2, .int x2)]) hx hb dX9_fewestTwins_5 hl (by decide) rfl (fun ls hl => ?_)
  obtain ⟨q1, hq1, hf⟩ := bnd hf
  obtain ⟨n1, hq1⟩ := lpw_ex hq1
  have Jq1_0 : ∀ rr1_0 : Int32, q1 = (.inl rr1_0) → ∀ (H : Heap) (locs : List Loc) (ls : Array Slot), va_P D vwCl (List.flatten [w9 cs o_t a_t s_t]) H → va_D A (List.flatten [w9 cs o_t a_t s_t]) → va_S A s.heap H locs → lv_has ls 5 [(4, .int rr1_0)] → W p l e R s m args below meth c H locs 0 0 Q (F0 m 23 ls []) := by
    intro r1_0 eq1 H locs ls hP hD hS hl
    subst eq1
    try dsimp only at hf
    refine lv_iload hx hb dX9_fewestTwins_23 (lv_at hl 0 rfl) ?_
    obtain rfl := Option.some.inj hf
    exact mretI hx hb hr hlocks hK hP hD hS rfl hQ dX9_fewestTwins_25
  have Jq1_1 : ∀ rr1_1 : Unit, q1 = (.inr rr1_1) → ∀ (H : Heap) (locs : List Loc) (ls : Array Slot), va_P D vwCl (List.flatten [w9 cs o_t a_t s_t]) H → va_D A (List.flatten [w9 cs o_t a_t s_t]) → va_S A s.heap H locs → lv_has ls 5 [] → W p l e R s m args below meth c H locs 0 0 Q (F0 m 38 ls []) := by
    intro r1_1 eq1 H locs ls hP hD hS hl
    subst eq1
    try dsimp only at hf
    refine lv_iconst (v := (-1)) hx hb dX9_fewestTwins_38 (by decide) ?_
    obtain rfl := Option.some.inj hf
    exact mretI hx hb hr hlocks hK hP hD hS rfl hQ dX9_fewestTwins_39
  clear hf
  have L1 : ∀ n1, ∀ v2 : Int32 × Int32, lp n1 (f9_fewestTwins_L1 s_t x2) v2 = some q1 → ∀ (H : Heap) (locs : List Loc) (ls : Array Slot), va_P D vwCl (List.flatten [w9 cs o_t a_t s_t]) H → va_D A (List.flatten [w9 cs o_t a_t s_t]) → va_S A s.heap H locs → lv_has ls 5 [(0, .ref o_t), (2, .int x2), (3, .int v2.1), (4, .int v2.2)] → W p l e R s m args below meth c H locs 0 0 Q (F0 m 7 ls []) := by
    intro n1
    induction n1 with
    | zero => intro v2 hn; cases hn
    | succ n1 ih1 =>
      intro v2 hn1 H locs ls hP hD hS hl
      obtain ⟨y1, hf, hn1⟩ := lp_succ hn1
      unfold f9_fewestTwins_L1 at hf
      refine lv_iload hx hb dX9_fewestTwins_7 (lv_at hl 3 rfl) ?_
      refine lv_bipush (v := 8) hx hb dX9_fewestTwins_9 (by decide) ?_
      refine lv_icmp_ge (tgt := 38) hx hb dX9_fewestTwins_11 (by decide) (fun hc => ?_) (fun hc => ?_)
      · have hf := ifp hc hf
        cases hf
        exact Jq1_1 _ (Option.some.inj hn1).symm _ _ _ hP hD hS (lv_sub hl [] rfl)
      · have hf := ifn hc hf
        refine lv_iload_n hx hb dX9_fewestTwins_14 rfl (lv_at hl 2 rfl) ?_
        refine lv_iload_n hx hb dX9_fewestTwins_15 rfl (lv_at hl 1 rfl) ?_
        refine lv_ishr hx hb dX9_fewestTwins_16 ?_
        refine lv_iconst (v := 1) hx hb dX9_fewestTwins_17 (by decide) ?_
        refine lv_iand hx hb dX9_fewestTwins_18 ?_
        refine lv_iconst (v := 1) hx hb dX9_fewestTwins_19 (by decide) ?_
        refine lv_icmp_ne (tgt := 26) hx hb dX9_fewestTwins_20 (by decide) (fun hc => ?_) (fun hc => ?_)
        · have hf := ifn hc hf
          refine lv_aload_n hx hb dX9_fewestTwins_26 rfl (lv_at hl 0 rfl) ?_
          refine lv_iload_n hx hb dX9_fewestTwins_27 rfl (lv_at hl 2 rfl) ?_
          obtain ⟨q3, eq3, hf⟩ := bnd hf
          refine mcVi (v := q3) (rest := []) (Bn := [w9 cs o_t a_t s_t]) (isR := []) (isC := [0]) (i0 := 0) ⟨hx, hb, hml, hown, hts⟩ hK hP hD hS hA hG (c9_oneTwinFurther l D cs o_t a_t s_t H.size v2.1 _ eq3) (cwV 1 hts (gV wd902 wd903 wd904 wd107 wd905) rfl rfl rfl (by decide +kernel) ⟨by rw [hR]; exact Nat.le_of_ble_eq_true rfl, by rw [hR]; exact Nat.le_of_ble_eq_true rfl⟩) 1 (by decide) rfl rfl rfl rfl rfl rfl rfl e9 rfl rfl rfl hl.1 rfl (Nat.le_of_ble_eq_true rfl) ⟨Nat.zero_le _, Nat.zero_le _⟩ dX9_fewestTwins_28 (fun H locs hP hD hS => ?_)
          refine lv_istore_n (lv' := [(3, .int q3), (0, .ref o_t), (2, .int x2), (4, .int v2.2)]) hx hb dX9_fewestTwins_31 rfl hl (by decide) rfl (fun ls hl => ?_)
          refine lv_iinc (v := (v2.2 + 1)) (lv' := [(4, .int (v2.2 + 1)), (3, .int q3), (0, .ref o_t), (2, .int x2)]) hx hb dX9_fewestTwins_32 hl (k := 3) rfl rfl (by decide) rfl (fun ls hl => ?_)
          refine lv_goto (tgt := 7) hx hb dX9_fewestTwins_35 (by decide) ?_
          cases hf
          exact ih1 _ hn1 _ _ _ hP hD hS (lv_sub hl [2, 3, 1, 0] rfl)
        · have hf := ifp hc hf
          cases hf
          exact Jq1_0 _ (Option.some.inj hn1).symm _ _ _ hP hD hS (lv_sub hl [3] rfl)
  exact L1 _ _ hq1 _ _ _ hP hD hS (lv_sub hl [2, 4, 1, 0] rfl)
/-! TwinLamps$Town.groupOf -/
noncomputable def f9_groupOf_L1 (s_t : St) (v2 : Int32 × Int32) : Option ((Int32 × Int32) ⊕ (Int32)) :=
  if (8 : Int32) ≤ v2.2 then some (.inr v2.1) else (f9_oneTwinFurther s_t v2.1).bind fun q3 =>
  some (.inl (q3, (v2.2 + 1)))
noncomputable def f9_groupOf (s_t : St) (x1 : Int32) : Option (Int32) :=
  (lpw (f9_groupOf_L1 s_t) (((1 : Int32) <<< (x1 &&& 31)), 0)).bind fun q1 =>
  some q1
set_option maxHeartbeats 4000000 in
set_option maxRecDepth 100000 in
theorem c9_groupOf (l : Launch) (D : va_G) (cs : xE) (o_t : Nat) (a_t : Nat → Nat) (s_t : St) (sz : Nat) (x1 : Int32) (res : Int32) (hf : f9_groupOf s_t x1 = some res) : Met l yX9_groupOf (Cond.code yX9_groupOf cX9_groupOf 4 (some .int) :: WG) { frames := 2, cells := 0, slots := 0, locals := 47 } (va_Pc [.ref o_t, .int x1] (mP D cs (List.flatten [w9 cs o_t a_t s_t]) sz)) (qI D cs res (List.flatten [w9 cs o_t a_t s_t]) (va_A (List.flatten [w9 cs o_t a_t s_t]) sz)) 0 0 (va_A (List.flatten [w9 cs o_t a_t s_t]) sz) := by
  refine mgo (Qc := qI D cs res (List.flatten [w9 cs o_t a_t s_t])) (cc := cX9_groupOf) (maxL := 4) (ret := (some .int)) (by decide) rfl (Nat.le_of_ble_eq_true rfl) ?_
  intro p e s m below meth c ls A R Q args H hR hQ hx hb hml hr hlocks hown hts hP hK hD hA hS hG hl
  have hown : s.vm.findClass RX9 = some m.cls := hown
  have hl : lv_has ls 4 [(0, .ref o_t), (1, .int x1)] := hl
  have hW : ∀ w ∈ WG, w.before args s = true := fun w h => hts w (List.mem_cons_of_mem _ h)
  unfold f9_groupOf at hf
  refine lv_iconst (v := 1) hx hb dX9_groupOf_0 (by decide) ?_
  refine lv_iload_n hx hb dX9_groupOf_1 rfl (lv_at hl 1 rfl) ?_
  refine lv_ishl hx hb dX9_groupOf_2 ?_
  refine lv_istore_n (lv' := [(2, .int ((1 : Int32) <<< (x1 &&& 31))), (0, .ref o_t), (1, .int x1)]) hx hb dX9_groupOf_3 rfl hl (by decide) rfl (fun ls hl => ?_)
  refine lv_iconst (v := 0) hx hb dX9_groupOf_4 (by decide) ?_
  refine lv_istore_n (lv' := [(3, .int 0), (2, .int ((1 : Int32) <<< (x1 &&& 31))), (0, .ref o_t), (1, .int x1)]) hx hb dX9_groupOf_5 rfl hl (by decide) rfl (fun ls hl => ?_)
  obtain ⟨q1, hq1, hf⟩ := bnd hf
  obtain ⟨n1, hq1⟩ := lpw_ex hq1
  have Jq1_0 : ∀ rr1_0 : Int32, q1 = rr1_0 → ∀ (H : Heap) (locs : List Loc) (ls : Array Slot), va_P D vwCl (List.flatten [w9 cs o_t a_t s_t]) H → va_D A (List.flatten [w9 cs o_t a_t s_t]) → va_S A s.heap H locs → lv_has ls 4 [(2, .int rr1_0)] → W p l e R s m args below meth c H locs 0 0 Q (F0 m 24 ls []) := by
    intro rr1_0 eq1 H locs ls hP hD hS hl
    subst eq1
    refine lv_iload_n hx hb dX9_groupOf_24 rfl (lv_at hl 0 rfl) ?_
    obtain rfl := Option.some.inj hf
    exact mretI hx hb hr hlocks hK hP hD hS rfl hQ dX9_groupOf_25
  clear hf
  have L1 : ∀ n1, ∀ v2 : Int32 × Int32, lp n1 (f9_groupOf_L1 s_t) v2 = some q1 → ∀ (H : Heap) (locs : List Loc) (ls : Array Slot), va_P D vwCl (List.flatten [w9 cs o_t a_t s_t]) H → va_D A (List.flatten [w9 cs o_t a_t s_t]) → va_S A s.heap H locs → lv_has ls 4 [(0, .ref o_t), (2, .int v2.1), (3, .int v2.2)] → W p l e R s m args below meth c H locs 0 0 Q (F0 m 6 ls []) := by
    intro n1
    induction n1 with
    | zero => intro v2 hn; cases hn
    | succ n1 ih1 =>
      intro v2 hn1 H locs ls hP hD hS hl
      obtain ⟨y1, hf, hn1⟩ := lp_succ hn1
      unfold f9_groupOf_L1 at hf
      refine lv_iload_n hx hb dX9_groupOf_6 rfl (lv_at hl 2 rfl) ?_
      refine lv_bipush (v := 8) hx hb dX9_groupOf_7 (by decide) ?_
      refine lv_icmp_ge (tgt := 24) hx hb dX9_groupOf_9 (by decide) (fun hc => ?_) (fun hc => ?_)
      · have hf := ifp hc hf
        cases hf
        exact Jq1_0 _ (Option.some.inj hn1).symm _ _ _ hP hD hS (lv_sub hl [1] rfl)
      · have hf := ifn hc hf
        refine lv_aload_n hx hb dX9_groupOf_12 rfl (lv_at hl 0 rfl) ?_
        refine lv_iload_n hx hb dX9_groupOf_13 rfl (lv_at hl 1 rfl) ?_
        obtain ⟨q3, eq3, hf⟩ := bnd hf
        refine mcVi (v := q3) (rest := []) (Bn := [w9 cs o_t a_t s_t]) (isR := []) (isC := [0]) (i0 := 0) ⟨hx, hb, hml, hown, hts⟩ hK hP hD hS hA hG (c9_oneTwinFurther l D cs o_t a_t s_t H.size v2.1 _ eq3) (cwV 1 hts (gV wd902 wd903 wd904 wd107 wd905) rfl rfl rfl (by decide +kernel) ⟨by rw [hR]; exact Nat.le_of_ble_eq_true rfl, by rw [hR]; exact Nat.le_of_ble_eq_true rfl⟩) 1 (by decide) rfl rfl rfl rfl rfl rfl rfl e9 rfl rfl rfl hl.1 rfl (Nat.le_of_ble_eq_true rfl) ⟨Nat.zero_le _, Nat.zero_le _⟩ dX9_groupOf_14 (fun H locs hP hD hS => ?_)
        refine lv_istore_n (lv' := [(2, .int q3), (0, .ref o_t), (3, .int v2.2)]) hx hb dX9_groupOf_17 rfl hl (by decide) rfl (fun ls hl => ?_)
        refine lv_iinc (v := (v2.2 + 1)) (lv' := [(3, .int (v2.2 + 1)), (2, .int q3), (0, .ref o_t)]) hx hb dX9_groupOf_18 hl (k := 2) rfl rfl (by decide) rfl (fun ls hl => ?_)
        refine lv_goto (tgt := 6) hx hb dX9_groupOf_21 (by decide) ?_
        cases hf
        exact ih1 _ hn1 _ _ _ hP hD hS (lv_sub hl [2, 1, 0] rfl)
  exact L1 _ _ hq1 _ _ _ hP hD hS (lv_sub hl [2, 1, 0] rfl)
/-! TwinLamps$Town.groups -/
noncomputable def f9_groups_L1 (s_t : St) (v2 : Int32 × Int32 × Int32) : Option ((Int32 × Int32 × Int32) ⊕ (Int32)) :=
  if (s_t.1 0) ≤ v2.2.2 then some (.inr v2.1) else ((if ((v2.2.1 >>> (v2.2.2 &&& 31)) &&& 1) = 0 then ((f9_groupOf s_t v2.2.2).bind fun q4 =>
  some ((v2.1 + 1), (v2.2.1 ||| q4)))
  else some (v2.1, v2.2.1) : Option (Int32 × Int32))).bind fun q3 =>
  some (.inl (q3.1, q3.2, (v2.2.2 + 1)))
noncomputable def f9_groups (s_t : St) : Option (Int32) :=
  (lpw (f9_groups_L1 s_t) (0, 0, 0)).bind fun q1 =>
  some q1
set_option maxHeartbeats 4000000 in
set_option maxRecDepth 100000 in
theorem c9_groups (l : Launch) (D : va_G) (cs : xE) (o_t : Nat) (a_t : Nat → Nat) (s_t : St) (sz : Nat) (res : Int32) (hf : f9_groups s_t = some res) : Met l yX9_groups (Cond.code yX9_groups cX9_groups 4 (some .int) :: WG) { frames := 3, cells := 0, slots := 0, locals := 70 } (va_Pc [.ref o_t] (mP D cs (List.flatten [w9 cs o_t a_t s_t]) sz)) (qI D cs res (List.flatten [w9 cs o_t a_t s_t]) (va_A (List.flatten [w9 cs o_t a_t s_t]) sz)) 0 0 (va_A (List.flatten [w9 cs o_t a_t s_t]) sz) := by
  refine mgo (Qc := qI D cs res (List.flatten [w9 cs o_t a_t s_t])) (cc := cX9_groups) (maxL := 4) (ret := (some .int)) (by decide) rfl (Nat.le_of_ble_eq_true rfl) ?_
  intro p e s m below meth c ls A R Q args H hR hQ hx hb hml hr hlocks hown hts hP hK hD hA hS hG hl
  have hown : s.vm.findClass RX9 = some m.cls := hown
  have hl : lv_has ls 4 [(0, .ref o_t)] := hl
  have hW : ∀ w ∈ WG, w.before args s = true := fun w h => hts w (List.mem_cons_of_mem _ h)
  have htX9 : ∀ w ∈ u_ws RX9 TX9 11, w.before args s = true := fun w h => hW w (inW_X9 w h)
  unfold f9_groups at hf
  refine lv_iconst (v := 0) hx hb dX9_groups_0 (by decide) ?_
  refine lv_istore_n (lv' := [(1, .int 0), (0, .ref o_t)]) hx hb dX9_groups_1 rfl hl (by decide) rfl (fun ls hl => ?_)
  refine lv_iconst (v := 0) hx hb dX9_groups_2 (by decide) ?_
  refine lv_istore_n (lv' := [(2, .int 0), (1, .int 0), (0, .ref o_t)]) hx hb dX9_groups_3 rfl hl (by decide) rfl (fun ls hl => ?_)
  refine lv_iconst (v := 0) hx hb dX9_groups_4 (by decide) ?_
  refine lv_istore_n (lv' := [(3, .int 0), (2, .int 0), (1, .int 0), (0, .ref o_t)]) hx hb dX9_groups_5 rfl hl (by decide) rfl (fun ls hl => ?_)
  obtain ⟨q1, hq1, hf⟩ := bnd hf
  obtain ⟨n1, hq1⟩ := lpw_ex hq1
  have Jq1_0 : ∀ rr1_0 : Int32, q1 = rr1_0 → ∀ (H : Heap) (locs : List Loc) (ls : Array Slot), va_P D vwCl (List.flatten [w9 cs o_t a_t s_t]) H → va_D A (List.flatten [w9 cs o_t a_t s_t]) → va_S A s.heap H locs → lv_has ls 4 [(1, .int rr1_0)] → W p l e R s m args below meth c H locs 0 0 Q (F0 m 39 ls []) := by
    intro rr1_0 eq1 H locs ls hP hD hS hl
    subst eq1
    refine lv_iload_n hx hb dX9_groups_39 rfl (lv_at hl 0 rfl) ?_
    obtain rfl := Option.some.inj hf
    exact mretI hx hb hr hlocks hK hP hD hS rfl hQ dX9_groups_40
  clear hf
  have L1 : ∀ n1, ∀ v2 : Int32 × Int32 × Int32, lp n1 (f9_groups_L1 s_t) v2 = some q1 → ∀ (H : Heap) (locs : List Loc) (ls : Array Slot), va_P D vwCl (List.flatten [w9 cs o_t a_t s_t]) H → va_D A (List.flatten [w9 cs o_t a_t s_t]) → va_S A s.heap H locs → lv_has ls 4 [(0, .ref o_t), (1, .int v2.1), (2, .int v2.2.1), (3, .int v2.2.2)] → W p l e R s m args below meth c H locs 0 0 Q (F0 m 6 ls []) := by
    intro n1
    induction n1 with
    | zero => intro v2 hn; cases hn
    | succ n1 ih1 =>
      intro v2 hn1 H locs ls hP hD hS hl
      obtain ⟨y1, hf, hn1⟩ := lp_succ hn1
      unfold f9_groups_L1 at hf
      refine lv_iload_n hx hb dX9_groups_6 rfl (lv_at hl 3 rfl) ?_
      refine lv_aload_n hx hb dX9_groups_7 rfl (lv_at hl 0 rfl) ?_
      refine gfB (i0 := 0) (own := RX9) (T := TX9) (k := 0) (v := .int (s_t.1 0)) hx hb htX9 hown hK hP rfl e9 rfl (by decide) (hW _ wd149) rfl dX9_groups_8 ?_
      refine lv_icmp_ge (tgt := 39) hx hb dX9_groups_11 (by decide) (fun hc => ?_) (fun hc => ?_)
      · have hf := ifp hc hf
        cases hf
        exact Jq1_0 _ (Option.some.inj hn1).symm _ _ _ hP hD hS (lv_sub hl [1] rfl)
      · have hf := ifn hc hf
        refine lv_iload_n hx hb dX9_groups_14 rfl (lv_at hl 2 rfl) ?_
        refine lv_iload_n hx hb dX9_groups_15 rfl (lv_at hl 3 rfl) ?_
        refine lv_ishr hx hb dX9_groups_16 ?_
        refine lv_iconst (v := 1) hx hb dX9_groups_17 (by decide) ?_
        refine lv_iand hx hb dX9_groups_18 ?_
        obtain ⟨q3, hq3, hf⟩ := bnd hf
        have Jq3 : ∀ r3 : Int32 × Int32, q3 = r3 → ∀ (H : Heap) (locs : List Loc) (ls : Array Slot), va_P D vwCl (List.flatten [w9 cs o_t a_t s_t]) H → va_D A (List.flatten [w9 cs o_t a_t s_t]) → va_S A s.heap H locs → lv_has ls 4 [(0, .ref o_t), (1, .int r3.1), (2, .int r3.2), (3, .int v2.2.2)] → W p l e R s m args below meth c H locs 0 0 Q (F0 m 33 ls []) := by
          intro r3 eq3 H locs ls hP hD hS hl
          subst eq3
          refine lv_iinc (v := (v2.2.2 + 1)) (lv' := [(3, .int (v2.2.2 + 1)), (0, .ref o_t), (1, .int q3.1), (2, .int q3.2)]) hx hb dX9_groups_33 hl (k := 3) rfl rfl (by decide) rfl (fun ls hl => ?_)
          refine lv_goto (tgt := 6) hx hb dX9_groups_36 (by decide) ?_
          cases hf
          exact ih1 _ hn1 _ _ _ hP hD hS (lv_sub hl [1, 2, 3, 0] rfl)
        clear hf
        have hf := hq3
        refine lv_if_ne (tgt := 33) hx hb dX9_groups_19 (by decide) (fun hc => ?_) (fun hc => ?_)
        · have hf := ifn hc hf
          exact Jq3 _ (Option.some.inj hf).symm _ _ _ hP hD hS (lv_sub hl [0, 1, 2, 3] rfl)
        · have hf := ifp hc hf
          refine lv_iinc (v := (v2.1 + 1)) (lv' := [(1, .int (v2.1 + 1)), (0, .ref o_t), (2, .int v2.2.1), (3, .int v2.2.2)]) hx hb dX9_groups_22 hl (k := 1) rfl rfl (by decide) rfl (fun ls hl => ?_)
          refine lv_iload_n hx hb dX9_groups_25 rfl (lv_at hl 2 rfl) ?_
          refine lv_aload_n hx hb dX9_groups_26 rfl (lv_at hl 1 rfl) ?_
          refine lv_iload_n hx hb dX9_groups_27 rfl (lv_at hl 3 rfl) ?_
          obtain ⟨q4, eq4, hf⟩ := bnd hf
          refine mcVi (v := q4) (rest := [.int v2.2.1]) (Bn := [w9 cs o_t a_t s_t]) (isR := []) (isC := [0]) (i0 := 0) ⟨hx, hb, hml, hown, hts⟩ hK hP hD hS hA hG (c9_groupOf l D cs o_t a_t s_t H.size v2.2.2 _ eq4) (cwV 1 hts (gV wd898 wd900 wd24 wd107 wd901) rfl rfl rfl (by decide +kernel) ⟨by rw [hR]; exact Nat.le_of_ble_eq_true rfl, by rw [hR]; exact Nat.le_of_ble_eq_true rfl⟩) 1 (by decide) rfl rfl rfl rfl rfl rfl rfl e9 rfl rfl rfl hl.1 rfl (Nat.le_of_ble_eq_true rfl) ⟨Nat.zero_le _, Nat.zero_le _⟩ dX9_groups_28 (fun H locs hP hD hS => ?_)
          refine lv_ior hx hb dX9_groups_31 ?_
          refine lv_istore_n (lv' := [(2, .int (v2.2.1 ||| q4)), (1, .int (v2.1 + 1)), (0, .ref o_t), (3, .int v2.2.2)]) hx hb dX9_groups_32 rfl hl (by decide) rfl (fun ls hl => ?_)
          exact Jq3 _ (Option.some.inj hf).symm _ _ _ hP hD hS (lv_sub hl [2, 1, 0, 3] rfl)
  exact L1 _ _ hq1 _ _ _ hP hD hS (lv_sub hl [3, 2, 1, 0] rfl)
/-! TwinLamps$Town.canChangeTwins -/
noncomputable def f9_canChangeTwins (s_t : St) (x1 : Int32) (x2 : Int32) : Option (Bool) :=
  if x2 = x1 then some false else (ldO 12 (s_t.2 10) x1).bind fun q1 =>
  if x2 = q1 then some false else (ldO 12 (s_t.2 10) x1).bind fun q2 =>
  if q2 = (-1) then some false else (ldO 12 (s_t.2 10) x2).bind fun q3 =>
  if q3 = (-1) then some false else some true
set_option maxHeartbeats 4000000 in
set_option maxRecDepth 100000 in
theorem c9_canChangeTwins (l : Launch) (D : va_G) (cs : xE) (o_t : Nat) (a_t : Nat → Nat) (s_t : St) (sz : Nat) (x1 : Int32) (x2 : Int32) (res : Bool) (hf : f9_canChangeTwins s_t x1 x2 = some res) : Met l yX9_canChangeTwins (Cond.code yX9_canChangeTwins cX9_canChangeTwins 3 (some .boolean) :: WG) { frames := 0, cells := 0, slots := 0, locals := 0 } (va_Pc [.ref o_t, .int x1, .int x2] (mP D cs (List.flatten [w9 cs o_t a_t s_t]) sz)) (qI D cs (zB res) (List.flatten [w9 cs o_t a_t s_t]) (va_A (List.flatten [w9 cs o_t a_t s_t]) sz)) 0 0 (va_A (List.flatten [w9 cs o_t a_t s_t]) sz) := by
  refine mgo (Qc := qI D cs (zB res) (List.flatten [w9 cs o_t a_t s_t])) (cc := cX9_canChangeTwins) (maxL := 3) (ret := (some .boolean)) (by decide) rfl (Nat.le_of_ble_eq_true rfl) ?_
  intro p e s m below meth c ls A R Q args H hR hQ hx hb hml hr hlocks hown hts hP hK hD hA hS hG hl
  have hown : s.vm.findClass RX9 = some m.cls := hown
  have hl : lv_has ls 3 [(0, .ref o_t), (1, .int x1), (2, .int x2)] := hl
  have hW : ∀ w ∈ WG, w.before args s = true := fun w h => hts w (List.mem_cons_of_mem _ h)
  have htX9 : ∀ w ∈ u_ws RX9 TX9 11, w.before args s = true := fun w h => hW w (inW_X9 w h)
  unfold f9_canChangeTwins at hf
  refine lv_iload_n hx hb dX9_canChangeTwins_0 rfl (lv_at hl 2 rfl) ?_
  refine lv_iload_n hx hb dX9_canChangeTwins_1 rfl (lv_at hl 1 rfl) ?_
  refine lv_icmp_eq (tgt := 39) hx hb dX9_canChangeTwins_2 (by decide) (fun hc => ?_) (fun hc => ?_)
  · have hf := ifp hc hf
    refine lv_iconst (v := 0) hx hb dX9_canChangeTwins_39 (by decide) ?_
    obtain rfl := Option.some.inj hf
    exact mretZ hx hb hr hlocks hK hP hD hS rfl hQ dX9_canChangeTwins_40
  · have hf := ifn hc hf
    refine lv_iload_n hx hb dX9_canChangeTwins_5 rfl (lv_at hl 2 rfl) ?_
    refine lv_aload_n hx hb dX9_canChangeTwins_6 rfl (lv_at hl 0 rfl) ?_
    refine gfB (i0 := 0) (own := RX9) (T := TX9) (k := 10) (v := .ref (a_t 10)) hx hb htX9 hown hK hP rfl e9 rfl (by decide) (hW _ wd180) rfl dX9_canChangeTwins_7 ?_
    refine lv_iload_n hx hb dX9_canChangeTwins_10 rfl (lv_at hl 1 rfl) ?_
    obtain ⟨q1, eq1, hf⟩ := bnd hf
    obtain ⟨gq1, eq1⟩ := ldO_e eq1
    refine aldB (i0 := 0) hx hb hK hP rfl a9_10 gq1 dX9_canChangeTwins_11 ?_
    refine lv_nm eq1 ?_
    refine lv_icmp_eq (tgt := 39) hx hb dX9_canChangeTwins_12 (by decide) (fun hc => ?_) (fun hc => ?_)
    · have hf := ifp hc hf
      refine lv_iconst (v := 0) hx hb dX9_canChangeTwins_39 (by decide) ?_
      obtain rfl := Option.some.inj hf
      exact mretZ hx hb hr hlocks hK hP hD hS rfl hQ dX9_canChangeTwins_40
    · have hf := ifn hc hf
      refine lv_aload_n hx hb dX9_canChangeTwins_15 rfl (lv_at hl 0 rfl) ?_
      refine gfB (i0 := 0) (own := RX9) (T := TX9) (k := 10) (v := .ref (a_t 10)) hx hb htX9 hown hK hP rfl e9 rfl (by decide) (hW _ wd180) rfl dX9_canChangeTwins_16 ?_
      refine lv_iload_n hx hb dX9_canChangeTwins_19 rfl (lv_at hl 1 rfl) ?_
      obtain ⟨q2, eq2, hf⟩ := bnd hf
      obtain ⟨gq2, eq2⟩ := ldO_e eq2
      refine aldB (i0 := 0) hx hb hK hP rfl a9_10 gq2 dX9_canChangeTwins_20 ?_
      refine lv_nm eq2 ?_
      refine lv_iconst (v := (-1)) hx hb dX9_canChangeTwins_21 (by decide) ?_
      refine lv_icmp_eq (tgt := 39) hx hb dX9_canChangeTwins_22 (by decide) (fun hc => ?_) (fun hc => ?_)
      · have hf := ifp hc hf
        refine lv_iconst (v := 0) hx hb dX9_canChangeTwins_39 (by decide) ?_
        obtain rfl := Option.some.inj hf
        exact mretZ hx hb hr hlocks hK hP hD hS rfl hQ dX9_canChangeTwins_40
      · have hf := ifn hc hf
        refine lv_aload_n hx hb dX9_canChangeTwins_25 rfl (lv_at hl 0 rfl) ?_
        refine gfB (i0 := 0) (own := RX9) (T := TX9) (k := 10) (v := .ref (a_t 10)) hx hb htX9 hown hK hP rfl e9 rfl (by decide) (hW _ wd180) rfl dX9_canChangeTwins_26 ?_
        refine lv_iload_n hx hb dX9_canChangeTwins_29 rfl (lv_at hl 2 rfl) ?_
        obtain ⟨q3, eq3, hf⟩ := bnd hf
        obtain ⟨gq3, eq3⟩ := ldO_e eq3
        refine aldB (i0 := 0) hx hb hK hP rfl a9_10 gq3 dX9_canChangeTwins_30 ?_
        refine lv_nm eq3 ?_
        refine lv_iconst (v := (-1)) hx hb dX9_canChangeTwins_31 (by decide) ?_
        refine lv_icmp_eq (tgt := 39) hx hb dX9_canChangeTwins_32 (by decide) (fun hc => ?_) (fun hc => ?_)
        · have hf := ifp hc hf
          refine lv_iconst (v := 0) hx hb dX9_canChangeTwins_39 (by decide) ?_
          obtain rfl := Option.some.inj hf
          exact mretZ hx hb hr hlocks hK hP hD hS rfl hQ dX9_canChangeTwins_40
        · have hf := ifn hc hf
          refine lv_iconst (v := 1) hx hb dX9_canChangeTwins_35 (by decide) ?_
          refine lv_goto (tgt := 40) hx hb dX9_canChangeTwins_36 (by decide) ?_
          obtain rfl := Option.some.inj hf
          exact mretZ hx hb hr hlocks hK hP hD hS rfl hQ dX9_canChangeTwins_40
/-! TwinLamps$Town.changeTwins -/
noncomputable def f9_changeTwins (s_t : St) (x1 : Int32) (x2 : Int32) : Option (St) :=
  (ldO 12 (s_t.2 10) x1).bind fun q1 =>
  (ldO 12 (s_t.2 10) x2).bind fun q2 =>
  if q1 < 0 then some s_t else if (s_t.1 1) ≤ q1 then some s_t else if q2 < 0 then some s_t else if q2 < (s_t.1 1) then ((stS 12 s_t 10 x1 q2).bind fun s3 =>
  (stS 12 s3 10 q2 x1).bind fun s4 =>
  (stS 12 s4 10 x2 q1).bind fun s5 =>
  (stS 12 s5 10 q1 x2).bind fun s6 =>
  some s6)
  else some s_t
set_option maxHeartbeats 4000000 in
set_option maxRecDepth 100000 in
theorem c9_changeTwins (l : Launch) (D : va_G) (cs : xE) (o_t : Nat) (a_t : Nat → Nat) (s_t : St) (sz : Nat) (x1 : Int32) (x2 : Int32) (res : St) (hf : f9_changeTwins s_t x1 x2 = some res) : Met l yX9_changeTwins (Cond.code yX9_changeTwins cX9_changeTwins 5 none :: WG) { frames := 0, cells := 0, slots := 0, locals := 0 } (va_Pc [.ref o_t, .int x1, .int x2] (mP D cs (List.flatten [w9 cs o_t a_t s_t]) sz)) (qV D cs (List.flatten [w9 cs o_t a_t res]) (va_A (List.flatten [w9 cs o_t a_t s_t]) sz)) 0 0 (va_A (List.flatten [w9 cs o_t a_t s_t]) sz) := by
  refine mgo (Qc := qV D cs (List.flatten [w9 cs o_t a_t res])) (cc := cX9_changeTwins) (maxL := 5) (ret := none) (by decide) rfl (Nat.le_of_ble_eq_true rfl) ?_
  intro p e s m below meth c ls A R Q args H hR hQ hx hb hml hr hlocks hown hts hP hK hD hA hS hG hl
  have hown : s.vm.findClass RX9 = some m.cls := hown
  have hl : lv_has ls 5 [(0, .ref o_t), (1, .int x1), (2, .int x2)] := hl
  have hW : ∀ w ∈ WG, w.before args s = true := fun w h => hts w (List.mem_cons_of_mem _ h)
  have htX9 : ∀ w ∈ u_ws RX9 TX9 11, w.before args s = true := fun w h => hW w (inW_X9 w h)
  unfold f9_changeTwins at hf
  refine lv_aload_n hx hb dX9_changeTwins_0 rfl (lv_at hl 0 rfl) ?_
  refine gfB (i0 := 0) (own := RX9) (T := TX9) (k := 10) (v := .ref (a_t 10)) hx hb htX9 hown hK hP rfl e9 rfl (by decide) (hW _ wd180) rfl dX9_changeTwins_1 ?_
  refine lv_iload_n hx hb dX9_changeTwins_4 rfl (lv_at hl 1 rfl) ?_
  obtain ⟨q1, eq1, hf⟩ := bnd hf
  obtain ⟨gq1, eq1⟩ := ldO_e eq1
  refine aldB (i0 := 0) hx hb hK hP rfl a9_10 gq1 dX9_changeTwins_5 ?_
  refine lv_nm eq1 ?_
  refine lv_istore_n (lv' := [(3, .int q1), (0, .ref o_t), (1, .int x1), (2, .int x2)]) hx hb dX9_changeTwins_6 rfl hl (by decide) rfl (fun ls hl => ?_)
  refine lv_aload_n hx hb dX9_changeTwins_7 rfl (lv_at hl 1 rfl) ?_
  refine gfB (i0 := 0) (own := RX9) (T := TX9) (k := 10) (v := .ref (a_t 10)) hx hb htX9 hown hK hP rfl e9 rfl (by decide) (hW _ wd180) rfl dX9_changeTwins_8 ?_
  refine lv_iload_n hx hb dX9_changeTwins_11 rfl (lv_at hl 3 rfl) ?_
  obtain ⟨q2, eq2, hf⟩ := bnd hf
  obtain ⟨gq2, eq2⟩ := ldO_e eq2
  refine aldB (i0 := 0) hx hb hK hP rfl a9_10 gq2 dX9_changeTwins_12 ?_
  refine lv_nm eq2 ?_
  refine lv_istore (lv' := [(4, .int q2), (3, .int q1), (0, .ref o_t), (1, .int x1), (2, .int x2)]) hx hb dX9_changeTwins_13 hl (by decide) rfl (fun ls hl => ?_)
  refine lv_iload_n hx hb dX9_changeTwins_15 rfl (lv_at hl 1 rfl) ?_
  refine lv_if_lt (tgt := 41) hx hb dX9_changeTwins_16 (by decide) (fun hc => ?_) (fun hc => ?_)
  · have hf := ifp hc hf
    obtain rfl := Option.some.inj hf
    exact mretV hx hb hr hlocks hK hP hD hS hQ dX9_changeTwins_41
  · have hf := ifn hc hf
    refine lv_iload_n hx hb dX9_changeTwins_19 rfl (lv_at hl 1 rfl) ?_
    refine lv_aload_n hx hb dX9_changeTwins_20 rfl (lv_at hl 2 rfl) ?_
    refine gfB (i0 := 0) (own := RX9) (T := TX9) (k := 1) (v := .int (s_t.1 1)) hx hb htX9 hown hK hP rfl e9 rfl (by decide) (hW _ wd152) rfl dX9_changeTwins_21 ?_
    refine lv_icmp_ge (tgt := 41) hx hb dX9_changeTwins_24 (by decide) (fun hc => ?_) (fun hc => ?_)
    · have hf := ifp hc hf
      obtain rfl := Option.some.inj hf
      exact mretV hx hb hr hlocks hK hP hD hS hQ dX9_changeTwins_41
    · have hf := ifn hc hf
      refine lv_iload hx hb dX9_changeTwins_27 (lv_at hl 0 rfl) ?_
      refine lv_if_lt (tgt := 41) hx hb dX9_changeTwins_29 (by decide) (fun hc => ?_) (fun hc => ?_)
      · have hf := ifp hc hf
        obtain rfl := Option.some.inj hf
        exact mretV hx hb hr hlocks hK hP hD hS hQ dX9_changeTwins_41
      · have hf := ifn hc hf
        refine lv_iload hx hb dX9_changeTwins_32 (lv_at hl 0 rfl) ?_
        refine lv_aload_n hx hb dX9_changeTwins_34 rfl (lv_at hl 2 rfl) ?_
        refine gfB (i0 := 0) (own := RX9) (T := TX9) (k := 1) (v := .int (s_t.1 1)) hx hb htX9 hown hK hP rfl e9 rfl (by decide) (hW _ wd152) rfl dX9_changeTwins_35 ?_
        refine lv_icmp_lt (tgt := 42) hx hb dX9_changeTwins_38 (by decide) (fun hc => ?_) (fun hc => ?_)
        · have hf := ifp hc hf
          refine lv_aload_n hx hb dX9_changeTwins_42 rfl (lv_at hl 2 rfl) ?_
          refine gfB (i0 := 0) (own := RX9) (T := TX9) (k := 10) (v := .ref (a_t 10)) hx hb htX9 hown hK hP rfl e9 rfl (by decide) (hW _ wd180) rfl dX9_changeTwins_43 ?_
          refine lv_iload_n hx hb dX9_changeTwins_46 rfl (lv_at hl 3 rfl) ?_
          refine lv_iload hx hb dX9_changeTwins_47 (lv_at hl 0 rfl) ?_
          obtain ⟨s3, es3, hf⟩ := bnd hf
          obtain ⟨gs3, es3⟩ := stS_e es3
          refine astB (i0 := 0) (Bn := [w9 cs o_t a_t s3]) hx hb hK hP hD hS rfl a9_10 gs3 rfl dX9_changeTwins_49 (by rw [← es3]; exact v9_10) rfl (fun H locs hP hD hS => ?_)
          refine lv_aload_n hx hb dX9_changeTwins_50 rfl (lv_at hl 2 rfl) ?_
          refine gfB (i0 := 0) (own := RX9) (T := TX9) (k := 10) (v := .ref (a_t 10)) hx hb htX9 hown hK hP rfl e9 rfl (by decide) (hW _ wd180) rfl dX9_changeTwins_51 ?_
          refine lv_iload hx hb dX9_changeTwins_54 (lv_at hl 0 rfl) ?_
          refine lv_iload_n hx hb dX9_changeTwins_56 rfl (lv_at hl 3 rfl) ?_
          obtain ⟨s4, es4, hf⟩ := bnd hf
          obtain ⟨gs4, es4⟩ := stS_e es4
          refine astB (i0 := 0) (Bn := [w9 cs o_t a_t s4]) hx hb hK hP hD hS rfl a9_10 gs4 rfl dX9_changeTwins_57 (by rw [← es4]; exact v9_10) rfl (fun H locs hP hD hS => ?_)
          refine lv_aload_n hx hb dX9_changeTwins_58 rfl (lv_at hl 2 rfl) ?_
          refine gfB (i0 := 0) (own := RX9) (T := TX9) (k := 10) (v := .ref (a_t 10)) hx hb htX9 hown hK hP rfl e9 rfl (by decide) (hW _ wd180) rfl dX9_changeTwins_59 ?_
          refine lv_iload_n hx hb dX9_changeTwins_62 rfl (lv_at hl 4 rfl) ?_
          refine lv_iload_n hx hb dX9_changeTwins_63 rfl (lv_at hl 1 rfl) ?_
          obtain ⟨s5, es5, hf⟩ := bnd hf
          obtain ⟨gs5, es5⟩ := stS_e es5
          refine astB (i0 := 0) (Bn := [w9 cs o_t a_t s5]) hx hb hK hP hD hS rfl a9_10 gs5 rfl dX9_changeTwins_64 (by rw [← es5]; exact v9_10) rfl (fun H locs hP hD hS => ?_)
          refine lv_aload_n hx hb dX9_changeTwins_65 rfl (lv_at hl 2 rfl) ?_
          refine gfB (i0 := 0) (own := RX9) (T := TX9) (k := 10) (v := .ref (a_t 10)) hx hb htX9 hown hK hP rfl e9 rfl (by decide) (hW _ wd180) rfl dX9_changeTwins_66 ?_
          refine lv_iload_n hx hb dX9_changeTwins_69 rfl (lv_at hl 1 rfl) ?_
          refine lv_iload_n hx hb dX9_changeTwins_70 rfl (lv_at hl 4 rfl) ?_
          obtain ⟨s6, es6, hf⟩ := bnd hf
          obtain ⟨gs6, es6⟩ := stS_e es6
          refine astB (i0 := 0) (Bn := [w9 cs o_t a_t s6]) hx hb hK hP hD hS rfl a9_10 gs6 rfl dX9_changeTwins_71 (by rw [← es6]; exact v9_10) rfl (fun H locs hP hD hS => ?_)
          obtain rfl := Option.some.inj hf
          exact mretV hx hb hr hlocks hK hP hD hS hQ dX9_changeTwins_72
        · have hf := ifn hc hf
          obtain rfl := Option.some.inj hf
          exact mretV hx hb hr hlocks hK hP hD hS hQ dX9_changeTwins_41
/-! TwinLamps$Town.copyFrom -/
noncomputable def f9_copyFrom (s_t : St) (s_t2 : St) : Option (St) :=
  (some (sS s_t 0 (s_t2.1 0))).bind fun s1 =>
  (some (sS s1 1 (s_t2.1 1))).bind fun s2 =>
  (some (sS s2 2 (s_t2.1 2))).bind fun s3 =>
  (some (sS s3 3 (s_t2.1 3))).bind fun s4 =>
  (some (sS s4 4 (s_t2.1 4))).bind fun s5 =>
  (some (sA s5 5 (va_cpy (s_t2.2 5) (s5.2 5) 0 0 8))).bind fun s6 =>
  (some (sA s6 6 (va_cpy (s_t2.2 6) (s6.2 6) 0 0 8))).bind fun s7 =>
  (some (sA s7 7 (va_cpy (s_t2.2 7) (s7.2 7) 0 0 8))).bind fun s8 =>
  (some (sA s8 8 (va_cpy (s_t2.2 8) (s8.2 8) 0 0 12))).bind fun s9 =>
  (some (sA s9 9 (va_cpy (s_t2.2 9) (s9.2 9) 0 0 12))).bind fun s10 =>
  (some (sA s10 10 (va_cpy (s_t2.2 10) (s10.2 10) 0 0 12))).bind fun s11 =>
  some s11
set_option maxHeartbeats 4000000 in
set_option maxRecDepth 100000 in
theorem c9_copyFrom (l : Launch) (D : va_G) (cs : xE) (o_t : Nat) (a_t : Nat → Nat) (o_t2 : Nat) (a_t2 : Nat → Nat) (s_t : St) (s_t2 : St) (sz : Nat) (res : St) (hf : f9_copyFrom s_t s_t2 = some res) : Met l yX9_copyFrom (Cond.code yX9_copyFrom cX9_copyFrom 2 none :: WG) { frames := 1, cells := 0, slots := 0, locals := 26 } (va_Pc [.ref o_t, .ref o_t2] (mP D cs (List.flatten [w9 cs o_t a_t s_t, w9 cs o_t2 a_t2 s_t2]) sz)) (qV D cs (List.flatten [w9 cs o_t a_t res, w9 cs o_t2 a_t2 s_t2]) (va_A (List.flatten [w9 cs o_t a_t s_t, w9 cs o_t2 a_t2 s_t2]) sz)) 0 0 (va_A (List.flatten [w9 cs o_t a_t s_t, w9 cs o_t2 a_t2 s_t2]) sz) := by
  refine mgo (Qc := qV D cs (List.flatten [w9 cs o_t a_t res, w9 cs o_t2 a_t2 s_t2])) (cc := cX9_copyFrom) (maxL := 2) (ret := none) (by decide) rfl (Nat.le_of_ble_eq_true rfl) ?_
  intro p e s m below meth c ls A R Q args H hR hQ hx hb hml hr hlocks hown hts hP hK hD hA hS hG hl
  have hown : s.vm.findClass RX9 = some m.cls := hown
  have hl : lv_has ls 2 [(0, .ref o_t), (1, .ref o_t2)] := hl
  have hW : ∀ w ∈ WG, w.before args s = true := fun w h => hts w (List.mem_cons_of_mem _ h)
  have htX9 : ∀ w ∈ u_ws RX9 TX9 11, w.before args s = true := fun w h => hW w (inW_X9 w h)
  unfold f9_copyFrom at hf
  refine lv_aload_n hx hb dX9_copyFrom_0 rfl (lv_at hl 0 rfl) ?_
  refine lv_aload_n hx hb dX9_copyFrom_1 rfl (lv_at hl 1 rfl) ?_
  refine gfB (i0 := 1) (own := RX9) (T := TX9) (k := 0) (v := .int (s_t2.1 0)) hx hb htX9 hown hK hP rfl e9 rfl (by decide) (hW _ wd149) rfl dX9_copyFrom_2 ?_
  obtain ⟨s1, es1, hf⟩ := bnd hf
  replace es1 := Option.some.inj es1
  refine pfB (i0 := 0) (own := RX9) (T := TX9) (k := 0) (Bn := [w9 cs o_t a_t s1, w9 cs o_t2 a_t2 s_t2]) tyX9 tyX9_ok nmX9 hx hb htX9 hown hK hP hD hS rfl e9 rfl (by decide) (hW _ wd149) rfl rfl rfl (Nat.le_of_ble_eq_true rfl) dX9_copyFrom_5 (by rw [← es1]; exact u9_0) rfl (fun H locs hP hD hS => ?_)
  refine lv_aload_n hx hb dX9_copyFrom_8 rfl (lv_at hl 0 rfl) ?_
  refine lv_aload_n hx hb dX9_copyFrom_9 rfl (lv_at hl 1 rfl) ?_
  refine gfB (i0 := 1) (own := RX9) (T := TX9) (k := 1) (v := .int (s_t2.1 1)) hx hb htX9 hown hK hP rfl e9 rfl (by decide) (hW _ wd152) rfl dX9_copyFrom_10 ?_
  obtain ⟨s2, es2, hf⟩ := bnd hf
  replace es2 := Option.some.inj es2
  refine pfB (i0 := 0) (own := RX9) (T := TX9) (k := 1) (Bn := [w9 cs o_t a_t s2, w9 cs o_t2 a_t2 s_t2]) tyX9 tyX9_ok nmX9 hx hb htX9 hown hK hP hD hS rfl e9 rfl (by decide) (hW _ wd152) rfl rfl rfl (Nat.le_of_ble_eq_true rfl) dX9_copyFrom_13 (by rw [← es2]; exact u9_1) rfl (fun H locs hP hD hS => ?_)
  refine lv_aload_n hx hb dX9_copyFrom_16 rfl (lv_at hl 0 rfl) ?_
  refine lv_aload_n hx hb dX9_copyFrom_17 rfl (lv_at hl 1 rfl) ?_
  refine gfB (i0 := 1) (own := RX9) (T := TX9) (k := 2) (v := .int (s_t2.1 2)) hx hb htX9 hown hK hP rfl e9 rfl (by decide) (hW _ wd157) rfl dX9_copyFrom_18 ?_
  obtain ⟨s3, es3, hf⟩ := bnd hf
  replace es3 := Option.some.inj es3
  refine pfB (i0 := 0) (own := RX9) (T := TX9) (k := 2) (Bn := [w9 cs o_t a_t s3, w9 cs o_t2 a_t2 s_t2]) tyX9 tyX9_ok nmX9 hx hb htX9 hown hK hP hD hS rfl e9 rfl (by decide) (hW _ wd157) rfl rfl rfl (Nat.le_of_ble_eq_true rfl) dX9_copyFrom_21 (by rw [← es3]; exact u9_2) rfl (fun H locs hP hD hS => ?_)
  refine lv_aload_n hx hb dX9_copyFrom_24 rfl (lv_at hl 0 rfl) ?_
  refine lv_aload_n hx hb dX9_copyFrom_25 rfl (lv_at hl 1 rfl) ?_
  refine gfB (i0 := 1) (own := RX9) (T := TX9) (k := 3) (v := .int (s_t2.1 3)) hx hb htX9 hown hK hP rfl e9 rfl (by decide) (hW _ wd160) rfl dX9_copyFrom_26 ?_
  obtain ⟨s4, es4, hf⟩ := bnd hf
  replace es4 := Option.some.inj es4
  refine pfB (i0 := 0) (own := RX9) (T := TX9) (k := 3) (Bn := [w9 cs o_t a_t s4, w9 cs o_t2 a_t2 s_t2]) tyX9 tyX9_ok nmX9 hx hb htX9 hown hK hP hD hS rfl e9 rfl (by decide) (hW _ wd160) rfl rfl rfl (Nat.le_of_ble_eq_true rfl) dX9_copyFrom_29 (by rw [← es4]; exact u9_3) rfl (fun H locs hP hD hS => ?_)
  refine lv_aload_n hx hb dX9_copyFrom_32 rfl (lv_at hl 0 rfl) ?_
  refine lv_aload_n hx hb dX9_copyFrom_33 rfl (lv_at hl 1 rfl) ?_
  refine gfB (i0 := 1) (own := RX9) (T := TX9) (k := 4) (v := .int (s_t2.1 4)) hx hb htX9 hown hK hP rfl e9 rfl (by decide) (hW _ wd163) rfl dX9_copyFrom_34 ?_
  obtain ⟨s5, es5, hf⟩ := bnd hf
  replace es5 := Option.some.inj es5
  refine pfB (i0 := 0) (own := RX9) (T := TX9) (k := 4) (Bn := [w9 cs o_t a_t s5, w9 cs o_t2 a_t2 s_t2]) tyX9 tyX9_ok nmX9 hx hb htX9 hown hK hP hD hS rfl e9 rfl (by decide) (hW _ wd163) rfl rfl rfl (Nat.le_of_ble_eq_true rfl) dX9_copyFrom_37 (by rw [← es5]; exact u9_4) rfl (fun H locs hP hD hS => ?_)
  refine lv_aload_n hx hb dX9_copyFrom_40 rfl (lv_at hl 1 rfl) ?_
  refine gfB (i0 := 1) (own := RX9) (T := TX9) (k := 5) (v := .ref (a_t2 5)) hx hb htX9 hown hK hP rfl e9 rfl (by decide) (hW _ wd165) rfl dX9_copyFrom_41 ?_
  refine lv_iconst (v := 0) hx hb dX9_copyFrom_44 (by decide) ?_
  refine lv_aload_n hx hb dX9_copyFrom_45 rfl (lv_at hl 0 rfl) ?_
  refine gfB (i0 := 0) (own := RX9) (T := TX9) (k := 5) (v := .ref (a_t 5)) hx hb htX9 hown hK hP rfl e9 rfl (by decide) (hW _ wd165) rfl dX9_copyFrom_46 ?_
  refine lv_iconst (v := 0) hx hb dX9_copyFrom_49 (by decide) ?_
  refine lv_bipush (v := 8) hx hb dX9_copyFrom_50 (by decide) ?_
  obtain ⟨s6, es6, hf⟩ := bnd hf
  replace es6 := Option.some.inj es6
  refine cpyB (i1 := 1) (i0 := 0) (Bn := [w9 cs o_t a_t s6, w9 cs o_t2 a_t2 s_t2]) (n := 8) (g' := va_cpy (s_t2.2 5) (s5.2 5) 0 0 8) hx hb (hml.trans hl.1.symm) (own := RX9) (index := 46) hown (hW _ wd503) (hW _ wd505) (hW _ wd504) (hW _ wd125) hK hP hD hS rfl a9_5 rfl a9_5 (by decide +kernel) (by decide +kernel) (by decide +kernel) (by rw [hR]; exact Nat.le_of_ble_eq_true rfl) (by rw [hR]; exact Nat.le_of_ble_eq_true rfl) rfl dX9_copyFrom_52 (by rw [← es6]; exact v9_5) rfl (fun H locs hP hD hS => ?_)
  refine lv_aload_n hx hb dX9_copyFrom_55 rfl (lv_at hl 1 rfl) ?_
  refine gfB (i0 := 1) (own := RX9) (T := TX9) (k := 6) (v := .ref (a_t2 6)) hx hb htX9 hown hK hP rfl e9 rfl (by decide) (hW _ wd168) rfl dX9_copyFrom_56 ?_
  refine lv_iconst (v := 0) hx hb dX9_copyFrom_59 (by decide) ?_
  refine lv_aload_n hx hb dX9_copyFrom_60 rfl (lv_at hl 0 rfl) ?_
  refine gfB (i0 := 0) (own := RX9) (T := TX9) (k := 6) (v := .ref (a_t 6)) hx hb htX9 hown hK hP rfl e9 rfl (by decide) (hW _ wd168) rfl dX9_copyFrom_61 ?_
  refine lv_iconst (v := 0) hx hb dX9_copyFrom_64 (by decide) ?_
  refine lv_bipush (v := 8) hx hb dX9_copyFrom_65 (by decide) ?_
  obtain ⟨s7, es7, hf⟩ := bnd hf
  replace es7 := Option.some.inj es7
  refine cpyB (i1 := 1) (i0 := 0) (Bn := [w9 cs o_t a_t s7, w9 cs o_t2 a_t2 s_t2]) (n := 8) (g' := va_cpy (s_t2.2 6) (s6.2 6) 0 0 8) hx hb (hml.trans hl.1.symm) (own := RX9) (index := 46) hown (hW _ wd503) (hW _ wd505) (hW _ wd504) (hW _ wd125) hK hP hD hS rfl a9_6 rfl a9_6 (by decide +kernel) (by decide +kernel) (by decide +kernel) (by rw [hR]; exact Nat.le_of_ble_eq_true rfl) (by rw [hR]; exact Nat.le_of_ble_eq_true rfl) rfl dX9_copyFrom_67 (by rw [← es7]; exact v9_6) rfl (fun H locs hP hD hS => ?_)
  refine lv_aload_n hx hb dX9_copyFrom_70 rfl (lv_at hl 1 rfl) ?_
  refine gfB (i0 := 1) (own := RX9) (T := TX9) (k := 7) (v := .ref (a_t2 7)) hx hb htX9 hown hK hP rfl e9 rfl (by decide) (hW _ wd170) rfl dX9_copyFrom_71 ?_
  refine lv_iconst (v := 0) hx hb dX9_copyFrom_74 (by decide) ?_
  refine lv_aload_n hx hb dX9_copyFrom_75 rfl (lv_at hl 0 rfl) ?_
  refine gfB (i0 := 0) (own := RX9) (T := TX9) (k := 7) (v := .ref (a_t 7)) hx hb htX9 hown hK hP rfl e9 rfl (by decide) (hW _ wd170) rfl dX9_copyFrom_76 ?_
  refine lv_iconst (v := 0) hx hb dX9_copyFrom_79 (by decide) ?_
  refine lv_bipush (v := 8) hx hb dX9_copyFrom_80 (by decide) ?_
  obtain ⟨s8, es8, hf⟩ := bnd hf
  replace es8 := Option.some.inj es8
  refine cpyB (i1 := 1) (i0 := 0) (Bn := [w9 cs o_t a_t s8, w9 cs o_t2 a_t2 s_t2]) (n := 8) (g' := va_cpy (s_t2.2 7) (s7.2 7) 0 0 8) hx hb (hml.trans hl.1.symm) (own := RX9) (index := 46) hown (hW _ wd503) (hW _ wd505) (hW _ wd504) (hW _ wd125) hK hP hD hS rfl a9_7 rfl a9_7 (by decide +kernel) (by decide +kernel) (by decide +kernel) (by rw [hR]; exact Nat.le_of_ble_eq_true rfl) (by rw [hR]; exact Nat.le_of_ble_eq_true rfl) rfl dX9_copyFrom_82 (by rw [← es8]; exact v9_7) rfl (fun H locs hP hD hS => ?_)
  refine lv_aload_n hx hb dX9_copyFrom_85 rfl (lv_at hl 1 rfl) ?_
  refine gfB (i0 := 1) (own := RX9) (T := TX9) (k := 8) (v := .ref (a_t2 8)) hx hb htX9 hown hK hP rfl e9 rfl (by decide) (hW _ wd172) rfl dX9_copyFrom_86 ?_
  refine lv_iconst (v := 0) hx hb dX9_copyFrom_89 (by decide) ?_
  refine lv_aload_n hx hb dX9_copyFrom_90 rfl (lv_at hl 0 rfl) ?_
  refine gfB (i0 := 0) (own := RX9) (T := TX9) (k := 8) (v := .ref (a_t 8)) hx hb htX9 hown hK hP rfl e9 rfl (by decide) (hW _ wd172) rfl dX9_copyFrom_91 ?_
  refine lv_iconst (v := 0) hx hb dX9_copyFrom_94 (by decide) ?_
  refine lv_bipush (v := 12) hx hb dX9_copyFrom_95 (by decide) ?_
  obtain ⟨s9, es9, hf⟩ := bnd hf
  replace es9 := Option.some.inj es9
  refine cpyB (i1 := 1) (i0 := 0) (Bn := [w9 cs o_t a_t s9, w9 cs o_t2 a_t2 s_t2]) (n := 12) (g' := va_cpy (s_t2.2 8) (s8.2 8) 0 0 12) hx hb (hml.trans hl.1.symm) (own := RX9) (index := 46) hown (hW _ wd503) (hW _ wd505) (hW _ wd504) (hW _ wd125) hK hP hD hS rfl a9_8 rfl a9_8 (by decide +kernel) (by decide +kernel) (by decide +kernel) (by rw [hR]; exact Nat.le_of_ble_eq_true rfl) (by rw [hR]; exact Nat.le_of_ble_eq_true rfl) rfl dX9_copyFrom_97 (by rw [← es9]; exact v9_8) rfl (fun H locs hP hD hS => ?_)
  refine lv_aload_n hx hb dX9_copyFrom_100 rfl (lv_at hl 1 rfl) ?_
  refine gfB (i0 := 1) (own := RX9) (T := TX9) (k := 9) (v := .ref (a_t2 9)) hx hb htX9 hown hK hP rfl e9 rfl (by decide) (hW _ wd175) rfl dX9_copyFrom_101 ?_
  refine lv_iconst (v := 0) hx hb dX9_copyFrom_104 (by decide) ?_
  refine lv_aload_n hx hb dX9_copyFrom_105 rfl (lv_at hl 0 rfl) ?_
  refine gfB (i0 := 0) (own := RX9) (T := TX9) (k := 9) (v := .ref (a_t 9)) hx hb htX9 hown hK hP rfl e9 rfl (by decide) (hW _ wd175) rfl dX9_copyFrom_106 ?_
  refine lv_iconst (v := 0) hx hb dX9_copyFrom_109 (by decide) ?_
  refine lv_bipush (v := 12) hx hb dX9_copyFrom_110 (by decide) ?_
  obtain ⟨s10, es10, hf⟩ := bnd hf
  replace es10 := Option.some.inj es10
  refine cpyB (i1 := 1) (i0 := 0) (Bn := [w9 cs o_t a_t s10, w9 cs o_t2 a_t2 s_t2]) (n := 12) (g' := va_cpy (s_t2.2 9) (s9.2 9) 0 0 12) hx hb (hml.trans hl.1.symm) (own := RX9) (index := 46) hown (hW _ wd503) (hW _ wd505) (hW _ wd504) (hW _ wd125) hK hP hD hS rfl a9_9 rfl a9_9 (by decide +kernel) (by decide +kernel) (by decide +kernel) (by rw [hR]; exact Nat.le_of_ble_eq_true rfl) (by rw [hR]; exact Nat.le_of_ble_eq_true rfl) rfl dX9_copyFrom_112 (by rw [← es10]; exact v9_9) rfl (fun H locs hP hD hS => ?_)
  refine lv_aload_n hx hb dX9_copyFrom_115 rfl (lv_at hl 1 rfl) ?_
  refine gfB (i0 := 1) (own := RX9) (T := TX9) (k := 10) (v := .ref (a_t2 10)) hx hb htX9 hown hK hP rfl e9 rfl (by decide) (hW _ wd180) rfl dX9_copyFrom_116 ?_
  refine lv_iconst (v := 0) hx hb dX9_copyFrom_119 (by decide) ?_
  refine lv_aload_n hx hb dX9_copyFrom_120 rfl (lv_at hl 0 rfl) ?_
  refine gfB (i0 := 0) (own := RX9) (T := TX9) (k := 10) (v := .ref (a_t 10)) hx hb htX9 hown hK hP rfl e9 rfl (by decide) (hW _ wd180) rfl dX9_copyFrom_121 ?_
  refine lv_iconst (v := 0) hx hb dX9_copyFrom_124 (by decide) ?_
  refine lv_bipush (v := 12) hx hb dX9_copyFrom_125 (by decide) ?_
  obtain ⟨s11, es11, hf⟩ := bnd hf
  replace es11 := Option.some.inj es11
  refine cpyB (i1 := 1) (i0 := 0) (Bn := [w9 cs o_t a_t s11, w9 cs o_t2 a_t2 s_t2]) (n := 12) (g' := va_cpy (s_t2.2 10) (s10.2 10) 0 0 12) hx hb (hml.trans hl.1.symm) (own := RX9) (index := 46) hown (hW _ wd503) (hW _ wd505) (hW _ wd504) (hW _ wd125) hK hP hD hS rfl a9_10 rfl a9_10 (by decide +kernel) (by decide +kernel) (by decide +kernel) (by rw [hR]; exact Nat.le_of_ble_eq_true rfl) (by rw [hR]; exact Nat.le_of_ble_eq_true rfl) rfl dX9_copyFrom_127 (by rw [← es11]; exact v9_10) rfl (fun H locs hP hD hS => ?_)
  obtain rfl := Option.some.inj hf
  exact mretV hx hb hr hlocks hK hP hD hS hQ dX9_copyFrom_130
/-! TwinLamps$Dice.befall -/
noncomputable def f0_befall (s_d : St) (s_t : St) : Option (St × St) :=
  if (s_t.1 1) = 0 then some (s_d, s_t) else (f0_draw s_d (s_t.1 1)).bind fun q1 =>
  (f0_draw q1.2 (5 : Int32)).bind fun q2 =>
  ((if q2.1 = 0 then ((f9_flickByHand s_t q1.1).bind fun q8 =>
  some (q2.2, q8))
  else if q2.1 = 1 then ((f0_draw q2.2 (10 : Int32)).bind fun q6 =>
  if q6.1 = 0 then ((f9_shatter s_t q1.1).bind fun q7 =>
  some (q6.2, q7))
  else some (q6.2, s_t))
  else if q2.1 = 2 then ((ldO 12 (s_t.2 9) q1.1).bind fun q4 =>
  (stS 12 s_t 9 q1.1 (jmin (99 : Int32) (q4 + 9))).bind fun s5 =>
  some (q2.2, s5))
  else some (q2.2, s_t) : Option (St × St))).bind fun q3 =>
  some (q3.1, q3.2)
set_option maxHeartbeats 4000000 in
set_option maxRecDepth 100000 in
theorem c0_befall (l : Launch) (D : va_G) (cs : xE) (o_d : Nat) (o_t : Nat) (a_t : Nat → Nat) (s_d : St) (s_t : St) (sz : Nat) (res : St × St) (hf : f0_befall s_d s_t = some res) : Met l yX0_befall (Cond.code yX0_befall cX0_befall 4 none :: WG) { frames := 3, cells := 0, slots := 0, locals := 65 } (va_Pc [.ref o_d, .ref o_t] (mP D cs (List.flatten [w0 cs o_d a0n s_d, w9 cs o_t a_t s_t]) sz)) (qV D cs (List.flatten [w0 cs o_d a0n res.1, w9 cs o_t a_t res.2]) (va_A (List.flatten [w0 cs o_d a0n s_d, w9 cs o_t a_t s_t]) sz)) 0 0 (va_A (List.flatten [w0 cs o_d a0n s_d, w9 cs o_t a_t s_t]) sz) := by
  refine mgo (Qc := qV D cs (List.flatten [w0 cs o_d a0n res.1, w9 cs o_t a_t res.2])) (cc := cX0_befall) (maxL := 4) (ret := none) (by decide) rfl (Nat.le_of_ble_eq_true rfl) ?_
  intro p e s m below meth c ls A R Q args H hR hQ hx hb hml hr hlocks hown hts hP hK hD hA hS hG hl
  have hown : s.vm.findClass RX0 = some m.cls := hown
  have hl : lv_has ls 4 [(0, .ref o_d), (1, .ref o_t)] := hl
  have hW : ∀ w ∈ WG, w.before args s = true := fun w h => hts w (List.mem_cons_of_mem _ h)
  have htX9 : ∀ w ∈ u_ws RX9 TX9 11, w.before args s = true := fun w h => hW w (inW_X9 w h)
  unfold f0_befall at hf
  refine lv_aload_n hx hb dX0_befall_0 rfl (lv_at hl 1 rfl) ?_
  refine gfB (i0 := 1) (own := RX0) (T := TX9) (k := 1) (v := .int (s_t.1 1)) hx hb htX9 hown hK hP rfl e9 rfl (by decide) (hW _ wd154) rfl dX0_befall_1 ?_
  refine lv_if_ne (tgt := 8) hx hb dX0_befall_4 (by decide) (fun hc => ?_) (fun hc => ?_)
  · have hf := ifn hc hf
    refine lv_aload_n hx hb dX0_befall_8 rfl (lv_at hl 0 rfl) ?_
    refine lv_aload_n hx hb dX0_befall_9 rfl (lv_at hl 1 rfl) ?_
    refine gfB (i0 := 1) (own := RX0) (T := TX9) (k := 1) (v := .int (s_t.1 1)) hx hb htX9 hown hK hP rfl e9 rfl (by decide) (hW _ wd154) rfl dX0_befall_10 ?_
    obtain ⟨q1, eq1, hf⟩ := bnd hf
    refine mcVi (v := q1.1) (rest := []) (Bn := [w0 cs o_d a0n q1.2, w9 cs o_t a_t s_t]) (isR := [1]) (isC := [0]) (i0 := 0) ⟨hx, hb, hml, hown, hts⟩ hK hP hD hS hA hG (c0_draw l D cs o_d s_d H.size (s_t.1 1) _ eq1) (cwV 1 hts (gV wd1296 wd1298 wd38 wd114 wd1299) rfl rfl rfl (by decide +kernel) ⟨by rw [hR]; exact Nat.le_of_ble_eq_true rfl, by rw [hR]; exact Nat.le_of_ble_eq_true rfl⟩) 2 (by decide) rfl rfl rfl rfl rfl rfl rfl e0 rfl rfl rfl hl.1 rfl (Nat.le_of_ble_eq_true rfl) ⟨Nat.zero_le _, Nat.zero_le _⟩ dX0_befall_13 (fun H locs hP hD hS => ?_)
    refine lv_istore_n (lv' := [(2, .int q1.1), (0, .ref o_d), (1, .ref o_t)]) hx hb dX0_befall_16 rfl hl (by decide) rfl (fun ls hl => ?_)
    refine lv_aload_n hx hb dX0_befall_17 rfl (lv_at hl 1 rfl) ?_
    refine lv_iconst (v := 5) hx hb dX0_befall_18 (by decide) ?_
    obtain ⟨q2, eq2, hf⟩ := bnd hf
    refine mcVi (v := q2.1) (rest := []) (Bn := [w0 cs o_d a0n q2.2, w9 cs o_t a_t s_t]) (isR := [1]) (isC := [0]) (i0 := 0) ⟨hx, hb, hml, hown, hts⟩ hK hP hD hS hA hG (c0_draw l D cs o_d q1.2 H.size (5 : Int32) _ eq2) (cwV 1 hts (gV wd1296 wd1298 wd38 wd114 wd1299) rfl rfl rfl (by decide +kernel) ⟨by rw [hR]; exact Nat.le_of_ble_eq_true rfl, by rw [hR]; exact Nat.le_of_ble_eq_true rfl⟩) 2 (by decide) rfl rfl rfl rfl rfl rfl rfl e0 rfl rfl rfl hl.1 rfl (Nat.le_of_ble_eq_true rfl) ⟨Nat.zero_le _, Nat.zero_le _⟩ dX0_befall_19 (fun H locs hP hD hS => ?_)
    refine lv_istore_n (lv' := [(3, .int q2.1), (2, .int q1.1), (0, .ref o_d), (1, .ref o_t)]) hx hb dX0_befall_22 rfl hl (by decide) rfl (fun ls hl => ?_)
    refine lv_iload_n hx hb dX0_befall_23 rfl (lv_at hl 0 rfl) ?_
    obtain ⟨q3, hq3, hf⟩ := bnd hf
    have Jq3 : ∀ r3 : St × St, q3 = r3 → ∀ (H : Heap) (locs : List Loc) (ls : Array Slot), va_P D vwCl (List.flatten [w0 cs o_d a0n r3.1, w9 cs o_t a_t r3.2]) H → va_D A (List.flatten [w0 cs o_d a0n r3.1, w9 cs o_t a_t r3.2]) → va_S A s.heap H locs → lv_has ls 4 [] → W p l e R s m args below meth c H locs 0 0 Q (F0 m 82 ls []) := by
      intro r3 eq3 H locs ls hP hD hS hl
      subst eq3
      obtain rfl := Option.some.inj hf
      exact mretV hx hb hr hlocks hK hP hD hS hQ dX0_befall_82
    clear hf
    have hf := hq3
    refine lv_if_ne (tgt := 35) hx hb dX0_befall_24 (by decide) (fun hc => ?_) (fun hc => ?_)
    · have hf := ifn hc hf
      refine lv_iload_n hx hb dX0_befall_35 rfl (lv_at hl 0 rfl) ?_
      refine lv_iconst (v := 1) hx hb dX0_befall_36 (by decide) ?_
      refine lv_icmp_ne (tgt := 57) hx hb dX0_befall_37 (by decide) (fun hc => ?_) (fun hc => ?_)
      · have hf := ifn hc hf
        refine lv_iload_n hx hb dX0_befall_57 rfl (lv_at hl 0 rfl) ?_
        refine lv_iconst (v := 2) hx hb dX0_befall_58 (by decide) ?_
        refine lv_icmp_ne (tgt := 82) hx hb dX0_befall_59 (by decide) (fun hc => ?_) (fun hc => ?_)
        · have hf := ifn hc hf
          exact Jq3 _ (Option.some.inj hf).symm _ _ _ hP hD hS (lv_sub hl [] rfl)
        · have hf := ifp hc hf
          refine lv_aload_n hx hb dX0_befall_62 rfl (lv_at hl 3 rfl) ?_
          refine gfB (i0 := 1) (own := RX0) (T := TX9) (k := 9) (v := .ref (a_t 9)) hx hb htX9 hown hK hP rfl e9 rfl (by decide) (hW _ wd176) rfl dX0_befall_63 ?_
          refine lv_iload_n hx hb dX0_befall_66 rfl (lv_at hl 1 rfl) ?_
          refine lv_bipush (v := 99) hx hb dX0_befall_67 (by decide) ?_
          refine lv_aload_n hx hb dX0_befall_69 rfl (lv_at hl 3 rfl) ?_
          refine gfB (i0 := 1) (own := RX0) (T := TX9) (k := 9) (v := .ref (a_t 9)) hx hb htX9 hown hK hP rfl e9 rfl (by decide) (hW _ wd176) rfl dX0_befall_70 ?_
          refine lv_iload_n hx hb dX0_befall_73 rfl (lv_at hl 1 rfl) ?_
          obtain ⟨q4, eq4, hf⟩ := bnd hf
          obtain ⟨gq4, eq4⟩ := ldO_e eq4
          refine aldB (i0 := 1) hx hb hK hP rfl a9_9 gq4 dX0_befall_74 ?_
          refine lv_nm eq4 ?_
          refine lv_bipush (v := 9) hx hb dX0_befall_75 (by decide) ?_
          refine lv_iadd hx hb dX0_befall_77 ?_
          refine va_mmin hx hb (hml.trans hl.1.symm) (own := RX0) (index := 36) hown (hW _ wd1303) (hW _ wd1152) (hW _ wd126) (hW _ wd1153) (by rw [hR]; exact Nat.le_of_ble_eq_true rfl) (by rw [hR]; exact Nat.le_of_ble_eq_true rfl) (Nat.zero_le _) (Nat.zero_le _) dX0_befall_78 ?_
          refine lv_nm (v := (jmin (99 : Int32) (q4 + 9))) rfl ?_
          obtain ⟨s5, es5, hf⟩ := bnd hf
          obtain ⟨gs5, es5⟩ := stS_e es5
          refine astB (i0 := 1) (Bn := [w0 cs o_d a0n q2.2, w9 cs o_t a_t s5]) hx hb hK hP hD hS rfl a9_9 gs5 rfl dX0_befall_81 (by rw [← es5]; exact v9_9) rfl (fun H locs hP hD hS => ?_)
          exact Jq3 _ (Option.some.inj hf).symm _ _ _ hP hD hS (lv_sub hl [] rfl)
      · have hf := ifp hc hf
        refine lv_aload_n hx hb dX0_befall_40 rfl (lv_at hl 2 rfl) ?_
        refine lv_bipush (v := 10) hx hb dX0_befall_41 (by decide) ?_
        obtain ⟨q6, eq6, hf⟩ := bnd hf
        refine mcVi (v := q6.1) (rest := []) (Bn := [w0 cs o_d a0n q6.2, w9 cs o_t a_t s_t]) (isR := [1]) (isC := [0]) (i0 := 0) ⟨hx, hb, hml, hown, hts⟩ hK hP hD hS hA hG (c0_draw l D cs o_d q2.2 H.size (10 : Int32) _ eq6) (cwV 1 hts (gV wd1296 wd1298 wd38 wd114 wd1299) rfl rfl rfl (by decide +kernel) ⟨by rw [hR]; exact Nat.le_of_ble_eq_true rfl, by rw [hR]; exact Nat.le_of_ble_eq_true rfl⟩) 2 (by decide) rfl rfl rfl rfl rfl rfl rfl e0 rfl rfl rfl hl.1 rfl (Nat.le_of_ble_eq_true rfl) ⟨Nat.zero_le _, Nat.zero_le _⟩ dX0_befall_43 (fun H locs hP hD hS => ?_)
        refine lv_if_ne (tgt := 82) hx hb dX0_befall_46 (by decide) (fun hc => ?_) (fun hc => ?_)
        · have hf := ifn hc hf
          exact Jq3 _ (Option.some.inj hf).symm _ _ _ hP hD hS (lv_sub hl [] rfl)
        · have hf := ifp hc hf
          refine lv_aload_n hx hb dX0_befall_49 rfl (lv_at hl 3 rfl) ?_
          refine lv_iload_n hx hb dX0_befall_50 rfl (lv_at hl 1 rfl) ?_
          obtain ⟨q7, eq7, hf⟩ := bnd hf
          refine mcVv (rest := []) (Bn := [w0 cs o_d a0n q6.2, w9 cs o_t a_t q7]) (isR := [0]) (isC := [1]) (i0 := 1) ⟨hx, hb, hml, hown, hts⟩ hK hP hD hS hA hG (c9_shatter l D cs o_t a_t s_t H.size q1.1 _ eq7) (cwV 1 hts (gV wd1302 wd1001 wd1002 wd107 wd1003) rfl rfl rfl (by decide +kernel) ⟨by rw [hR]; exact Nat.le_of_ble_eq_true rfl, by rw [hR]; exact Nat.le_of_ble_eq_true rfl⟩) 2 (by decide) rfl rfl rfl rfl rfl rfl rfl e9 rfl rfl rfl hl.1 rfl (Nat.le_of_ble_eq_true rfl) ⟨Nat.zero_le _, Nat.zero_le _⟩ dX0_befall_51 (fun H locs hP hD hS => ?_)
          refine lv_goto (tgt := 82) hx hb dX0_befall_54 (by decide) ?_
          exact Jq3 _ (Option.some.inj hf).symm _ _ _ hP hD hS (lv_sub hl [] rfl)
    · have hf := ifp hc hf
      refine lv_aload_n hx hb dX0_befall_27 rfl (lv_at hl 3 rfl) ?_
      refine lv_iload_n hx hb dX0_befall_28 rfl (lv_at hl 1 rfl) ?_
      obtain ⟨q8, eq8, hf⟩ := bnd hf
      refine mcVv (rest := []) (Bn := [w0 cs o_d a0n q2.2, w9 cs o_t a_t q8]) (isR := [0]) (isC := [1]) (i0 := 1) ⟨hx, hb, hml, hown, hts⟩ hK hP hD hS hA hG (c9_flickByHand l D cs o_t a_t s_t H.size q1.1 _ eq8) (cwV 1 hts (gV wd1301 wd978 wd979 wd107 wd980) rfl rfl rfl (by decide +kernel) ⟨by rw [hR]; exact Nat.le_of_ble_eq_true rfl, by rw [hR]; exact Nat.le_of_ble_eq_true rfl⟩) 2 (by decide) rfl rfl rfl rfl rfl rfl rfl e9 rfl rfl rfl hl.1 rfl (Nat.le_of_ble_eq_true rfl) ⟨Nat.zero_le _, Nat.zero_le _⟩ dX0_befall_29 (fun H locs hP hD hS => ?_)
      refine lv_goto (tgt := 82) hx hb dX0_befall_32 (by decide) ?_
      exact Jq3 _ (Option.some.inj hf).symm _ _ _ hP hD hS (lv_sub hl [] rfl)
  · have hf := ifp hc hf
    obtain rfl := Option.some.inj hf
    exact mretV hx hb hr hlocks hK hP hD hS hQ dX0_befall_7
/-! TwinLamps$Rule.clear -/
noncomputable def f7_clear (s_g : St) : Option (St) :=
  (some (sS s_g 3 0)).bind fun s1 =>
  some s1
set_option maxHeartbeats 4000000 in
set_option maxRecDepth 100000 in
theorem c7_clear (l : Launch) (D : va_G) (cs : xE) (o_g : Nat) (a_g : Nat → Nat) (s_g : St) (sz : Nat) (res : St) (hf : f7_clear s_g = some res) : Met l yX7_clear (Cond.code yX7_clear cX7_clear 1 none :: WG) { frames := 0, cells := 0, slots := 0, locals := 0 } (va_Pc [.ref o_g] (mP D cs (List.flatten [w7 cs o_g a_g s_g]) sz)) (qV D cs (List.flatten [w7 cs o_g a_g res]) (va_A (List.flatten [w7 cs o_g a_g s_g]) sz)) 0 0 (va_A (List.flatten [w7 cs o_g a_g s_g]) sz) := by
  refine mgo (Qc := qV D cs (List.flatten [w7 cs o_g a_g res])) (cc := cX7_clear) (maxL := 1) (ret := none) (by decide) rfl (Nat.le_of_ble_eq_true rfl) ?_
  intro p e s m below meth c ls A R Q args H hR hQ hx hb hml hr hlocks hown hts hP hK hD hA hS hG hl
  have hown : s.vm.findClass RX7 = some m.cls := hown
  have hl : lv_has ls 1 [(0, .ref o_g)] := hl
  have hW : ∀ w ∈ WG, w.before args s = true := fun w h => hts w (List.mem_cons_of_mem _ h)
  have htX7 : ∀ w ∈ u_ws RX7 TX7 4, w.before args s = true := fun w h => hW w (inW_X7 w h)
  unfold f7_clear at hf
  refine lv_aload_n hx hb dX7_clear_0 rfl (lv_at hl 0 rfl) ?_
  refine lv_iconst (v := 0) hx hb dX7_clear_1 (by decide) ?_
  obtain ⟨s1, es1, hf⟩ := bnd hf
  replace es1 := Option.some.inj es1
  refine pfB (i0 := 0) (own := RX7) (T := TX7) (k := 3) (Bn := [w7 cs o_g a_g s1]) tyX7 tyX7_ok nmX7 hx hb htX7 hown hK hP hD hS rfl e7 rfl (by decide) (hW _ wd216) rfl rfl rfl (Nat.le_of_ble_eq_true rfl) dX7_clear_2 (by rw [← es1]; exact u7_3) rfl (fun H locs hP hD hS => ?_)
  obtain rfl := Option.some.inj hf
  exact mretV hx hb hr hlocks hK hP hD hS hQ dX7_clear_5
/-! TwinLamps$Rule.isTold -/
noncomputable def f7_isTold (s_g : St) : Option (Bool) :=
  if (s_g.1 3) ≤ 0 then some false else some true
set_option maxHeartbeats 4000000 in
set_option maxRecDepth 100000 in
theorem c7_isTold (l : Launch) (D : va_G) (cs : xE) (o_g : Nat) (a_g : Nat → Nat) (s_g : St) (sz : Nat) (res : Bool) (hf : f7_isTold s_g = some res) : Met l yX7_isTold (Cond.code yX7_isTold cX7_isTold 1 (some .boolean) :: WG) { frames := 0, cells := 0, slots := 0, locals := 0 } (va_Pc [.ref o_g] (mP D cs (List.flatten [w7 cs o_g a_g s_g]) sz)) (qI D cs (zB res) (List.flatten [w7 cs o_g a_g s_g]) (va_A (List.flatten [w7 cs o_g a_g s_g]) sz)) 0 0 (va_A (List.flatten [w7 cs o_g a_g s_g]) sz) := by
  refine mgo (Qc := qI D cs (zB res) (List.flatten [w7 cs o_g a_g s_g])) (cc := cX7_isTold) (maxL := 1) (ret := (some .boolean)) (by decide) rfl (Nat.le_of_ble_eq_true rfl) ?_
  intro p e s m below meth c ls A R Q args H hR hQ hx hb hml hr hlocks hown hts hP hK hD hA hS hG hl
  have hown : s.vm.findClass RX7 = some m.cls := hown
  have hl : lv_has ls 1 [(0, .ref o_g)] := hl
  have hW : ∀ w ∈ WG, w.before args s = true := fun w h => hts w (List.mem_cons_of_mem _ h)
  have htX7 : ∀ w ∈ u_ws RX7 TX7 4, w.before args s = true := fun w h => hW w (inW_X7 w h)
  unfold f7_isTold at hf
  refine lv_aload_n hx hb dX7_isTold_0 rfl (lv_at hl 0 rfl) ?_
  refine gfB (i0 := 0) (own := RX7) (T := TX7) (k := 3) (v := .int (s_g.1 3)) hx hb htX7 hown hK hP rfl e7 rfl (by decide) (hW _ wd216) rfl dX7_isTold_1 ?_
  refine lv_if_le (tgt := 11) hx hb dX7_isTold_4 (by decide) (fun hc => ?_) (fun hc => ?_)
  · have hf := ifp hc hf
    refine lv_iconst (v := 0) hx hb dX7_isTold_11 (by decide) ?_
    obtain rfl := Option.some.inj hf
    exact mretZ hx hb hr hlocks hK hP hD hS rfl hQ dX7_isTold_12
  · have hf := ifn hc hf
    refine lv_iconst (v := 1) hx hb dX7_isTold_7 (by decide) ?_
    refine lv_goto (tgt := 12) hx hb dX7_isTold_8 (by decide) ?_
    obtain rfl := Option.some.inj hf
    exact mretZ hx hb hr hlocks hK hP hD hS rfl hQ dX7_isTold_12
/-! TwinLamps$Rule.add -/
noncomputable def f7_add (s_g : St) (x1 : Int32) : Option (St) :=
  ((if (600 : Int32) ≤ (s_g.1 3) then some s_g else (stS 600 s_g 0 (s_g.1 3) x1).bind fun s2 =>
  (some (sS s2 3 ((s2.1 3) + 1))).bind fun s3 =>
  some s3 : Option (St))).bind fun q1 =>
  some q1
set_option maxHeartbeats 4000000 in
set_option maxRecDepth 100000 in
theorem c7_add (l : Launch) (D : va_G) (cs : xE) (o_g : Nat) (a_g : Nat → Nat) (s_g : St) (sz : Nat) (x1 : Int32) (res : St) (hf : f7_add s_g x1 = some res) : Met l yX7_add (Cond.code yX7_add cX7_add 2 none :: WG) { frames := 0, cells := 0, slots := 0, locals := 0 } (va_Pc [.ref o_g, .int x1] (mP D cs (List.flatten [w7 cs o_g a_g s_g]) sz)) (qV D cs (List.flatten [w7 cs o_g a_g res]) (va_A (List.flatten [w7 cs o_g a_g s_g]) sz)) 0 0 (va_A (List.flatten [w7 cs o_g a_g s_g]) sz) := by
  refine mgo (Qc := qV D cs (List.flatten [w7 cs o_g a_g res])) (cc := cX7_add) (maxL := 2) (ret := none) (by decide) rfl (Nat.le_of_ble_eq_true rfl) ?_
  intro p e s m below meth c ls A R Q args H hR hQ hx hb hml hr hlocks hown hts hP hK hD hA hS hG hl
  have hown : s.vm.findClass RX7 = some m.cls := hown
  have hl : lv_has ls 2 [(0, .ref o_g), (1, .int x1)] := hl
  have hW : ∀ w ∈ WG, w.before args s = true := fun w h => hts w (List.mem_cons_of_mem _ h)
  have htX7 : ∀ w ∈ u_ws RX7 TX7 4, w.before args s = true := fun w h => hW w (inW_X7 w h)
  unfold f7_add at hf
  refine lv_aload_n hx hb dX7_add_0 rfl (lv_at hl 0 rfl) ?_
  refine gfB (i0 := 0) (own := RX7) (T := TX7) (k := 3) (v := .int (s_g.1 3)) hx hb htX7 hown hK hP rfl e7 rfl (by decide) (hW _ wd216) rfl dX7_add_1 ?_
  refine lv_aload_n hx hb dX7_add_4 rfl (lv_at hl 0 rfl) ?_
  refine gfB (i0 := 0) (own := RX7) (T := TX7) (k := 0) (v := .ref (a_g 0)) hx hb htX7 hown hK hP rfl e7 rfl (by decide) (hW _ wd213) rfl dX7_add_5 ?_
  refine alnB (v := 600) (i0 := 0) 0 hx hb hK hP rfl a7_0 rfl (by decide +kernel) dX7_add_8 ?_
  obtain ⟨q1, hq1, hf⟩ := bnd hf
  have Jq1 : ∀ r1 : St, q1 = r1 → ∀ (H : Heap) (locs : List Loc) (ls : Array Slot), va_P D vwCl (List.flatten [w7 cs o_g a_g r1]) H → va_D A (List.flatten [w7 cs o_g a_g r1]) → va_S A s.heap H locs → lv_has ls 2 [] → W p l e R s m args below meth c H locs 0 0 Q (F0 m 32 ls []) := by
    intro r1 eq1 H locs ls hP hD hS hl
    subst eq1
    obtain rfl := Option.some.inj hf
    exact mretV hx hb hr hlocks hK hP hD hS hQ dX7_add_32
  clear hf
  have hf := hq1
  refine lv_icmp_ge (tgt := 32) hx hb dX7_add_9 (by decide) (fun hc => ?_) (fun hc => ?_)
  · have hf := ifp hc hf
    exact Jq1 _ (Option.some.inj hf).symm _ _ _ hP hD hS (lv_sub hl [] rfl)
  · have hf := ifn hc hf
    refine lv_aload_n hx hb dX7_add_12 rfl (lv_at hl 0 rfl) ?_
    refine gfB (i0 := 0) (own := RX7) (T := TX7) (k := 0) (v := .ref (a_g 0)) hx hb htX7 hown hK hP rfl e7 rfl (by decide) (hW _ wd213) rfl dX7_add_13 ?_
    refine lv_aload_n hx hb dX7_add_16 rfl (lv_at hl 0 rfl) ?_
    refine gfB (i0 := 0) (own := RX7) (T := TX7) (k := 3) (v := .int (s_g.1 3)) hx hb htX7 hown hK hP rfl e7 rfl (by decide) (hW _ wd216) rfl dX7_add_17 ?_
    refine lv_iload_n hx hb dX7_add_20 rfl (lv_at hl 1 rfl) ?_
    obtain ⟨s2, es2, hf⟩ := bnd hf
    obtain ⟨gs2, es2⟩ := stS_e es2
    refine astB (i0 := 0) (Bn := [w7 cs o_g a_g s2]) hx hb hK hP hD hS rfl a7_0 gs2 rfl dX7_add_21 (by rw [← es2]; exact v7_0) rfl (fun H locs hP hD hS => ?_)
    refine lv_aload_n hx hb dX7_add_22 rfl (lv_at hl 0 rfl) ?_
    refine lv_dup hx hb dX7_add_23 rfl ?_
    refine gfB (i0 := 0) (own := RX7) (T := TX7) (k := 3) (v := .int (s2.1 3)) hx hb htX7 hown hK hP rfl e7 rfl (by decide) (hW _ wd216) rfl dX7_add_24 ?_
    refine lv_iconst (v := 1) hx hb dX7_add_27 (by decide) ?_
    refine lv_iadd hx hb dX7_add_28 ?_
    obtain ⟨s3, es3, hf⟩ := bnd hf
    replace es3 := Option.some.inj es3
    refine pfB (i0 := 0) (own := RX7) (T := TX7) (k := 3) (Bn := [w7 cs o_g a_g s3]) tyX7 tyX7_ok nmX7 hx hb htX7 hown hK hP hD hS rfl e7 rfl (by decide) (hW _ wd216) rfl rfl rfl (Nat.le_of_ble_eq_true rfl) dX7_add_29 (by rw [← es3]; exact u7_3) rfl (fun H locs hP hD hS => ?_)
    exact Jq1 _ (Option.some.inj hf).symm _ _ _ hP hD hS (lv_sub hl [] rfl)
/-! TwinLamps$Rule.isCustomary -/
noncomputable def f7_isCustomary (x0 : Int32) (x1 : Bool) (x2 : Int32) : Option (Bool) :=
  if x0 = 2 then some false else ((if (18 : Int32) ≤ x2 then some true else ((if x0 = 3 then some 9 else some 6 : Option (Int32))).bind fun q2 =>
  if q2 ≤ x2 then some false else some true : Option (Bool))).bind fun q1 =>
  if (zB q1) = 0 then some false else if (zB x1) = 0 then if x0 = 1 then some true else some false else some true
set_option maxHeartbeats 4000000 in
set_option maxRecDepth 100000 in
theorem c7_isCustomary (l : Launch) (D : va_G) (cs : xE) (sz : Nat) (x0 : Int32) (x1 : Bool) (x2 : Int32) (res : Bool) (hf : f7_isCustomary x0 x1 x2 = some res) : Met l yX7_isCustomary (Cond.code yX7_isCustomary cX7_isCustomary 4 (some .boolean) :: WG) { frames := 0, cells := 0, slots := 0, locals := 0 } (va_Pc [.int x0, .int (zB x1), .int x2] (mP D cs (List.flatten []) sz)) (qI D cs (zB res) (List.flatten []) (va_A (List.flatten []) sz)) 0 0 (va_A (List.flatten []) sz) := by
  refine mgo (Qc := qI D cs (zB res) (List.flatten [])) (cc := cX7_isCustomary) (maxL := 4) (ret := (some .boolean)) (by decide) rfl (Nat.le_of_ble_eq_true rfl) ?_
  intro p e s m below meth c ls A R Q args H hR hQ hx hb hml hr hlocks hown hts hP hK hD hA hS hG hl
  have hown : s.vm.findClass RX7 = some m.cls := hown
  have hl : lv_has ls 4 [(0, .int x0), (1, .int (zB x1)), (2, .int x2)] := hl
  have hW : ∀ w ∈ WG, w.before args s = true := fun w h => hts w (List.mem_cons_of_mem _ h)
  unfold f7_isCustomary at hf
  refine lv_iload_n hx hb dX7_isCustomary_0 rfl (lv_at hl 0 rfl) ?_
  refine lv_iconst (v := 2) hx hb dX7_isCustomary_1 (by decide) ?_
  refine lv_icmp_ne (tgt := 7) hx hb dX7_isCustomary_2 (by decide) (fun hc => ?_) (fun hc => ?_)
  · have hf := ifn hc hf
    refine lv_iload_n hx hb dX7_isCustomary_7 rfl (lv_at hl 2 rfl) ?_
    refine lv_bipush (v := 18) hx hb dX7_isCustomary_8 (by decide) ?_
    obtain ⟨q1, hq1, hf⟩ := bnd hf
    have Jq1 : ∀ r1 : Bool, q1 = r1 → ∀ (H : Heap) (locs : List Loc) (ls : Array Slot), va_P D vwCl (List.flatten []) H → va_D A (List.flatten []) → va_S A s.heap H locs → lv_has ls 4 [(0, .int x0), (1, .int (zB x1))] → W p l e R s m args below meth c H locs 0 0 Q (F0 m 34 ls [.int (zB r1)]) := by
      intro r1 eq1 H locs ls hP hD hS hl
      subst eq1
      refine lv_istore_n (lv' := [(3, .int (zB q1)), (0, .int x0), (1, .int (zB x1))]) hx hb dX7_isCustomary_34 rfl hl (by decide) rfl (fun ls hl => ?_)
      refine lv_iload_n hx hb dX7_isCustomary_35 rfl (lv_at hl 0 rfl) ?_
      refine lv_if_eq (tgt := 52) hx hb dX7_isCustomary_36 (by decide) (fun hc => ?_) (fun hc => ?_)
      · have hf := ifp hc hf
        refine lv_iconst (v := 0) hx hb dX7_isCustomary_52 (by decide) ?_
        obtain rfl := Option.some.inj hf
        exact mretZ hx hb hr hlocks hK hP hD hS rfl hQ dX7_isCustomary_53
      · have hf := ifn hc hf
        refine lv_iload_n hx hb dX7_isCustomary_39 rfl (lv_at hl 2 rfl) ?_
        refine lv_if_ne (tgt := 48) hx hb dX7_isCustomary_40 (by decide) (fun hc => ?_) (fun hc => ?_)
        · have hf := ifn hc hf
          refine lv_iconst (v := 1) hx hb dX7_isCustomary_48 (by decide) ?_
          refine lv_goto (tgt := 53) hx hb dX7_isCustomary_49 (by decide) ?_
          obtain rfl := Option.some.inj hf
          exact mretZ hx hb hr hlocks hK hP hD hS rfl hQ dX7_isCustomary_53
        · have hf := ifp hc hf
          refine lv_iload_n hx hb dX7_isCustomary_43 rfl (lv_at hl 1 rfl) ?_
          refine lv_iconst (v := 1) hx hb dX7_isCustomary_44 (by decide) ?_
          refine lv_icmp_ne (tgt := 52) hx hb dX7_isCustomary_45 (by decide) (fun hc => ?_) (fun hc => ?_)
          · have hf := ifn hc hf
            refine lv_iconst (v := 0) hx hb dX7_isCustomary_52 (by decide) ?_
            obtain rfl := Option.some.inj hf
            exact mretZ hx hb hr hlocks hK hP hD hS rfl hQ dX7_isCustomary_53
          · have hf := ifp hc hf
            refine lv_iconst (v := 1) hx hb dX7_isCustomary_48 (by decide) ?_
            refine lv_goto (tgt := 53) hx hb dX7_isCustomary_49 (by decide) ?_
            obtain rfl := Option.some.inj hf
            exact mretZ hx hb hr hlocks hK hP hD hS rfl hQ dX7_isCustomary_53
    clear hf
    have hf := hq1
    refine lv_icmp_ge (tgt := 29) hx hb dX7_isCustomary_10 (by decide) (fun hc => ?_) (fun hc => ?_)
    · have hf := ifp hc hf
      refine lv_iconst (v := 1) hx hb dX7_isCustomary_29 (by decide) ?_
      refine lv_goto (tgt := 34) hx hb dX7_isCustomary_30 (by decide) ?_
      exact Jq1 _ (Option.some.inj hf).symm _ _ _ hP hD hS (lv_sub hl [0, 1] rfl)
    · have hf := ifn hc hf
      refine lv_iload_n hx hb dX7_isCustomary_13 rfl (lv_at hl 2 rfl) ?_
      refine lv_iload_n hx hb dX7_isCustomary_14 rfl (lv_at hl 0 rfl) ?_
      refine lv_iconst (v := 3) hx hb dX7_isCustomary_15 (by decide) ?_
      obtain ⟨q2, hq2, hf⟩ := bnd hf
      have Jq2 : ∀ r2 : Int32, q2 = r2 → ∀ (H : Heap) (locs : List Loc) (ls : Array Slot), va_P D vwCl (List.flatten []) H → va_D A (List.flatten []) → va_S A s.heap H locs → lv_has ls 4 [(0, .int x0), (1, .int (zB x1))] → W p l e R s m args below meth c H locs 0 0 Q (F0 m 26 ls [.int r2, .int x2]) := by
        intro r2 eq2 H locs ls hP hD hS hl
        subst eq2
        refine lv_icmp_ge (tgt := 33) hx hb dX7_isCustomary_26 (by decide) (fun hc => ?_) (fun hc => ?_)
        · have hf := ifp hc hf
          refine lv_iconst (v := 0) hx hb dX7_isCustomary_33 (by decide) ?_
          exact Jq1 _ (Option.some.inj hf).symm _ _ _ hP hD hS (lv_sub hl [0, 1] rfl)
        · have hf := ifn hc hf
          refine lv_iconst (v := 1) hx hb dX7_isCustomary_29 (by decide) ?_
          refine lv_goto (tgt := 34) hx hb dX7_isCustomary_30 (by decide) ?_
          exact Jq1 _ (Option.some.inj hf).symm _ _ _ hP hD hS (lv_sub hl [0, 1] rfl)
      clear hf
      have hf := hq2
      refine lv_icmp_ne (tgt := 24) hx hb dX7_isCustomary_16 (by decide) (fun hc => ?_) (fun hc => ?_)
      · have hf := ifn hc hf
        refine lv_bipush (v := 6) hx hb dX7_isCustomary_24 (by decide) ?_
        exact Jq2 _ (Option.some.inj hf).symm _ _ _ hP hD hS (lv_sub hl [0, 1] rfl)
      · have hf := ifp hc hf
        refine lv_bipush (v := 9) hx hb dX7_isCustomary_19 (by decide) ?_
        refine lv_goto (tgt := 26) hx hb dX7_isCustomary_21 (by decide) ?_
        exact Jq2 _ (Option.some.inj hf).symm _ _ _ hP hD hS (lv_sub hl [0, 1] rfl)
  · have hf := ifp hc hf
    refine lv_iconst (v := 0) hx hb dX7_isCustomary_5 (by decide) ?_
    obtain rfl := Option.some.inj hf
    exact mretZ hx hb hr hlocks hK hP hD hS rfl hQ dX7_isCustomary_6
/-! TwinLamps$Rule.valueOf -/
noncomputable def f7_valueOf (s_g : St) (x1 : Int32) : Option (Int32) :=
  if x1 < 0 then some 0 else if (6 : Int32) ≤ x1 then some 0 else (ldO 6 (s_g.2 2) x1).bind fun q1 =>
  some q1
set_option maxHeartbeats 4000000 in
set_option maxRecDepth 100000 in
theorem c7_valueOf (l : Launch) (D : va_G) (cs : xE) (o_g : Nat) (a_g : Nat → Nat) (s_g : St) (sz : Nat) (x1 : Int32) (res : Int32) (hf : f7_valueOf s_g x1 = some res) : Met l yX7_valueOf (Cond.code yX7_valueOf cX7_valueOf 2 (some .int) :: WG) { frames := 0, cells := 0, slots := 0, locals := 0 } (va_Pc [.ref o_g, .int x1] (mP D cs (List.flatten [w7 cs o_g a_g s_g]) sz)) (qI D cs res (List.flatten [w7 cs o_g a_g s_g]) (va_A (List.flatten [w7 cs o_g a_g s_g]) sz)) 0 0 (va_A (List.flatten [w7 cs o_g a_g s_g]) sz) := by
  refine mgo (Qc := qI D cs res (List.flatten [w7 cs o_g a_g s_g])) (cc := cX7_valueOf) (maxL := 2) (ret := (some .int)) (by decide) rfl (Nat.le_of_ble_eq_true rfl) ?_
  intro p e s m below meth c ls A R Q args H hR hQ hx hb hml hr hlocks hown hts hP hK hD hA hS hG hl
  have hown : s.vm.findClass RX7 = some m.cls := hown
  have hl : lv_has ls 2 [(0, .ref o_g), (1, .int x1)] := hl
  have hW : ∀ w ∈ WG, w.before args s = true := fun w h => hts w (List.mem_cons_of_mem _ h)
  have htX7 : ∀ w ∈ u_ws RX7 TX7 4, w.before args s = true := fun w h => hW w (inW_X7 w h)
  unfold f7_valueOf at hf
  refine lv_iload_n hx hb dX7_valueOf_0 rfl (lv_at hl 1 rfl) ?_
  refine lv_if_lt (tgt := 22) hx hb dX7_valueOf_1 (by decide) (fun hc => ?_) (fun hc => ?_)
  · have hf := ifp hc hf
    refine lv_iconst (v := 0) hx hb dX7_valueOf_22 (by decide) ?_
    obtain rfl := Option.some.inj hf
    exact mretI hx hb hr hlocks hK hP hD hS rfl hQ dX7_valueOf_23
  · have hf := ifn hc hf
    refine lv_iload_n hx hb dX7_valueOf_4 rfl (lv_at hl 1 rfl) ?_
    refine lv_aload_n hx hb dX7_valueOf_5 rfl (lv_at hl 0 rfl) ?_
    refine gfB (i0 := 0) (own := RX7) (T := TX7) (k := 2) (v := .ref (a_g 2)) hx hb htX7 hown hK hP rfl e7 rfl (by decide) (hW _ wd215) rfl dX7_valueOf_6 ?_
    refine alnB (v := 6) (i0 := 0) 0 hx hb hK hP rfl a7_2 rfl (by decide +kernel) dX7_valueOf_9 ?_
    refine lv_icmp_ge (tgt := 22) hx hb dX7_valueOf_10 (by decide) (fun hc => ?_) (fun hc => ?_)
    · have hf := ifp hc hf
      refine lv_iconst (v := 0) hx hb dX7_valueOf_22 (by decide) ?_
      obtain rfl := Option.some.inj hf
      exact mretI hx hb hr hlocks hK hP hD hS rfl hQ dX7_valueOf_23
    · have hf := ifn hc hf
      refine lv_aload_n hx hb dX7_valueOf_13 rfl (lv_at hl 0 rfl) ?_
      refine gfB (i0 := 0) (own := RX7) (T := TX7) (k := 2) (v := .ref (a_g 2)) hx hb htX7 hown hK hP rfl e7 rfl (by decide) (hW _ wd215) rfl dX7_valueOf_14 ?_
      refine lv_iload_n hx hb dX7_valueOf_17 rfl (lv_at hl 1 rfl) ?_
      obtain ⟨q1, eq1, hf⟩ := bnd hf
      obtain ⟨gq1, eq1⟩ := ldO_e eq1
      refine aldB (i0 := 0) hx hb hK hP rfl a7_2 gq1 dX7_valueOf_18 ?_
      refine lv_nm eq1 ?_
      refine lv_goto (tgt := 23) hx hb dX7_valueOf_19 (by decide) ?_
      obtain rfl := Option.some.inj hf
      exact mretI hx hb hr hlocks hK hP hD hS rfl hQ dX7_valueOf_23
/-! TwinLamps$Rule.together -/
noncomputable def f7_together (x0 : Int32) (x1 : Int32) (x2 : Int32) : Option (Int32) :=
  if x0 = 42 then (some (x1 * x2))
  else if x0 = 43 then (some (x1 + x2))
  else if x0 = 45 then (some (x1 - x2))
  else if x0 = 47 then (if x2 = 0 then some 0 else (dvO x1 x2).bind fun q1 =>
  some q1)
  else if x0 = 60 then (if x2 ≤ x1 then some 0 else some 1)
  else if x0 = 61 then (if x1 = x2 then some 1 else some 0)
  else if x0 = 308 then (if x1 = 0 then some 0 else if x2 = 0 then some 0 else some 1)
  else if x1 = 0 then if x2 = 0 then some 0 else some 1 else some 1
set_option maxHeartbeats 4000000 in
set_option maxRecDepth 100000 in
theorem c7_together (l : Launch) (D : va_G) (cs : xE) (sz : Nat) (x0 : Int32) (x1 : Int32) (x2 : Int32) (res : Int32) (hf : f7_together x0 x1 x2 = some res) : Met l yX7_together (Cond.code yX7_together cX7_together 3 (some .int) :: WG) { frames := 0, cells := 0, slots := 0, locals := 0 } (va_Pc [.int x0, .int x1, .int x2] (mP D cs (List.flatten []) sz)) (qI D cs res (List.flatten []) (va_A (List.flatten []) sz)) 0 0 (va_A (List.flatten []) sz) := by
  refine mgo (Qc := qI D cs res (List.flatten [])) (cc := cX7_together) (maxL := 3) (ret := (some .int)) (by decide) rfl (Nat.le_of_ble_eq_true rfl) ?_
  intro p e s m below meth c ls A R Q args H hR hQ hx hb hml hr hlocks hown hts hP hK hD hA hS hG hl
  have hown : s.vm.findClass RX7 = some m.cls := hown
  have hl : lv_has ls 3 [(0, .int x0), (1, .int x1), (2, .int x2)] := hl
  have hW : ∀ w ∈ WG, w.before args s = true := fun w h => hts w (List.mem_cons_of_mem _ h)
  unfold f7_together at hf
  refine lv_iload_n hx hb dX7_together_0 rfl (lv_at hl 0 rfl) ?_
  by_cases hk42 : x0 = 42
  · have hf := ifp hk42 hf
    refine lv_lookup (off := 75) (tgt := 76) hx hb dX7_together_1 (by decide) (by rw [hk42]; decide) (by decide) ?_
    refine lv_iload_n hx hb dX7_together_76 rfl (lv_at hl 1 rfl) ?_
    refine lv_iload_n hx hb dX7_together_77 rfl (lv_at hl 2 rfl) ?_
    refine lv_imul hx hb dX7_together_78 ?_
    obtain rfl := Option.some.inj hf
    exact mretI hx hb hr hlocks hK hP hD hS rfl hQ dX7_together_79
  have hf := ifn hk42 hf
  by_cases hk43 : x0 = 43
  · have hf := ifp hk43 hf
    refine lv_lookup (off := 67) (tgt := 68) hx hb dX7_together_1 (by decide) (by rw [hk43]; decide) (by decide) ?_
    refine lv_iload_n hx hb dX7_together_68 rfl (lv_at hl 1 rfl) ?_
    refine lv_iload_n hx hb dX7_together_69 rfl (lv_at hl 2 rfl) ?_
    refine lv_iadd hx hb dX7_together_70 ?_
    obtain rfl := Option.some.inj hf
    exact mretI hx hb hr hlocks hK hP hD hS rfl hQ dX7_together_71
  have hf := ifn hk43 hf
  by_cases hk45 : x0 = 45
  · have hf := ifp hk45 hf
    refine lv_lookup (off := 71) (tgt := 72) hx hb dX7_together_1 (by decide) (by rw [hk45]; decide) (by decide) ?_
    refine lv_iload_n hx hb dX7_together_72 rfl (lv_at hl 1 rfl) ?_
    refine lv_iload_n hx hb dX7_together_73 rfl (lv_at hl 2 rfl) ?_
    refine lv_isub hx hb dX7_together_74 ?_
    obtain rfl := Option.some.inj hf
    exact mretI hx hb hr hlocks hK hP hD hS rfl hQ dX7_together_75
  have hf := ifn hk45 hf
  by_cases hk47 : x0 = 47
  · have hf := ifp hk47 hf
    refine lv_lookup (off := 79) (tgt := 80) hx hb dX7_together_1 (by decide) (by rw [hk47]; decide) (by decide) ?_
    refine lv_iload_n hx hb dX7_together_80 rfl (lv_at hl 2 rfl) ?_
    refine lv_if_ne (tgt := 88) hx hb dX7_together_81 (by decide) (fun hc => ?_) (fun hc => ?_)
    · have hf := ifn hc hf
      refine lv_iload_n hx hb dX7_together_88 rfl (lv_at hl 1 rfl) ?_
      refine lv_iload_n hx hb dX7_together_89 rfl (lv_at hl 2 rfl) ?_
      obtain ⟨q1, eq1, hf⟩ := bnd hf
      obtain ⟨gq1, eq1⟩ := dvO_e eq1
      refine lv_idiv hx hb dX7_together_90 gq1 ?_
      refine lv_nm eq1 ?_
      obtain rfl := Option.some.inj hf
      exact mretI hx hb hr hlocks hK hP hD hS rfl hQ dX7_together_91
    · have hf := ifp hc hf
      refine lv_iconst (v := 0) hx hb dX7_together_84 (by decide) ?_
      refine lv_goto (tgt := 91) hx hb dX7_together_85 (by decide) ?_
      obtain rfl := Option.some.inj hf
      exact mretI hx hb hr hlocks hK hP hD hS rfl hQ dX7_together_91
  have hf := ifn hk47 hf
  by_cases hk60 : x0 = 60
  · have hf := ifp hk60 hf
    refine lv_lookup (off := 91) (tgt := 92) hx hb dX7_together_1 (by decide) (by rw [hk60]; decide) (by decide) ?_
    refine lv_iload_n hx hb dX7_together_92 rfl (lv_at hl 1 rfl) ?_
    refine lv_iload_n hx hb dX7_together_93 rfl (lv_at hl 2 rfl) ?_
    refine lv_icmp_ge (tgt := 101) hx hb dX7_together_94 (by decide) (fun hc => ?_) (fun hc => ?_)
    · have hf := ifp hc hf
      refine lv_iconst (v := 0) hx hb dX7_together_101 (by decide) ?_
      obtain rfl := Option.some.inj hf
      exact mretI hx hb hr hlocks hK hP hD hS rfl hQ dX7_together_102
    · have hf := ifn hc hf
      refine lv_iconst (v := 1) hx hb dX7_together_97 (by decide) ?_
      refine lv_goto (tgt := 102) hx hb dX7_together_98 (by decide) ?_
      obtain rfl := Option.some.inj hf
      exact mretI hx hb hr hlocks hK hP hD hS rfl hQ dX7_together_102
  have hf := ifn hk60 hf
  by_cases hk61 : x0 = 61
  · have hf := ifp hk61 hf
    refine lv_lookup (off := 102) (tgt := 103) hx hb dX7_together_1 (by decide) (by rw [hk61]; decide) (by decide) ?_
    refine lv_iload_n hx hb dX7_together_103 rfl (lv_at hl 1 rfl) ?_
    refine lv_iload_n hx hb dX7_together_104 rfl (lv_at hl 2 rfl) ?_
    refine lv_icmp_ne (tgt := 112) hx hb dX7_together_105 (by decide) (fun hc => ?_) (fun hc => ?_)
    · have hf := ifn hc hf
      refine lv_iconst (v := 0) hx hb dX7_together_112 (by decide) ?_
      obtain rfl := Option.some.inj hf
      exact mretI hx hb hr hlocks hK hP hD hS rfl hQ dX7_together_113
    · have hf := ifp hc hf
      refine lv_iconst (v := 1) hx hb dX7_together_108 (by decide) ?_
      refine lv_goto (tgt := 113) hx hb dX7_together_109 (by decide) ?_
      obtain rfl := Option.some.inj hf
      exact mretI hx hb hr hlocks hK hP hD hS rfl hQ dX7_together_113
  have hf := ifn hk61 hf
  by_cases hk308 : x0 = 308
  · have hf := ifp hk308 hf
    refine lv_lookup (off := 113) (tgt := 114) hx hb dX7_together_1 (by decide) (by rw [hk308]; decide) (by decide) ?_
    refine lv_iload_n hx hb dX7_together_114 rfl (lv_at hl 1 rfl) ?_
    refine lv_if_eq (tgt := 126) hx hb dX7_together_115 (by decide) (fun hc => ?_) (fun hc => ?_)
    · have hf := ifp hc hf
      refine lv_iconst (v := 0) hx hb dX7_together_126 (by decide) ?_
      obtain rfl := Option.some.inj hf
      exact mretI hx hb hr hlocks hK hP hD hS rfl hQ dX7_together_127
    · have hf := ifn hc hf
      refine lv_iload_n hx hb dX7_together_118 rfl (lv_at hl 2 rfl) ?_
      refine lv_if_eq (tgt := 126) hx hb dX7_together_119 (by decide) (fun hc => ?_) (fun hc => ?_)
      · have hf := ifp hc hf
        refine lv_iconst (v := 0) hx hb dX7_together_126 (by decide) ?_
        obtain rfl := Option.some.inj hf
        exact mretI hx hb hr hlocks hK hP hD hS rfl hQ dX7_together_127
      · have hf := ifn hc hf
        refine lv_iconst (v := 1) hx hb dX7_together_122 (by decide) ?_
        refine lv_goto (tgt := 127) hx hb dX7_together_123 (by decide) ?_
        obtain rfl := Option.some.inj hf
        exact mretI hx hb hr hlocks hK hP hD hS rfl hQ dX7_together_127
  have hf := ifn hk308 hf
  refine lv_lookup (off := 127) (tgt := 128) hx hb dX7_together_1 (by decide) (by have ihk42 : (x0 : Int32).toInt ≠ 42 := fun z => tI_ne hk42 (z.trans (by decide +kernel)); have ihk43 : (x0 : Int32).toInt ≠ 43 := fun z => tI_ne hk43 (z.trans (by decide +kernel)); have ihk45 : (x0 : Int32).toInt ≠ 45 := fun z => tI_ne hk45 (z.trans (by decide +kernel)); have ihk47 : (x0 : Int32).toInt ≠ 47 := fun z => tI_ne hk47 (z.trans (by decide +kernel)); have ihk60 : (x0 : Int32).toInt ≠ 60 := fun z => tI_ne hk60 (z.trans (by decide +kernel)); have ihk61 : (x0 : Int32).toInt ≠ 61 := fun z => tI_ne hk61 (z.trans (by decide +kernel)); have ihk308 : (x0 : Int32).toInt ≠ 308 := fun z => tI_ne hk308 (z.trans (by decide +kernel)); exact (lk_c ihk42 (lk_c ihk43 (lk_c ihk45 (lk_c ihk47 (lk_c ihk60 (lk_c ihk61 (lk_c ihk308 lk_n)))))))) (by decide) ?_
  refine lv_iload_n hx hb dX7_together_128 rfl (lv_at hl 1 rfl) ?_
  refine lv_if_ne (tgt := 136) hx hb dX7_together_129 (by decide) (fun hc => ?_) (fun hc => ?_)
  · have hf := ifn hc hf
    refine lv_iconst (v := 1) hx hb dX7_together_136 (by decide) ?_
    refine lv_goto (tgt := 141) hx hb dX7_together_137 (by decide) ?_
    obtain rfl := Option.some.inj hf
    exact mretI hx hb hr hlocks hK hP hD hS rfl hQ dX7_together_141
  · have hf := ifp hc hf
    refine lv_iload_n hx hb dX7_together_132 rfl (lv_at hl 2 rfl) ?_
    refine lv_if_eq (tgt := 140) hx hb dX7_together_133 (by decide) (fun hc => ?_) (fun hc => ?_)
    · have hf := ifp hc hf
      refine lv_iconst (v := 0) hx hb dX7_together_140 (by decide) ?_
      obtain rfl := Option.some.inj hf
      exact mretI hx hb hr hlocks hK hP hD hS rfl hQ dX7_together_141
    · have hf := ifn hc hf
      refine lv_iconst (v := 1) hx hb dX7_together_136 (by decide) ?_
      refine lv_goto (tgt := 141) hx hb dX7_together_137 (by decide) ?_
      obtain rfl := Option.some.inj hf
      exact mretI hx hb hr hlocks hK hP hD hS rfl hQ dX7_together_141
/-! TwinLamps$Rule.worth -/
noncomputable def f7_worth_L1  (v2 : Int32 × Int32 × St) : Option ((Int32 × Int32 × St) ⊕ ((St) ⊕ (St) ⊕ (St) ⊕ (Int32 × St))) :=
  if (v2.2.2.1 3) ≤ v2.2.1 then some (.inr (.inr (.inr (.inr (v2.1, v2.2.2))))) else if (600 : Int32) ≤ v2.2.1 then some (.inr (.inr (.inr (.inr (v2.1, v2.2.2))))) else (ldO 600 (v2.2.2.2 0) v2.2.1).bind fun q3 =>
  if (0 : Int32) ≤ q3 then (if v2.1 < 64 then (((if q3 < 0 then ((f7_valueOf v2.2.2 ((-q3) - 310)).bind fun q5 =>
  some q5)
  else some q3 : Option (Int32))).bind fun q4 =>
  (stS 64 v2.2.2 1 v2.1 q4).bind fun s6 =>
  some (.inl ((v2.1 + 1), (v2.2.1 + 1), s6)))
  else some (.inr (.inl v2.2.2)))
  else if ((-310) : Int32) < q3 then (if q3 = (-309) then (if (1 : Int32) ≤ v2.1 then ((ldO 64 (v2.2.2.2 1) (v2.1 - 1)).bind fun q11 =>
  ((if q11 = 0 then some true else some false : Option (Bool))).bind fun q12 =>
  (stS 64 v2.2.2 1 (v2.1 - 1) (zB q12)).bind fun s13 =>
  some (.inl (v2.1, (v2.2.1 + 1), s13)))
  else some (.inr (.inr (.inl v2.2.2))))
  else if (2 : Int32) ≤ v2.1 then ((ldO 64 (v2.2.2.2 1) ((v2.1 + (-1)) - 1)).bind fun q7 =>
  (ldO 64 (v2.2.2.2 1) (v2.1 + (-1))).bind fun q8 =>
  (f7_together (-q3) q7 q8).bind fun q9 =>
  (stS 64 v2.2.2 1 ((v2.1 + (-1)) - 1) q9).bind fun s10 =>
  some (.inl ((v2.1 + (-1)), (v2.2.1 + 1), s10)))
  else some (.inr (.inr (.inr (.inl v2.2.2)))))
  else if v2.1 < 64 then (((if q3 < 0 then ((f7_valueOf v2.2.2 ((-q3) - 310)).bind fun q15 =>
  some q15)
  else some q3 : Option (Int32))).bind fun q14 =>
  (stS 64 v2.2.2 1 v2.1 q14).bind fun s16 =>
  some (.inl ((v2.1 + 1), (v2.2.1 + 1), s16)))
  else some (.inr (.inl v2.2.2))
noncomputable def f7_worth (s_g : St) : Option (Int32 × St) :=
  (lpw (f7_worth_L1) (0, 0, s_g)).bind fun q1 =>
  match q1 with
  | .inl r1_0 => (some (0, r1_0))
  | .inr w17 => match w17 with
  | .inl r1_1 => (some (0, r1_1))
  | .inr w18 => match w18 with
  | .inl r1_2 => (some (0, r1_2))
  | .inr r1_3 => (if (1 : Int32) ≤ r1_3.1 then some (((r1_3.2.2 1) (0 : Int32).toNatClampNeg), r1_3.2) else some (0, r1_3.2))
set_option maxHeartbeats 4000000 in
set_option maxRecDepth 100000 in
theorem c7_worth (l : Launch) (D : va_G) (cs : xE) (o_g : Nat) (a_g : Nat → Nat) (s_g : St) (sz : Nat) (res : Int32 × St) (hf : f7_worth s_g = some res) : Met l yX7_worth (Cond.code yX7_worth cX7_worth 4 (some .int) :: WG) { frames := 1, cells := 0, slots := 0, locals := 22 } (va_Pc [.ref o_g] (mP D cs (List.flatten [w7 cs o_g a_g s_g]) sz)) (qI D cs res.1 (List.flatten [w7 cs o_g a_g res.2]) (va_A (List.flatten [w7 cs o_g a_g s_g]) sz)) 0 0 (va_A (List.flatten [w7 cs o_g a_g s_g]) sz) := by
  refine mgo (Qc := qI D cs res.1 (List.flatten [w7 cs o_g a_g res.2])) (cc := cX7_worth) (maxL := 4) (ret := (some .int)) (by decide) rfl (Nat.le_of_ble_eq_true rfl) ?_
  intro p e s m below meth c ls A R Q args H hR hQ hx hb hml hr hlocks hown hts hP hK hD hA hS hG hl
  have hown : s.vm.findClass RX7 = some m.cls := hown
  have hl : lv_has ls 4 [(0, .ref o_g)] := hl
  have hW : ∀ w ∈ WG, w.before args s = true := fun w h => hts w (List.mem_cons_of_mem _ h)
  have htX7 : ∀ w ∈ u_ws RX7 TX7 4, w.before args s = true := fun w h => hW w (inW_X7 w h)
  unfold f7_worth at hf
  refine lv_iconst (v := 0) hx hb dX7_worth_0 (by decide) ?_
  refine lv_istore_n (lv' := [(1, .int 0), (0, .ref o_g)]) hx hb dX7_worth_1 rfl hl (by decide) rfl (fun ls hl => ?_)
  refine lv_iconst (v := 0) hx hb dX7_worth_2 (by decide) ?_
  refine lv_istore_n (lv' := [(2, .int 0), (1, .int 0), (0, .ref o_g)]) hx hb dX7_worth_3 rfl hl (by decide) rfl (fun ls hl => ?_)
  obtain ⟨q1, hq1, hf⟩ := bnd hf
  obtain ⟨n1, hq1⟩ := lpw_ex hq1
  have Jq1_0 : ∀ rr1_0 : St, q1 = (.inl rr1_0) → ∀ (H : Heap) (locs : List Loc) (ls : Array Slot), va_P D vwCl (List.flatten [w7 cs o_g a_g rr1_0]) H → va_D A (List.flatten [w7 cs o_g a_g rr1_0]) → va_S A s.heap H locs → lv_has ls 4 [] → W p l e R s m args below meth c H locs 0 0 Q (F0 m 48 ls []) := by
    intro r1_0 eq1 H locs ls hP hD hS hl
    subst eq1
    try dsimp only at hf
    refine lv_iconst (v := 0) hx hb dX7_worth_48 (by decide) ?_
    obtain rfl := Option.some.inj hf
    exact mretI hx hb hr hlocks hK hP hD hS rfl hQ dX7_worth_49
  have Jq1_1 : ∀ rr1_1 : St, q1 = (.inr (.inl rr1_1)) → ∀ (H : Heap) (locs : List Loc) (ls : Array Slot), va_P D vwCl (List.flatten [w7 cs o_g a_g rr1_1]) H → va_D A (List.flatten [w7 cs o_g a_g rr1_1]) → va_S A s.heap H locs → lv_has ls 4 [] → W p l e R s m args below meth c H locs 0 0 Q (F0 m 92 ls []) := by
    intro r1_1 eq1 H locs ls hP hD hS hl
    subst eq1
    try dsimp only at hf
    refine lv_iconst (v := 0) hx hb dX7_worth_92 (by decide) ?_
    obtain rfl := Option.some.inj hf
    exact mretI hx hb hr hlocks hK hP hD hS rfl hQ dX7_worth_93
  have Jq1_2 : ∀ rr1_2 : St, q1 = (.inr (.inr (.inl rr1_2))) → ∀ (H : Heap) (locs : List Loc) (ls : Array Slot), va_P D vwCl (List.flatten [w7 cs o_g a_g rr1_2]) H → va_D A (List.flatten [w7 cs o_g a_g rr1_2]) → va_S A s.heap H locs → lv_has ls 4 [] → W p l e R s m args below meth c H locs 0 0 Q (F0 m 126 ls []) := by
    intro r1_2 eq1 H locs ls hP hD hS hl
    subst eq1
    try dsimp only at hf
    refine lv_iconst (v := 0) hx hb dX7_worth_126 (by decide) ?_
    obtain rfl := Option.some.inj hf
    exact mretI hx hb hr hlocks hK hP hD hS rfl hQ dX7_worth_127
  have Jq1_3 : ∀ rr1_3 : Int32 × St, q1 = (.inr (.inr (.inr rr1_3))) → ∀ (H : Heap) (locs : List Loc) (ls : Array Slot), va_P D vwCl (List.flatten [w7 cs o_g a_g rr1_3.2]) H → va_D A (List.flatten [w7 cs o_g a_g rr1_3.2]) → va_S A s.heap H locs → lv_has ls 4 [(0, .ref o_g), (1, .int rr1_3.1)] → W p l e R s m args below meth c H locs 0 0 Q (F0 m 164 ls []) := by
    intro r1_3 eq1 H locs ls hP hD hS hl
    subst eq1
    try dsimp only at hf
    refine lv_iload_n hx hb dX7_worth_164 rfl (lv_at hl 1 rfl) ?_
    refine lv_iconst (v := 1) hx hb dX7_worth_165 (by decide) ?_
    refine lv_icmp_ge (tgt := 173) hx hb dX7_worth_166 (by decide) (fun hc => ?_) (fun hc => ?_)
    · have hf := ifp hc hf
      refine lv_aload_n hx hb dX7_worth_173 rfl (lv_at hl 0 rfl) ?_
      refine gfB (i0 := 0) (own := RX7) (T := TX7) (k := 1) (v := .ref (a_g 1)) hx hb htX7 hown hK hP rfl e7 rfl (by decide) (hW _ wd214) rfl dX7_worth_174 ?_
      refine lv_iconst (v := 0) hx hb dX7_worth_177 (by decide) ?_
      refine aldB (i0 := 0) hx hb hK hP rfl a7_1 (vpc (by decide +kernel)) dX7_worth_178 ?_
      obtain rfl := Option.some.inj hf
      exact mretI hx hb hr hlocks hK hP hD hS rfl hQ dX7_worth_179
    · have hf := ifn hc hf
      refine lv_iconst (v := 0) hx hb dX7_worth_169 (by decide) ?_
      refine lv_goto (tgt := 179) hx hb dX7_worth_170 (by decide) ?_
      obtain rfl := Option.some.inj hf
      exact mretI hx hb hr hlocks hK hP hD hS rfl hQ dX7_worth_179
  clear hf
  have L1 : ∀ n1, ∀ v2 : Int32 × Int32 × St, lp n1 (f7_worth_L1) v2 = some q1 → ∀ (H : Heap) (locs : List Loc) (ls : Array Slot), va_P D vwCl (List.flatten [w7 cs o_g a_g v2.2.2]) H → va_D A (List.flatten [w7 cs o_g a_g v2.2.2]) → va_S A s.heap H locs → lv_has ls 4 [(0, .ref o_g), (1, .int v2.1), (2, .int v2.2.1)] → W p l e R s m args below meth c H locs 0 0 Q (F0 m 4 ls []) := by
    intro n1
    induction n1 with
    | zero => intro v2 hn; cases hn
    | succ n1 ih1 =>
      intro v2 hn1 H locs ls hP hD hS hl
      obtain ⟨y1, hf, hn1⟩ := lp_succ hn1
      unfold f7_worth_L1 at hf
      refine lv_iload_n hx hb dX7_worth_4 rfl (lv_at hl 2 rfl) ?_
      refine lv_aload_n hx hb dX7_worth_5 rfl (lv_at hl 0 rfl) ?_
      refine gfB (i0 := 0) (own := RX7) (T := TX7) (k := 3) (v := .int (v2.2.2.1 3)) hx hb htX7 hown hK hP rfl e7 rfl (by decide) (hW _ wd216) rfl dX7_worth_6 ?_
      refine lv_icmp_ge (tgt := 164) hx hb dX7_worth_9 (by decide) (fun hc => ?_) (fun hc => ?_)
      · have hf := ifp hc hf
        cases hf
        exact Jq1_3 _ (Option.some.inj hn1).symm _ _ _ hP hD hS (lv_sub hl [0, 1] rfl)
      · have hf := ifn hc hf
        refine lv_iload_n hx hb dX7_worth_12 rfl (lv_at hl 2 rfl) ?_
        refine lv_aload_n hx hb dX7_worth_13 rfl (lv_at hl 0 rfl) ?_
        refine gfB (i0 := 0) (own := RX7) (T := TX7) (k := 0) (v := .ref (a_g 0)) hx hb htX7 hown hK hP rfl e7 rfl (by decide) (hW _ wd213) rfl dX7_worth_14 ?_
        refine alnB (v := 600) (i0 := 0) 0 hx hb hK hP rfl a7_0 rfl (by decide +kernel) dX7_worth_17 ?_
        refine lv_icmp_ge (tgt := 164) hx hb dX7_worth_18 (by decide) (fun hc => ?_) (fun hc => ?_)
        · have hf := ifp hc hf
          cases hf
          exact Jq1_3 _ (Option.some.inj hn1).symm _ _ _ hP hD hS (lv_sub hl [0, 1] rfl)
        · have hf := ifn hc hf
          refine lv_aload_n hx hb dX7_worth_21 rfl (lv_at hl 0 rfl) ?_
          refine gfB (i0 := 0) (own := RX7) (T := TX7) (k := 0) (v := .ref (a_g 0)) hx hb htX7 hown hK hP rfl e7 rfl (by decide) (hW _ wd213) rfl dX7_worth_22 ?_
          refine lv_iload_n hx hb dX7_worth_25 rfl (lv_at hl 2 rfl) ?_
          obtain ⟨q3, eq3, hf⟩ := bnd hf
          obtain ⟨gq3, eq3⟩ := ldO_e eq3
          refine aldB (i0 := 0) hx hb hK hP rfl a7_0 gq3 dX7_worth_26 ?_
          refine lv_nm eq3 ?_
          refine lv_istore_n (lv' := [(3, .int q3), (0, .ref o_g), (1, .int v2.1), (2, .int v2.2.1)]) hx hb dX7_worth_27 rfl hl (by decide) rfl (fun ls hl => ?_)
          refine lv_iload_n hx hb dX7_worth_28 rfl (lv_at hl 0 rfl) ?_
          refine lv_if_ge (tgt := 39) hx hb dX7_worth_29 (by decide) (fun hc => ?_) (fun hc => ?_)
          · have hf := ifp hc hf
            refine lv_iload_n hx hb dX7_worth_39 rfl (lv_at hl 2 rfl) ?_
            refine lv_aload_n hx hb dX7_worth_40 rfl (lv_at hl 1 rfl) ?_
            refine gfB (i0 := 0) (own := RX7) (T := TX7) (k := 1) (v := .ref (a_g 1)) hx hb htX7 hown hK hP rfl e7 rfl (by decide) (hW _ wd214) rfl dX7_worth_41 ?_
            refine alnB (v := 64) (i0 := 0) 0 hx hb hK hP rfl a7_1 rfl (by decide +kernel) dX7_worth_44 ?_
            refine lv_icmp_lt (tgt := 50) hx hb dX7_worth_45 (by decide) (fun hc => ?_) (fun hc => ?_)
            · have hf := ifp hc hf
              refine lv_aload_n hx hb dX7_worth_50 rfl (lv_at hl 1 rfl) ?_
              refine gfB (i0 := 0) (own := RX7) (T := TX7) (k := 1) (v := .ref (a_g 1)) hx hb htX7 hown hK hP rfl e7 rfl (by decide) (hW _ wd214) rfl dX7_worth_51 ?_
              refine lv_iload_n hx hb dX7_worth_54 rfl (lv_at hl 2 rfl) ?_
              refine lv_iload_n hx hb dX7_worth_55 rfl (lv_at hl 0 rfl) ?_
              obtain ⟨q4, hq4, hf⟩ := bnd hf
              have Jq4 : ∀ r4 : Int32, q4 = r4 → ∀ (H : Heap) (locs : List Loc) (ls : Array Slot), va_P D vwCl (List.flatten [w7 cs o_g a_g v2.2.2]) H → va_D A (List.flatten [w7 cs o_g a_g v2.2.2]) → va_S A s.heap H locs → lv_has ls 4 [(0, .ref o_g), (1, .int v2.1), (2, .int v2.2.1)] → W p l e R s m args below meth c H locs 0 0 Q (F0 m 73 ls [.int r4, .int v2.1, .ref (a_g 1)]) := by
                intro r4 eq4 H locs ls hP hD hS hl
                subst eq4
                obtain ⟨s6, es6, hf⟩ := bnd hf
                obtain ⟨gs6, es6⟩ := stS_e es6
                refine astB (i0 := 0) (Bn := [w7 cs o_g a_g s6]) hx hb hK hP hD hS rfl a7_1 gs6 rfl dX7_worth_73 (by rw [← es6]; exact v7_1) rfl (fun H locs hP hD hS => ?_)
                refine lv_iinc (v := (v2.1 + 1)) (lv' := [(1, .int (v2.1 + 1)), (0, .ref o_g), (2, .int v2.2.1)]) hx hb dX7_worth_74 hl (k := 1) rfl rfl (by decide) rfl (fun ls hl => ?_)
                refine lv_goto (tgt := 158) hx hb dX7_worth_77 (by decide) ?_
                refine lv_iinc (v := (v2.2.1 + 1)) (lv' := [(2, .int (v2.2.1 + 1)), (1, .int (v2.1 + 1)), (0, .ref o_g)]) hx hb dX7_worth_158 hl (k := 2) rfl rfl (by decide) rfl (fun ls hl => ?_)
                refine lv_goto (tgt := 4) hx hb dX7_worth_161 (by decide) ?_
                cases hf
                exact ih1 _ hn1 _ _ _ hP hD hS (lv_sub hl [2, 1, 0] rfl)
              clear hf
              have hf := hq4
              refine lv_if_lt (tgt := 63) hx hb dX7_worth_56 (by decide) (fun hc => ?_) (fun hc => ?_)
              · have hf := ifp hc hf
                refine lv_aload_n hx hb dX7_worth_63 rfl (lv_at hl 1 rfl) ?_
                refine lv_iload_n hx hb dX7_worth_64 rfl (lv_at hl 0 rfl) ?_
                refine lv_ineg hx hb dX7_worth_65 ?_
                refine lv_sipush (v := 310) hx hb dX7_worth_66 (by decide) ?_
                refine lv_isub hx hb dX7_worth_69 ?_
                obtain ⟨q5, eq5, hf⟩ := bnd hf
                refine mcVi (v := q5) (rest := [.int v2.1, .ref (a_g 1)]) (Bn := [w7 cs o_g a_g v2.2.2]) (isR := []) (isC := [0]) (i0 := 0) ⟨hx, hb, hml, hown, hts⟩ hK hP hD hS hA hG (c7_valueOf l D cs o_g a_g v2.2.2 H.size ((-q3) - 310) _ eq5) (cwV 1 hts (gV wd544 wd546 wd3 wd108 wd547) rfl rfl rfl (by decide +kernel) ⟨by rw [hR]; exact Nat.le_of_ble_eq_true rfl, by rw [hR]; exact Nat.le_of_ble_eq_true rfl⟩) 1 (by decide) rfl rfl rfl rfl rfl rfl rfl e7 rfl rfl rfl hl.1 rfl (Nat.le_of_ble_eq_true rfl) ⟨Nat.zero_le _, Nat.zero_le _⟩ dX7_worth_70 (fun H locs hP hD hS => ?_)
                exact Jq4 _ (Option.some.inj hf).symm _ _ _ hP hD hS (lv_sub hl [1, 2, 3] rfl)
              · have hf := ifn hc hf
                refine lv_iload_n hx hb dX7_worth_59 rfl (lv_at hl 0 rfl) ?_
                refine lv_goto (tgt := 73) hx hb dX7_worth_60 (by decide) ?_
                exact Jq4 _ (Option.some.inj hf).symm _ _ _ hP hD hS (lv_sub hl [1, 2, 3] rfl)
            · have hf := ifn hc hf
              cases hf
              exact Jq1_0 _ (Option.some.inj hn1).symm _ _ _ hP hD hS (lv_sub hl [] rfl)
          · have hf := ifn hc hf
            refine lv_iload_n hx hb dX7_worth_32 rfl (lv_at hl 0 rfl) ?_
            refine lv_sipush (v := (-310)) hx hb dX7_worth_33 (by decide) ?_
            refine lv_icmp_gt (tgt := 80) hx hb dX7_worth_36 (by decide) (fun hc => ?_) (fun hc => ?_)
            · have hf := ifp hc hf
              refine lv_iload_n hx hb dX7_worth_80 rfl (lv_at hl 0 rfl) ?_
              refine lv_sipush (v := (-309)) hx hb dX7_worth_81 (by decide) ?_
              refine lv_icmp_ne (tgt := 121) hx hb dX7_worth_84 (by decide) (fun hc => ?_) (fun hc => ?_)
              · have hf := ifn hc hf
                refine lv_iload_n hx hb dX7_worth_121 rfl (lv_at hl 2 rfl) ?_
                refine lv_iconst (v := 2) hx hb dX7_worth_122 (by decide) ?_
                refine lv_icmp_ge (tgt := 128) hx hb dX7_worth_123 (by decide) (fun hc => ?_) (fun hc => ?_)
                · have hf := ifp hc hf
                  refine lv_iinc (v := (v2.1 + (-1))) (lv' := [(1, .int (v2.1 + (-1))), (3, .int q3), (0, .ref o_g), (2, .int v2.2.1)]) hx hb dX7_worth_128 hl (k := 2) rfl rfl (by decide) rfl (fun ls hl => ?_)
                  refine lv_aload_n hx hb dX7_worth_131 rfl (lv_at hl 2 rfl) ?_
                  refine gfB (i0 := 0) (own := RX7) (T := TX7) (k := 1) (v := .ref (a_g 1)) hx hb htX7 hown hK hP rfl e7 rfl (by decide) (hW _ wd214) rfl dX7_worth_132 ?_
                  refine lv_iload_n hx hb dX7_worth_135 rfl (lv_at hl 0 rfl) ?_
                  refine lv_iconst (v := 1) hx hb dX7_worth_136 (by decide) ?_
                  refine lv_isub hx hb dX7_worth_137 ?_
                  refine lv_iload_n hx hb dX7_worth_138 rfl (lv_at hl 1 rfl) ?_
                  refine lv_ineg hx hb dX7_worth_139 ?_
                  refine lv_aload_n hx hb dX7_worth_140 rfl (lv_at hl 2 rfl) ?_
                  refine gfB (i0 := 0) (own := RX7) (T := TX7) (k := 1) (v := .ref (a_g 1)) hx hb htX7 hown hK hP rfl e7 rfl (by decide) (hW _ wd214) rfl dX7_worth_141 ?_
                  refine lv_iload_n hx hb dX7_worth_144 rfl (lv_at hl 0 rfl) ?_
                  refine lv_iconst (v := 1) hx hb dX7_worth_145 (by decide) ?_
                  refine lv_isub hx hb dX7_worth_146 ?_
                  obtain ⟨q7, eq7, hf⟩ := bnd hf
                  obtain ⟨gq7, eq7⟩ := ldO_e eq7
                  refine aldB (i0 := 0) hx hb hK hP rfl a7_1 gq7 dX7_worth_147 ?_
                  refine lv_nm eq7 ?_
                  refine lv_aload_n hx hb dX7_worth_148 rfl (lv_at hl 2 rfl) ?_
                  refine gfB (i0 := 0) (own := RX7) (T := TX7) (k := 1) (v := .ref (a_g 1)) hx hb htX7 hown hK hP rfl e7 rfl (by decide) (hW _ wd214) rfl dX7_worth_149 ?_
                  refine lv_iload_n hx hb dX7_worth_152 rfl (lv_at hl 0 rfl) ?_
                  obtain ⟨q8, eq8, hf⟩ := bnd hf
                  obtain ⟨gq8, eq8⟩ := ldO_e eq8
                  refine aldB (i0 := 0) hx hb hK hP rfl a7_1 gq8 dX7_worth_153 ?_
                  refine lv_nm eq8 ?_
                  obtain ⟨q9, eq9, hf⟩ := bnd hf
                  refine mcSi0 (v := q9) (As := [.int (-q3), .int q7, .int q8]) (rest := [.int ((v2.1 + (-1)) - 1), .ref (a_g 1)]) ⟨hx, hb, hml, hown, hts⟩ hK hP hS hA hG (c7_together l D cs H.size (-q3) q7 q8 _ eq9) (va_cwS 3 hts (gS wd548 wd549 wd108 wd550) rfl rfl rfl (by decide +kernel) ⟨by rw [hR]; exact Nat.le_of_ble_eq_true rfl, by rw [hR]; exact Nat.le_of_ble_eq_true rfl⟩) rfl hl.1 rfl (Nat.le_of_ble_eq_true rfl) ⟨Nat.zero_le _, Nat.zero_le _⟩ dX7_worth_154 (fun H locs hP hS => ?_)
                  obtain ⟨s10, es10, hf⟩ := bnd hf
                  obtain ⟨gs10, es10⟩ := stS_e es10
                  refine astB (i0 := 0) (Bn := [w7 cs o_g a_g s10]) hx hb hK hP hD hS rfl a7_1 gs10 rfl dX7_worth_157 (by rw [← es10]; exact v7_1) rfl (fun H locs hP hD hS => ?_)
                  refine lv_iinc (v := (v2.2.1 + 1)) (lv' := [(2, .int (v2.2.1 + 1)), (1, .int (v2.1 + (-1))), (3, .int q3), (0, .ref o_g)]) hx hb dX7_worth_158 hl (k := 3) rfl rfl (by decide) rfl (fun ls hl => ?_)
                  refine lv_goto (tgt := 4) hx hb dX7_worth_161 (by decide) ?_
                  cases hf
                  exact ih1 _ hn1 _ _ _ hP hD hS (lv_sub hl [3, 1, 0] rfl)
                · have hf := ifn hc hf
                  cases hf
                  exact Jq1_2 _ (Option.some.inj hn1).symm _ _ _ hP hD hS (lv_sub hl [] rfl)
              · have hf := ifp hc hf
                refine lv_iload_n hx hb dX7_worth_87 rfl (lv_at hl 2 rfl) ?_
                refine lv_iconst (v := 1) hx hb dX7_worth_88 (by decide) ?_
                refine lv_icmp_ge (tgt := 94) hx hb dX7_worth_89 (by decide) (fun hc => ?_) (fun hc => ?_)
                · have hf := ifp hc hf
                  refine lv_aload_n hx hb dX7_worth_94 rfl (lv_at hl 1 rfl) ?_
                  refine gfB (i0 := 0) (own := RX7) (T := TX7) (k := 1) (v := .ref (a_g 1)) hx hb htX7 hown hK hP rfl e7 rfl (by decide) (hW _ wd214) rfl dX7_worth_95 ?_
                  refine lv_iload_n hx hb dX7_worth_98 rfl (lv_at hl 2 rfl) ?_
                  refine lv_iconst (v := 1) hx hb dX7_worth_99 (by decide) ?_
                  refine lv_isub hx hb dX7_worth_100 ?_
                  refine lv_aload_n hx hb dX7_worth_101 rfl (lv_at hl 1 rfl) ?_
                  refine gfB (i0 := 0) (own := RX7) (T := TX7) (k := 1) (v := .ref (a_g 1)) hx hb htX7 hown hK hP rfl e7 rfl (by decide) (hW _ wd214) rfl dX7_worth_102 ?_
                  refine lv_iload_n hx hb dX7_worth_105 rfl (lv_at hl 2 rfl) ?_
                  refine lv_iconst (v := 1) hx hb dX7_worth_106 (by decide) ?_
                  refine lv_isub hx hb dX7_worth_107 ?_
                  obtain ⟨q11, eq11, hf⟩ := bnd hf
                  obtain ⟨gq11, eq11⟩ := ldO_e eq11
                  refine aldB (i0 := 0) hx hb hK hP rfl a7_1 gq11 dX7_worth_108 ?_
                  refine lv_nm eq11 ?_
                  obtain ⟨q12, hq12, hf⟩ := bnd hf
                  have Jq12 : ∀ r12 : Bool, q12 = r12 → ∀ (H : Heap) (locs : List Loc) (ls : Array Slot), va_P D vwCl (List.flatten [w7 cs o_g a_g v2.2.2]) H → va_D A (List.flatten [w7 cs o_g a_g v2.2.2]) → va_S A s.heap H locs → lv_has ls 4 [(0, .ref o_g), (1, .int v2.1), (2, .int v2.2.1)] → W p l e R s m args below meth c H locs 0 0 Q (F0 m 117 ls [.int (zB r12), .int (v2.1 - 1), .ref (a_g 1)]) := by
                    intro r12 eq12 H locs ls hP hD hS hl
                    subst eq12
                    obtain ⟨s13, es13, hf⟩ := bnd hf
                    obtain ⟨gs13, es13⟩ := stS_e es13
                    refine astB (i0 := 0) (Bn := [w7 cs o_g a_g s13]) hx hb hK hP hD hS rfl a7_1 gs13 rfl dX7_worth_117 (by rw [← es13]; exact v7_1) rfl (fun H locs hP hD hS => ?_)
                    refine lv_goto (tgt := 158) hx hb dX7_worth_118 (by decide) ?_
                    refine lv_iinc (v := (v2.2.1 + 1)) (lv' := [(2, .int (v2.2.1 + 1)), (0, .ref o_g), (1, .int v2.1)]) hx hb dX7_worth_158 hl (k := 2) rfl rfl (by decide) rfl (fun ls hl => ?_)
                    refine lv_goto (tgt := 4) hx hb dX7_worth_161 (by decide) ?_
                    cases hf
                    exact ih1 _ hn1 _ _ _ hP hD hS (lv_sub hl [1, 2, 0] rfl)
                  clear hf
                  have hf := hq12
                  refine lv_if_ne (tgt := 116) hx hb dX7_worth_109 (by decide) (fun hc => ?_) (fun hc => ?_)
                  · have hf := ifn hc hf
                    refine lv_iconst (v := 0) hx hb dX7_worth_116 (by decide) ?_
                    exact Jq12 _ (Option.some.inj hf).symm _ _ _ hP hD hS (lv_sub hl [1, 2, 3] rfl)
                  · have hf := ifp hc hf
                    refine lv_iconst (v := 1) hx hb dX7_worth_112 (by decide) ?_
                    refine lv_goto (tgt := 117) hx hb dX7_worth_113 (by decide) ?_
                    exact Jq12 _ (Option.some.inj hf).symm _ _ _ hP hD hS (lv_sub hl [1, 2, 3] rfl)
                · have hf := ifn hc hf
                  cases hf
                  exact Jq1_1 _ (Option.some.inj hn1).symm _ _ _ hP hD hS (lv_sub hl [] rfl)
            · have hf := ifn hc hf
              refine lv_iload_n hx hb dX7_worth_39 rfl (lv_at hl 2 rfl) ?_
              refine lv_aload_n hx hb dX7_worth_40 rfl (lv_at hl 1 rfl) ?_
              refine gfB (i0 := 0) (own := RX7) (T := TX7) (k := 1) (v := .ref (a_g 1)) hx hb htX7 hown hK hP rfl e7 rfl (by decide) (hW _ wd214) rfl dX7_worth_41 ?_
              refine alnB (v := 64) (i0 := 0) 0 hx hb hK hP rfl a7_1 rfl (by decide +kernel) dX7_worth_44 ?_
              refine lv_icmp_lt (tgt := 50) hx hb dX7_worth_45 (by decide) (fun hc => ?_) (fun hc => ?_)
              · have hf := ifp hc hf
                refine lv_aload_n hx hb dX7_worth_50 rfl (lv_at hl 1 rfl) ?_
                refine gfB (i0 := 0) (own := RX7) (T := TX7) (k := 1) (v := .ref (a_g 1)) hx hb htX7 hown hK hP rfl e7 rfl (by decide) (hW _ wd214) rfl dX7_worth_51 ?_
                refine lv_iload_n hx hb dX7_worth_54 rfl (lv_at hl 2 rfl) ?_
                refine lv_iload_n hx hb dX7_worth_55 rfl (lv_at hl 0 rfl) ?_
                obtain ⟨q14, hq14, hf⟩ := bnd hf
                have Jq14 : ∀ r14 : Int32, q14 = r14 → ∀ (H : Heap) (locs : List Loc) (ls : Array Slot), va_P D vwCl (List.flatten [w7 cs o_g a_g v2.2.2]) H → va_D A (List.flatten [w7 cs o_g a_g v2.2.2]) → va_S A s.heap H locs → lv_has ls 4 [(0, .ref o_g), (1, .int v2.1), (2, .int v2.2.1)] → W p l e R s m args below meth c H locs 0 0 Q (F0 m 73 ls [.int r14, .int v2.1, .ref (a_g 1)]) := by
                  intro r14 eq14 H locs ls hP hD hS hl
                  subst eq14
                  obtain ⟨s16, es16, hf⟩ := bnd hf
                  obtain ⟨gs16, es16⟩ := stS_e es16
                  refine astB (i0 := 0) (Bn := [w7 cs o_g a_g s16]) hx hb hK hP hD hS rfl a7_1 gs16 rfl dX7_worth_73 (by rw [← es16]; exact v7_1) rfl (fun H locs hP hD hS => ?_)
                  refine lv_iinc (v := (v2.1 + 1)) (lv' := [(1, .int (v2.1 + 1)), (0, .ref o_g), (2, .int v2.2.1)]) hx hb dX7_worth_74 hl (k := 1) rfl rfl (by decide) rfl (fun ls hl => ?_)
                  refine lv_goto (tgt := 158) hx hb dX7_worth_77 (by decide) ?_
                  refine lv_iinc (v := (v2.2.1 + 1)) (lv' := [(2, .int (v2.2.1 + 1)), (1, .int (v2.1 + 1)), (0, .ref o_g)]) hx hb dX7_worth_158 hl (k := 2) rfl rfl (by decide) rfl (fun ls hl => ?_)
                  refine lv_goto (tgt := 4) hx hb dX7_worth_161 (by decide) ?_
                  cases hf
                  exact ih1 _ hn1 _ _ _ hP hD hS (lv_sub hl [2, 1, 0] rfl)
                clear hf
                have hf := hq14
                refine lv_if_lt (tgt := 63) hx hb dX7_worth_56 (by decide) (fun hc => ?_) (fun hc => ?_)
                · have hf := ifp hc hf
                  refine lv_aload_n hx hb dX7_worth_63 rfl (lv_at hl 1 rfl) ?_
                  refine lv_iload_n hx hb dX7_worth_64 rfl (lv_at hl 0 rfl) ?_
                  refine lv_ineg hx hb dX7_worth_65 ?_
                  refine lv_sipush (v := 310) hx hb dX7_worth_66 (by decide) ?_
                  refine lv_isub hx hb dX7_worth_69 ?_
                  obtain ⟨q15, eq15, hf⟩ := bnd hf
                  refine mcVi (v := q15) (rest := [.int v2.1, .ref (a_g 1)]) (Bn := [w7 cs o_g a_g v2.2.2]) (isR := []) (isC := [0]) (i0 := 0) ⟨hx, hb, hml, hown, hts⟩ hK hP hD hS hA hG (c7_valueOf l D cs o_g a_g v2.2.2 H.size ((-q3) - 310) _ eq15) (cwV 1 hts (gV wd544 wd546 wd3 wd108 wd547) rfl rfl rfl (by decide +kernel) ⟨by rw [hR]; exact Nat.le_of_ble_eq_true rfl, by rw [hR]; exact Nat.le_of_ble_eq_true rfl⟩) 1 (by decide) rfl rfl rfl rfl rfl rfl rfl e7 rfl rfl rfl hl.1 rfl (Nat.le_of_ble_eq_true rfl) ⟨Nat.zero_le _, Nat.zero_le _⟩ dX7_worth_70 (fun H locs hP hD hS => ?_)
                  exact Jq14 _ (Option.some.inj hf).symm _ _ _ hP hD hS (lv_sub hl [1, 2, 3] rfl)
                · have hf := ifn hc hf
                  refine lv_iload_n hx hb dX7_worth_59 rfl (lv_at hl 0 rfl) ?_
                  refine lv_goto (tgt := 73) hx hb dX7_worth_60 (by decide) ?_
                  exact Jq14 _ (Option.some.inj hf).symm _ _ _ hP hD hS (lv_sub hl [1, 2, 3] rfl)
              · have hf := ifn hc hf
                cases hf
                exact Jq1_0 _ (Option.some.inj hn1).symm _ _ _ hP hD hS (lv_sub hl [] rfl)
  exact L1 _ _ hq1 _ _ _ hP hD hS (lv_sub hl [2, 1, 0] rfl)
/-! TwinLamps$Rule.copyFrom -/
noncomputable def f7_copyFrom (s_g : St) (s_g2 : St) : Option (St) :=
  (some (sS s_g 3 (s_g2.1 3))).bind fun s1 =>
  (some (sA s1 0 (va_cpy (s_g2.2 0) (s1.2 0) 0 0 600))).bind fun s2 =>
  some s2
set_option maxHeartbeats 4000000 in
set_option maxRecDepth 100000 in
theorem c7_copyFrom (l : Launch) (D : va_G) (cs : xE) (o_g : Nat) (a_g : Nat → Nat) (o_g2 : Nat) (a_g2 : Nat → Nat) (s_g : St) (s_g2 : St) (sz : Nat) (res : St) (hf : f7_copyFrom s_g s_g2 = some res) : Met l yX7_copyFrom (Cond.code yX7_copyFrom cX7_copyFrom 2 none :: WG) { frames := 1, cells := 0, slots := 0, locals := 26 } (va_Pc [.ref o_g, .ref o_g2] (mP D cs (List.flatten [w7 cs o_g a_g s_g, w7 cs o_g2 a_g2 s_g2]) sz)) (qV D cs (List.flatten [w7 cs o_g a_g res, w7 cs o_g2 a_g2 s_g2]) (va_A (List.flatten [w7 cs o_g a_g s_g, w7 cs o_g2 a_g2 s_g2]) sz)) 0 0 (va_A (List.flatten [w7 cs o_g a_g s_g, w7 cs o_g2 a_g2 s_g2]) sz) := by
  refine mgo (Qc := qV D cs (List.flatten [w7 cs o_g a_g res, w7 cs o_g2 a_g2 s_g2])) (cc := cX7_copyFrom) (maxL := 2) (ret := none) (by decide) rfl (Nat.le_of_ble_eq_true rfl) ?_
  intro p e s m below meth c ls A R Q args H hR hQ hx hb hml hr hlocks hown hts hP hK hD hA hS hG hl
  have hown : s.vm.findClass RX7 = some m.cls := hown
  have hl : lv_has ls 2 [(0, .ref o_g), (1, .ref o_g2)] := hl
  have hW : ∀ w ∈ WG, w.before args s = true := fun w h => hts w (List.mem_cons_of_mem _ h)
  have htX7 : ∀ w ∈ u_ws RX7 TX7 4, w.before args s = true := fun w h => hW w (inW_X7 w h)
  unfold f7_copyFrom at hf
  refine lv_aload_n hx hb dX7_copyFrom_0 rfl (lv_at hl 0 rfl) ?_
  refine lv_aload_n hx hb dX7_copyFrom_1 rfl (lv_at hl 1 rfl) ?_
  refine gfB (i0 := 1) (own := RX7) (T := TX7) (k := 3) (v := .int (s_g2.1 3)) hx hb htX7 hown hK hP rfl e7 rfl (by decide) (hW _ wd216) rfl dX7_copyFrom_2 ?_
  obtain ⟨s1, es1, hf⟩ := bnd hf
  replace es1 := Option.some.inj es1
  refine pfB (i0 := 0) (own := RX7) (T := TX7) (k := 3) (Bn := [w7 cs o_g a_g s1, w7 cs o_g2 a_g2 s_g2]) tyX7 tyX7_ok nmX7 hx hb htX7 hown hK hP hD hS rfl e7 rfl (by decide) (hW _ wd216) rfl rfl rfl (Nat.le_of_ble_eq_true rfl) dX7_copyFrom_5 (by rw [← es1]; exact u7_3) rfl (fun H locs hP hD hS => ?_)
  refine lv_aload_n hx hb dX7_copyFrom_8 rfl (lv_at hl 1 rfl) ?_
  refine gfB (i0 := 1) (own := RX7) (T := TX7) (k := 0) (v := .ref (a_g2 0)) hx hb htX7 hown hK hP rfl e7 rfl (by decide) (hW _ wd213) rfl dX7_copyFrom_9 ?_
  refine lv_iconst (v := 0) hx hb dX7_copyFrom_12 (by decide) ?_
  refine lv_aload_n hx hb dX7_copyFrom_13 rfl (lv_at hl 0 rfl) ?_
  refine gfB (i0 := 0) (own := RX7) (T := TX7) (k := 0) (v := .ref (a_g 0)) hx hb htX7 hown hK hP rfl e7 rfl (by decide) (hW _ wd213) rfl dX7_copyFrom_14 ?_
  refine lv_iconst (v := 0) hx hb dX7_copyFrom_17 (by decide) ?_
  refine lv_sipush (v := 600) hx hb dX7_copyFrom_18 (by decide) ?_
  obtain ⟨s2, es2, hf⟩ := bnd hf
  replace es2 := Option.some.inj es2
  refine cpyB (i1 := 1) (i0 := 0) (Bn := [w7 cs o_g a_g s2, w7 cs o_g2 a_g2 s_g2]) (n := 600) (g' := va_cpy (s_g2.2 0) (s1.2 0) 0 0 600) hx hb (hml.trans hl.1.symm) (own := RX7) (index := 25) hown (hW _ wd868) (hW _ wd505) (hW _ wd504) (hW _ wd125) hK hP hD hS rfl a7_0 rfl a7_0 (by decide +kernel) (by decide +kernel) (by decide +kernel) (by rw [hR]; exact Nat.le_of_ble_eq_true rfl) (by rw [hR]; exact Nat.le_of_ble_eq_true rfl) rfl dX7_copyFrom_21 (by rw [← es2]; exact v7_0) rfl (fun H locs hP hD hS => ?_)
  obtain rfl := Option.some.inj hf
  exact mretV hx hb hr hlocks hK hP hD hS hQ dX7_copyFrom_24
/-! TwinLamps$Rule.wantsLit -/
noncomputable def f7_wantsLit (s_g : St) (s_t : St) (x2 : Int32) (x3 : Int32) : Option (Bool × St) :=
  (ldO 12 (s_t.2 8) x2).bind fun q1 =>
  (f7_isTold s_g).bind fun q2 =>
  if (zB q2) = 0 then ((ldO 8 (s_t.2 5) q1).bind fun q16 =>
  (f9_isAwake s_t q1 x3).bind fun q17 =>
  (f7_isCustomary q16 q17 x3).bind fun q18 =>
  some (q18, s_g))
  else (some (sA s_g 2 (upd (s_g.2 2) (0 : Int32).toNatClampNeg x3))).bind fun s3 =>
  (ldO 8 (s_t.2 5) q1).bind fun q4 =>
  (some (sA s3 2 (upd (s3.2 2) (1 : Int32).toNatClampNeg q4))).bind fun s5 =>
  (ldO 12 (s_t.2 9) x2).bind fun q6 =>
  (some (sA s5 2 (upd (s5.2 2) (2 : Int32).toNatClampNeg q6))).bind fun s7 =>
  (some (sA s7 2 (upd (s7.2 2) (3 : Int32).toNatClampNeg q1))).bind fun s8 =>
  (f9_lampsOf s_t q1).bind fun q9 =>
  (fJ6_bitCount q9).bind fun q10 =>
  (some (sA s8 2 (upd (s8.2 2) (4 : Int32).toNatClampNeg q10))).bind fun s11 =>
  (f9_isAwake s_t q1 x3).bind fun q12 =>
  ((if (zB q12) = 0 then some false else some true : Option (Bool))).bind fun q13 =>
  (some (sA s11 2 (upd (s11.2 2) (5 : Int32).toNatClampNeg (zB q13)))).bind fun s14 =>
  (f7_worth s14).bind fun q15 =>
  if q15.1 ≤ 0 then some (false, q15.2) else some (true, q15.2)
set_option maxHeartbeats 4000000 in
set_option maxRecDepth 100000 in
theorem c7_wantsLit (l : Launch) (D : va_G) (cs : xE) (o_g : Nat) (a_g : Nat → Nat) (o_t : Nat) (a_t : Nat → Nat) (s_g : St) (s_t : St) (sz : Nat) (x2 : Int32) (x3 : Int32) (res : Bool × St) (hf : f7_wantsLit s_g s_t x2 x3 = some res) : Met l yX7_wantsLit (Cond.code yX7_wantsLit cX7_wantsLit 5 (some .boolean) :: WG) { frames := 2, cells := 0, slots := 0, locals := 45 } (va_Pc [.ref o_g, .ref o_t, .int x2, .int x3] (mP D cs (List.flatten [w7 cs o_g a_g s_g, w9 cs o_t a_t s_t]) sz)) (qI D cs (zB res.1) (List.flatten [w7 cs o_g a_g res.2, w9 cs o_t a_t s_t]) (va_A (List.flatten [w7 cs o_g a_g s_g, w9 cs o_t a_t s_t]) sz)) 0 0 (va_A (List.flatten [w7 cs o_g a_g s_g, w9 cs o_t a_t s_t]) sz) := by
  refine mgo (Qc := qI D cs (zB res.1) (List.flatten [w7 cs o_g a_g res.2, w9 cs o_t a_t s_t])) (cc := cX7_wantsLit) (maxL := 5) (ret := (some .boolean)) (by decide) rfl (Nat.le_of_ble_eq_true rfl) ?_
  intro p e s m below meth c ls A R Q args H hR hQ hx hb hml hr hlocks hown hts hP hK hD hA hS hG hl
  have hown : s.vm.findClass RX7 = some m.cls := hown
  have hl : lv_has ls 5 [(0, .ref o_g), (1, .ref o_t), (2, .int x2), (3, .int x3)] := hl
  have hW : ∀ w ∈ WG, w.before args s = true := fun w h => hts w (List.mem_cons_of_mem _ h)
  have htX7 : ∀ w ∈ u_ws RX7 TX7 4, w.before args s = true := fun w h => hW w (inW_X7 w h)
  have htX9 : ∀ w ∈ u_ws RX9 TX9 11, w.before args s = true := fun w h => hW w (inW_X9 w h)
  unfold f7_wantsLit at hf
  refine lv_aload_n hx hb dX7_wantsLit_0 rfl (lv_at hl 1 rfl) ?_
  refine gfB (i0 := 1) (own := RX7) (T := TX9) (k := 8) (v := .ref (a_t 8)) hx hb htX9 hown hK hP rfl e9 rfl (by decide) (hW _ wd173) rfl dX7_wantsLit_1 ?_
  refine lv_iload_n hx hb dX7_wantsLit_4 rfl (lv_at hl 2 rfl) ?_
  obtain ⟨q1, eq1, hf⟩ := bnd hf
  obtain ⟨gq1, eq1⟩ := ldO_e eq1
  refine aldB (i0 := 1) hx hb hK hP rfl a9_8 gq1 dX7_wantsLit_5 ?_
  refine lv_nm eq1 ?_
  refine lv_istore (lv' := [(4, .int q1), (0, .ref o_g), (1, .ref o_t), (2, .int x2), (3, .int x3)]) hx hb dX7_wantsLit_6 hl (by decide) rfl (fun ls hl => ?_)
  refine lv_aload_n hx hb dX7_wantsLit_8 rfl (lv_at hl 1 rfl) ?_
  obtain ⟨q2, eq2, hf⟩ := bnd hf
  refine mcVi (v := (zB q2)) (rest := []) (Bn := [w7 cs o_g a_g s_g, w9 cs o_t a_t s_t]) (isR := [1]) (isC := [0]) (i0 := 0) ⟨hx, hb, hml, hown, hts⟩ hK hP hD hS hA hG (c7_isTold l D cs o_g a_g s_g H.size _ eq2) (cwV 0 hts (gV wd522 wd523 wd524 wd108 wd525) rfl rfl rfl (by decide +kernel) ⟨by rw [hR]; exact Nat.le_of_ble_eq_true rfl, by rw [hR]; exact Nat.le_of_ble_eq_true rfl⟩) 2 (by decide) rfl rfl rfl rfl rfl rfl rfl e7 rfl rfl rfl hl.1 rfl (Nat.le_of_ble_eq_true rfl) ⟨Nat.zero_le _, Nat.zero_le _⟩ dX7_wantsLit_9 (fun H locs hP hD hS => ?_)
  refine lv_if_ne (tgt := 34) hx hb dX7_wantsLit_12 (by decide) (fun hc => ?_) (fun hc => ?_)
  · have hf := ifn hc hf
    refine lv_aload_n hx hb dX7_wantsLit_34 rfl (lv_at hl 1 rfl) ?_
    refine gfB (i0 := 0) (own := RX7) (T := TX7) (k := 2) (v := .ref (a_g 2)) hx hb htX7 hown hK hP rfl e7 rfl (by decide) (hW _ wd215) rfl dX7_wantsLit_35 ?_
    refine lv_iconst (v := 0) hx hb dX7_wantsLit_38 (by decide) ?_
    refine lv_iload_n hx hb dX7_wantsLit_39 rfl (lv_at hl 4 rfl) ?_
    obtain ⟨s3, es3, hf⟩ := bnd hf
    replace es3 := Option.some.inj es3
    refine astB (i0 := 0) (Bn := [w7 cs o_g a_g s3, w9 cs o_t a_t s_t]) hx hb hK hP hD hS rfl a7_2 (vpc (by decide +kernel)) rfl dX7_wantsLit_40 (by rw [← es3]; exact v7_2) rfl (fun H locs hP hD hS => ?_)
    refine lv_aload_n hx hb dX7_wantsLit_41 rfl (lv_at hl 1 rfl) ?_
    refine gfB (i0 := 0) (own := RX7) (T := TX7) (k := 2) (v := .ref (a_g 2)) hx hb htX7 hown hK hP rfl e7 rfl (by decide) (hW _ wd215) rfl dX7_wantsLit_42 ?_
    refine lv_iconst (v := 1) hx hb dX7_wantsLit_45 (by decide) ?_
    refine lv_aload_n hx hb dX7_wantsLit_46 rfl (lv_at hl 2 rfl) ?_
    refine gfB (i0 := 1) (own := RX7) (T := TX9) (k := 5) (v := .ref (a_t 5)) hx hb htX9 hown hK hP rfl e9 rfl (by decide) (hW _ wd166) rfl dX7_wantsLit_47 ?_
    refine lv_iload hx hb dX7_wantsLit_50 (lv_at hl 0 rfl) ?_
    obtain ⟨q4, eq4, hf⟩ := bnd hf
    obtain ⟨gq4, eq4⟩ := ldO_e eq4
    refine aldB (i0 := 1) hx hb hK hP rfl a9_5 gq4 dX7_wantsLit_52 ?_
    refine lv_nm eq4 ?_
    obtain ⟨s5, es5, hf⟩ := bnd hf
    replace es5 := Option.some.inj es5
    refine astB (i0 := 0) (Bn := [w7 cs o_g a_g s5, w9 cs o_t a_t s_t]) hx hb hK hP hD hS rfl a7_2 (vpc (by decide +kernel)) rfl dX7_wantsLit_53 (by rw [← es5]; exact v7_2) rfl (fun H locs hP hD hS => ?_)
    refine lv_aload_n hx hb dX7_wantsLit_54 rfl (lv_at hl 1 rfl) ?_
    refine gfB (i0 := 0) (own := RX7) (T := TX7) (k := 2) (v := .ref (a_g 2)) hx hb htX7 hown hK hP rfl e7 rfl (by decide) (hW _ wd215) rfl dX7_wantsLit_55 ?_
    refine lv_iconst (v := 2) hx hb dX7_wantsLit_58 (by decide) ?_
    refine lv_aload_n hx hb dX7_wantsLit_59 rfl (lv_at hl 2 rfl) ?_
    refine gfB (i0 := 1) (own := RX7) (T := TX9) (k := 9) (v := .ref (a_t 9)) hx hb htX9 hown hK hP rfl e9 rfl (by decide) (hW _ wd178) rfl dX7_wantsLit_60 ?_
    refine lv_iload_n hx hb dX7_wantsLit_63 rfl (lv_at hl 3 rfl) ?_
    obtain ⟨q6, eq6, hf⟩ := bnd hf
    obtain ⟨gq6, eq6⟩ := ldO_e eq6
    refine aldB (i0 := 1) hx hb hK hP rfl a9_9 gq6 dX7_wantsLit_64 ?_
    refine lv_nm eq6 ?_
    obtain ⟨s7, es7, hf⟩ := bnd hf
    replace es7 := Option.some.inj es7
    refine astB (i0 := 0) (Bn := [w7 cs o_g a_g s7, w9 cs o_t a_t s_t]) hx hb hK hP hD hS rfl a7_2 (vpc (by decide +kernel)) rfl dX7_wantsLit_65 (by rw [← es7]; exact v7_2) rfl (fun H locs hP hD hS => ?_)
    refine lv_aload_n hx hb dX7_wantsLit_66 rfl (lv_at hl 1 rfl) ?_
    refine gfB (i0 := 0) (own := RX7) (T := TX7) (k := 2) (v := .ref (a_g 2)) hx hb htX7 hown hK hP rfl e7 rfl (by decide) (hW _ wd215) rfl dX7_wantsLit_67 ?_
    refine lv_iconst (v := 3) hx hb dX7_wantsLit_70 (by decide) ?_
    refine lv_iload hx hb dX7_wantsLit_71 (lv_at hl 0 rfl) ?_
    obtain ⟨s8, es8, hf⟩ := bnd hf
    replace es8 := Option.some.inj es8
    refine astB (i0 := 0) (Bn := [w7 cs o_g a_g s8, w9 cs o_t a_t s_t]) hx hb hK hP hD hS rfl a7_2 (vpc (by decide +kernel)) rfl dX7_wantsLit_73 (by rw [← es8]; exact v7_2) rfl (fun H locs hP hD hS => ?_)
    refine lv_aload_n hx hb dX7_wantsLit_74 rfl (lv_at hl 1 rfl) ?_
    refine gfB (i0 := 0) (own := RX7) (T := TX7) (k := 2) (v := .ref (a_g 2)) hx hb htX7 hown hK hP rfl e7 rfl (by decide) (hW _ wd215) rfl dX7_wantsLit_75 ?_
    refine lv_iconst (v := 4) hx hb dX7_wantsLit_78 (by decide) ?_
    refine lv_aload_n hx hb dX7_wantsLit_79 rfl (lv_at hl 2 rfl) ?_
    refine lv_iload hx hb dX7_wantsLit_80 (lv_at hl 0 rfl) ?_
    obtain ⟨q9, eq9, hf⟩ := bnd hf
    refine mcVi (v := q9) (rest := [.int 4, .ref (a_g 2)]) (Bn := [w7 cs o_g a_g s8, w9 cs o_t a_t s_t]) (isR := [0]) (isC := [1]) (i0 := 1) ⟨hx, hb, hml, hown, hts⟩ hK hP hD hS hA hG (c9_lampsOf l D cs o_t a_t s_t H.size q1 _ eq9) (cwV 1 hts (gV wd530 wd531 wd532 wd107 wd533) rfl rfl rfl (by decide +kernel) ⟨by rw [hR]; exact Nat.le_of_ble_eq_true rfl, by rw [hR]; exact Nat.le_of_ble_eq_true rfl⟩) 2 (by decide) rfl rfl rfl rfl rfl rfl rfl e9 rfl rfl rfl hl.1 rfl (Nat.le_of_ble_eq_true rfl) ⟨Nat.zero_le _, Nat.zero_le _⟩ dX7_wantsLit_82 (fun H locs hP hD hS => ?_)
    obtain ⟨q10, eq10, hf⟩ := bnd hf
    refine mcSi0 (v := q10) (As := [.int q9]) (rest := [.int 4, .ref (a_g 2)]) ⟨hx, hb, hml, hown, hts⟩ hK hP hS hA hG (cJ6_bitCount l D cs H.size q9 _ eq10) (va_cwS 1 hts (gS wd534 wd535 wd127 wd536) rfl rfl rfl (by decide +kernel) ⟨by rw [hR]; exact Nat.le_of_ble_eq_true rfl, by rw [hR]; exact Nat.le_of_ble_eq_true rfl⟩) rfl hl.1 rfl (Nat.le_of_ble_eq_true rfl) ⟨Nat.zero_le _, Nat.zero_le _⟩ dX7_wantsLit_85 (fun H locs hP hS => ?_)
    obtain ⟨s11, es11, hf⟩ := bnd hf
    replace es11 := Option.some.inj es11
    refine astB (i0 := 0) (Bn := [w7 cs o_g a_g s11, w9 cs o_t a_t s_t]) hx hb hK hP hD hS rfl a7_2 (vpc (by decide +kernel)) rfl dX7_wantsLit_88 (by rw [← es11]; exact v7_2) rfl (fun H locs hP hD hS => ?_)
    refine lv_aload_n hx hb dX7_wantsLit_89 rfl (lv_at hl 1 rfl) ?_
    refine gfB (i0 := 0) (own := RX7) (T := TX7) (k := 2) (v := .ref (a_g 2)) hx hb htX7 hown hK hP rfl e7 rfl (by decide) (hW _ wd215) rfl dX7_wantsLit_90 ?_
    refine lv_iconst (v := 5) hx hb dX7_wantsLit_93 (by decide) ?_
    refine lv_aload_n hx hb dX7_wantsLit_94 rfl (lv_at hl 2 rfl) ?_
    refine lv_iload hx hb dX7_wantsLit_95 (lv_at hl 0 rfl) ?_
    refine lv_iload_n hx hb dX7_wantsLit_97 rfl (lv_at hl 4 rfl) ?_
    obtain ⟨q12, eq12, hf⟩ := bnd hf
    refine mcVi (v := (zB q12)) (rest := [.int 5, .ref (a_g 2)]) (Bn := [w7 cs o_g a_g s11, w9 cs o_t a_t s_t]) (isR := [0]) (isC := [1]) (i0 := 1) ⟨hx, hb, hml, hown, hts⟩ hK hP hD hS hA hG (c9_isAwake l D cs o_t a_t s_t H.size q1 x3 _ eq12) (cwV 2 hts (gV wd526 wd515 wd516 wd107 wd517) rfl rfl rfl (by decide +kernel) ⟨by rw [hR]; exact Nat.le_of_ble_eq_true rfl, by rw [hR]; exact Nat.le_of_ble_eq_true rfl⟩) 2 (by decide) rfl rfl rfl rfl rfl rfl rfl e9 rfl rfl rfl hl.1 rfl (Nat.le_of_ble_eq_true rfl) ⟨Nat.zero_le _, Nat.zero_le _⟩ dX7_wantsLit_98 (fun H locs hP hD hS => ?_)
    obtain ⟨q13, hq13, hf⟩ := bnd hf
    have Jq13 : ∀ r13 : Bool, q13 = r13 → ∀ (H : Heap) (locs : List Loc) (ls : Array Slot), va_P D vwCl (List.flatten [w7 cs o_g a_g s11, w9 cs o_t a_t s_t]) H → va_D A (List.flatten [w7 cs o_g a_g s11, w9 cs o_t a_t s_t]) → va_S A s.heap H locs → lv_has ls 5 [(0, .ref o_g)] → W p l e R s m args below meth c H locs 0 0 Q (F0 m 109 ls [.int (zB r13), .int 5, .ref (a_g 2)]) := by
      intro r13 eq13 H locs ls hP hD hS hl
      subst eq13
      obtain ⟨s14, es14, hf⟩ := bnd hf
      replace es14 := Option.some.inj es14
      refine astB (i0 := 0) (Bn := [w7 cs o_g a_g s14, w9 cs o_t a_t s_t]) hx hb hK hP hD hS rfl a7_2 (vpc (by decide +kernel)) rfl dX7_wantsLit_109 (by rw [← es14]; exact v7_2) rfl (fun H locs hP hD hS => ?_)
      refine lv_aload_n hx hb dX7_wantsLit_110 rfl (lv_at hl 0 rfl) ?_
      obtain ⟨q15, eq15, hf⟩ := bnd hf
      refine mcVi (v := q15.1) (rest := []) (Bn := [w7 cs o_g a_g q15.2, w9 cs o_t a_t s_t]) (isR := [1]) (isC := [0]) (i0 := 0) ⟨hx, hb, hml, hown, hts⟩ hK hP hD hS hA hG (c7_worth l D cs o_g a_g s14 H.size _ eq15) (cwV 0 hts (gV wd540 wd542 wd2 wd108 wd543) rfl rfl rfl (by decide +kernel) ⟨by rw [hR]; exact Nat.le_of_ble_eq_true rfl, by rw [hR]; exact Nat.le_of_ble_eq_true rfl⟩) 2 (by decide) rfl rfl rfl rfl rfl rfl rfl e7 rfl rfl rfl hl.1 rfl (Nat.le_of_ble_eq_true rfl) ⟨Nat.zero_le _, Nat.zero_le _⟩ dX7_wantsLit_111 (fun H locs hP hD hS => ?_)
      refine lv_if_le (tgt := 121) hx hb dX7_wantsLit_114 (by decide) (fun hc => ?_) (fun hc => ?_)
      · have hf := ifp hc hf
        refine lv_iconst (v := 0) hx hb dX7_wantsLit_121 (by decide) ?_
        obtain rfl := Option.some.inj hf
        exact mretZ hx hb hr hlocks hK hP hD hS rfl hQ dX7_wantsLit_122
      · have hf := ifn hc hf
        refine lv_iconst (v := 1) hx hb dX7_wantsLit_117 (by decide) ?_
        refine lv_goto (tgt := 122) hx hb dX7_wantsLit_118 (by decide) ?_
        obtain rfl := Option.some.inj hf
        exact mretZ hx hb hr hlocks hK hP hD hS rfl hQ dX7_wantsLit_122
    clear hf
    have hf := hq13
    refine lv_if_eq (tgt := 108) hx hb dX7_wantsLit_101 (by decide) (fun hc => ?_) (fun hc => ?_)
    · have hf := ifp hc hf
      refine lv_iconst (v := 0) hx hb dX7_wantsLit_108 (by decide) ?_
      exact Jq13 _ (Option.some.inj hf).symm _ _ _ hP hD hS (lv_sub hl [1] rfl)
    · have hf := ifn hc hf
      refine lv_iconst (v := 1) hx hb dX7_wantsLit_104 (by decide) ?_
      refine lv_goto (tgt := 109) hx hb dX7_wantsLit_105 (by decide) ?_
      exact Jq13 _ (Option.some.inj hf).symm _ _ _ hP hD hS (lv_sub hl [1] rfl)
  · have hf := ifp hc hf
    refine lv_aload_n hx hb dX7_wantsLit_15 rfl (lv_at hl 2 rfl) ?_
    refine gfB (i0 := 1) (own := RX7) (T := TX9) (k := 5) (v := .ref (a_t 5)) hx hb htX9 hown hK hP rfl e9 rfl (by decide) (hW _ wd166) rfl dX7_wantsLit_16 ?_
    refine lv_iload hx hb dX7_wantsLit_19 (lv_at hl 0 rfl) ?_
    obtain ⟨q16, eq16, hf⟩ := bnd hf
    obtain ⟨gq16, eq16⟩ := ldO_e eq16
    refine aldB (i0 := 1) hx hb hK hP rfl a9_5 gq16 dX7_wantsLit_21 ?_
    refine lv_nm eq16 ?_
    refine lv_aload_n hx hb dX7_wantsLit_22 rfl (lv_at hl 2 rfl) ?_
    refine lv_iload hx hb dX7_wantsLit_23 (lv_at hl 0 rfl) ?_
    refine lv_iload_n hx hb dX7_wantsLit_25 rfl (lv_at hl 4 rfl) ?_
    obtain ⟨q17, eq17, hf⟩ := bnd hf
    refine mcVi (v := (zB q17)) (rest := [.int q16]) (Bn := [w7 cs o_g a_g s_g, w9 cs o_t a_t s_t]) (isR := [0]) (isC := [1]) (i0 := 1) ⟨hx, hb, hml, hown, hts⟩ hK hP hD hS hA hG (c9_isAwake l D cs o_t a_t s_t H.size q1 x3 _ eq17) (cwV 2 hts (gV wd526 wd515 wd516 wd107 wd517) rfl rfl rfl (by decide +kernel) ⟨by rw [hR]; exact Nat.le_of_ble_eq_true rfl, by rw [hR]; exact Nat.le_of_ble_eq_true rfl⟩) 2 (by decide) rfl rfl rfl rfl rfl rfl rfl e9 rfl rfl rfl hl.1 rfl (Nat.le_of_ble_eq_true rfl) ⟨Nat.zero_le _, Nat.zero_le _⟩ dX7_wantsLit_26 (fun H locs hP hD hS => ?_)
    refine lv_iload_n hx hb dX7_wantsLit_29 rfl (lv_at hl 4 rfl) ?_
    obtain ⟨q18, eq18, hf⟩ := bnd hf
    refine mcSi0 (v := (zB q18)) (As := [.int q16, .int (zB q17), .int x3]) (rest := []) ⟨hx, hb, hml, hown, hts⟩ hK hP hS hA hG (c7_isCustomary l D cs H.size q16 q17 x3 _ eq18) (va_cwS 3 hts (gS wd527 wd528 wd108 wd529) rfl rfl rfl (by decide +kernel) ⟨by rw [hR]; exact Nat.le_of_ble_eq_true rfl, by rw [hR]; exact Nat.le_of_ble_eq_true rfl⟩) rfl hl.1 rfl (Nat.le_of_ble_eq_true rfl) ⟨Nat.zero_le _, Nat.zero_le _⟩ dX7_wantsLit_30 (fun H locs hP hS => ?_)
    obtain rfl := Option.some.inj hf
    exact mretZ hx hb hr hlocks hK hP hD hS rfl hQ dX7_wantsLit_33
/-! TwinLamps$Rule.hoursWanted -/
noncomputable def f7_hoursWanted_L1 (s_t : St) (x2 : Int32) (v2 : Int32 × Int32 × St) : Option ((Int32 × Int32 × St) ⊕ (Int32 × St)) :=
  if (24 : Int32) ≤ v2.2.1 then some (.inr (v2.1, v2.2.2)) else (f7_wantsLit v2.2.2 s_t x2 v2.2.1).bind fun q3 =>
  ((if (zB q3.1) = 0 then some v2.1 else some (v2.1 ||| ((1 : Int32) <<< (v2.2.1 &&& 31))) : Option (Int32))).bind fun q4 =>
  some (.inl (q4, (v2.2.1 + 1), q3.2))
noncomputable def f7_hoursWanted (s_g : St) (s_t : St) (x2 : Int32) : Option (Int32 × St) :=
  (lpw (f7_hoursWanted_L1 s_t x2) (0, 0, s_g)).bind fun q1 =>
  some (q1.1, q1.2)
set_option maxHeartbeats 4000000 in
set_option maxRecDepth 100000 in
theorem c7_hoursWanted (l : Launch) (D : va_G) (cs : xE) (o_g : Nat) (a_g : Nat → Nat) (o_t : Nat) (a_t : Nat → Nat) (s_g : St) (s_t : St) (sz : Nat) (x2 : Int32) (res : Int32 × St) (hf : f7_hoursWanted s_g s_t x2 = some res) : Met l yX7_hoursWanted (Cond.code yX7_hoursWanted cX7_hoursWanted 5 (some .int) :: WG) { frames := 3, cells := 0, slots := 0, locals := 69 } (va_Pc [.ref o_g, .ref o_t, .int x2] (mP D cs (List.flatten [w7 cs o_g a_g s_g, w9 cs o_t a_t s_t]) sz)) (qI D cs res.1 (List.flatten [w7 cs o_g a_g res.2, w9 cs o_t a_t s_t]) (va_A (List.flatten [w7 cs o_g a_g s_g, w9 cs o_t a_t s_t]) sz)) 0 0 (va_A (List.flatten [w7 cs o_g a_g s_g, w9 cs o_t a_t s_t]) sz) := by
  refine mgo (Qc := qI D cs res.1 (List.flatten [w7 cs o_g a_g res.2, w9 cs o_t a_t s_t])) (cc := cX7_hoursWanted) (maxL := 5) (ret := (some .int)) (by decide) rfl (Nat.le_of_ble_eq_true rfl) ?_
  intro p e s m below meth c ls A R Q args H hR hQ hx hb hml hr hlocks hown hts hP hK hD hA hS hG hl
  have hown : s.vm.findClass RX7 = some m.cls := hown
  have hl : lv_has ls 5 [(0, .ref o_g), (1, .ref o_t), (2, .int x2)] := hl
  have hW : ∀ w ∈ WG, w.before args s = true := fun w h => hts w (List.mem_cons_of_mem _ h)
  unfold f7_hoursWanted at hf
  refine lv_iconst (v := 0) hx hb dX7_hoursWanted_0 (by decide) ?_
  refine lv_istore_n (lv' := [(3, .int 0), (0, .ref o_g), (1, .ref o_t), (2, .int x2)]) hx hb dX7_hoursWanted_1 rfl hl (by decide) rfl (fun ls hl => ?_)
  refine lv_iconst (v := 0) hx hb dX7_hoursWanted_2 (by decide) ?_
  refine lv_istore (lv' := [(4, .int 0), (3, .int 0), (0, .ref o_g), (1, .ref o_t), (2, .int x2)]) hx hb dX7_hoursWanted_3 hl (by decide) rfl (fun ls hl => ?_)
  obtain ⟨q1, hq1, hf⟩ := bnd hf
  obtain ⟨n1, hq1⟩ := lpw_ex hq1
  have Jq1_0 : ∀ rr1_0 : Int32 × St, q1 = rr1_0 → ∀ (H : Heap) (locs : List Loc) (ls : Array Slot), va_P D vwCl (List.flatten [w7 cs o_g a_g rr1_0.2, w9 cs o_t a_t s_t]) H → va_D A (List.flatten [w7 cs o_g a_g rr1_0.2, w9 cs o_t a_t s_t]) → va_S A s.heap H locs → lv_has ls 5 [(3, .int rr1_0.1)] → W p l e R s m args below meth c H locs 0 0 Q (F0 m 36 ls []) := by
    intro rr1_0 eq1 H locs ls hP hD hS hl
    subst eq1
    refine lv_iload_n hx hb dX7_hoursWanted_36 rfl (lv_at hl 0 rfl) ?_
    obtain rfl := Option.some.inj hf
    exact mretI hx hb hr hlocks hK hP hD hS rfl hQ dX7_hoursWanted_37
  clear hf
  have L1 : ∀ n1, ∀ v2 : Int32 × Int32 × St, lp n1 (f7_hoursWanted_L1 s_t x2) v2 = some q1 → ∀ (H : Heap) (locs : List Loc) (ls : Array Slot), va_P D vwCl (List.flatten [w7 cs o_g a_g v2.2.2, w9 cs o_t a_t s_t]) H → va_D A (List.flatten [w7 cs o_g a_g v2.2.2, w9 cs o_t a_t s_t]) → va_S A s.heap H locs → lv_has ls 5 [(0, .ref o_g), (1, .ref o_t), (2, .int x2), (3, .int v2.1), (4, .int v2.2.1)] → W p l e R s m args below meth c H locs 0 0 Q (F0 m 5 ls []) := by
    intro n1
    induction n1 with
    | zero => intro v2 hn; cases hn
    | succ n1 ih1 =>
      intro v2 hn1 H locs ls hP hD hS hl
      obtain ⟨y1, hf, hn1⟩ := lp_succ hn1
      unfold f7_hoursWanted_L1 at hf
      refine lv_iload hx hb dX7_hoursWanted_5 (lv_at hl 4 rfl) ?_
      refine lv_bipush (v := 24) hx hb dX7_hoursWanted_7 (by decide) ?_
      refine lv_icmp_ge (tgt := 36) hx hb dX7_hoursWanted_9 (by decide) (fun hc => ?_) (fun hc => ?_)
      · have hf := ifp hc hf
        cases hf
        exact Jq1_0 _ (Option.some.inj hn1).symm _ _ _ hP hD hS (lv_sub hl [3] rfl)
      · have hf := ifn hc hf
        refine lv_aload_n hx hb dX7_hoursWanted_12 rfl (lv_at hl 0 rfl) ?_
        refine lv_aload_n hx hb dX7_hoursWanted_13 rfl (lv_at hl 1 rfl) ?_
        refine lv_iload_n hx hb dX7_hoursWanted_14 rfl (lv_at hl 2 rfl) ?_
        refine lv_iload hx hb dX7_hoursWanted_15 (lv_at hl 4 rfl) ?_
        obtain ⟨q3, eq3, hf⟩ := bnd hf
        refine mcVi (v := (zB q3.1)) (rest := []) (Bn := [w7 cs o_g a_g q3.2, w9 cs o_t a_t s_t]) (isR := []) (isC := [0, 1]) (i0 := 0) ⟨hx, hb, hml, hown, hts⟩ hK hP hD hS hA hG (c7_wantsLit l D cs o_g a_g o_t a_t v2.2.2 s_t H.size x2 v2.2.1 _ eq3) (cwV 3 hts (gV wd967 wd519 wd520 wd108 wd521) rfl rfl rfl (by decide +kernel) ⟨by rw [hR]; exact Nat.le_of_ble_eq_true rfl, by rw [hR]; exact Nat.le_of_ble_eq_true rfl⟩) 2 (by decide) rfl rfl rfl rfl rfl rfl rfl e7 rfl rfl rfl hl.1 rfl (Nat.le_of_ble_eq_true rfl) ⟨Nat.zero_le _, Nat.zero_le _⟩ dX7_hoursWanted_17 (fun H locs hP hD hS => ?_)
        obtain ⟨q4, hq4, hf⟩ := bnd hf
        have Jq4 : ∀ r4 : Int32, q4 = r4 → ∀ (H : Heap) (locs : List Loc) (ls : Array Slot), va_P D vwCl (List.flatten [w7 cs o_g a_g q3.2, w9 cs o_t a_t s_t]) H → va_D A (List.flatten [w7 cs o_g a_g q3.2, w9 cs o_t a_t s_t]) → va_S A s.heap H locs → lv_has ls 5 [(0, .ref o_g), (1, .ref o_t), (2, .int x2), (3, .int r4), (4, .int v2.2.1)] → W p l e R s m args below meth c H locs 0 0 Q (F0 m 30 ls []) := by
          intro r4 eq4 H locs ls hP hD hS hl
          subst eq4
          refine lv_iinc (v := (v2.2.1 + 1)) (lv' := [(4, .int (v2.2.1 + 1)), (0, .ref o_g), (1, .ref o_t), (2, .int x2), (3, .int q4)]) hx hb dX7_hoursWanted_30 hl (k := 4) rfl rfl (by decide) rfl (fun ls hl => ?_)
          refine lv_goto (tgt := 5) hx hb dX7_hoursWanted_33 (by decide) ?_
          cases hf
          exact ih1 _ hn1 _ _ _ hP hD hS (lv_sub hl [1, 2, 3, 4, 0] rfl)
        clear hf
        have hf := hq4
        refine lv_if_eq (tgt := 30) hx hb dX7_hoursWanted_20 (by decide) (fun hc => ?_) (fun hc => ?_)
        · have hf := ifp hc hf
          exact Jq4 _ (Option.some.inj hf).symm _ _ _ hP hD hS (lv_sub hl [0, 1, 2, 3, 4] rfl)
        · have hf := ifn hc hf
          refine lv_iload_n hx hb dX7_hoursWanted_23 rfl (lv_at hl 3 rfl) ?_
          refine lv_iconst (v := 1) hx hb dX7_hoursWanted_24 (by decide) ?_
          refine lv_iload hx hb dX7_hoursWanted_25 (lv_at hl 4 rfl) ?_
          refine lv_ishl hx hb dX7_hoursWanted_27 ?_
          refine lv_ior hx hb dX7_hoursWanted_28 ?_
          refine lv_istore_n (lv' := [(3, .int (v2.1 ||| ((1 : Int32) <<< (v2.2.1 &&& 31)))), (0, .ref o_g), (1, .ref o_t), (2, .int x2), (4, .int v2.2.1)]) hx hb dX7_hoursWanted_29 rfl hl (by decide) rfl (fun ls hl => ?_)
          exact Jq4 _ (Option.some.inj hf).symm _ _ _ hP hD hS (lv_sub hl [1, 2, 3, 0, 4] rfl)
  exact L1 _ _ hq1 _ _ _ hP hD hS (lv_sub hl [2, 3, 4, 1, 0] rfl)
/-! TwinLamps$Evening.burn -/
noncomputable def f2_burn_L1  (v2 : Int32 × Int32 × St) : Option ((Int32 × Int32 × St) ⊕ (Int32 × St)) :=
  if (v2.2.2.1 1) ≤ v2.2.1 then some (.inr (v2.1, v2.2.2)) else (f9_isLit v2.2.2 v2.2.1).bind fun q3 =>
  ((if (zB q3) = 0 then some (v2.1, v2.2.2) else (ldO 12 (v2.2.2.2 9) v2.2.1).bind fun q5 =>
  (stS 12 v2.2.2 9 v2.2.1 (q5 - 1)).bind fun s6 =>
  (ldO 12 (s6.2 9) v2.2.1).bind fun q7 =>
  if (0 : Int32) < q7 then some (v2.1, s6) else (f9_couple s6 v2.2.1).bind fun q8 =>
  some ((v2.1 ||| q8), s6) : Option (Int32 × St))).bind fun q4 =>
  some (.inl (q4.1, (v2.2.1 + 1), q4.2))
noncomputable def f2_burn (s_t : St) : Option (St) :=
  (lpw (f2_burn_L1) (0, 0, s_t)).bind fun q1 =>
  (some (sS q1.2 3 ((q1.2.1 3) &&& (q1.1 ^^^ (-1))))).bind fun s9 =>
  some s9
set_option maxHeartbeats 4000000 in
set_option maxRecDepth 100000 in
theorem c2_burn (l : Launch) (D : va_G) (cs : xE) (o_t : Nat) (a_t : Nat → Nat) (s_t : St) (sz : Nat) (res : St) (hf : f2_burn s_t = some res) : Met l yX2_burn (Cond.code yX2_burn cX2_burn 3 none :: WG) { frames := 1, cells := 0, slots := 0, locals := 22 } (va_Pc [.ref o_t] (mP D cs (List.flatten [w9 cs o_t a_t s_t]) sz)) (qV D cs (List.flatten [w9 cs o_t a_t res]) (va_A (List.flatten [w9 cs o_t a_t s_t]) sz)) 0 0 (va_A (List.flatten [w9 cs o_t a_t s_t]) sz) := by
  refine mgo (Qc := qV D cs (List.flatten [w9 cs o_t a_t res])) (cc := cX2_burn) (maxL := 3) (ret := none) (by decide) rfl (Nat.le_of_ble_eq_true rfl) ?_
  intro p e s m below meth c ls A R Q args H hR hQ hx hb hml hr hlocks hown hts hP hK hD hA hS hG hl
  have hown : s.vm.findClass RX2 = some m.cls := hown
  have hl : lv_has ls 3 [(0, .ref o_t)] := hl
  have hW : ∀ w ∈ WG, w.before args s = true := fun w h => hts w (List.mem_cons_of_mem _ h)
  have htX9 : ∀ w ∈ u_ws RX9 TX9 11, w.before args s = true := fun w h => hW w (inW_X9 w h)
  unfold f2_burn at hf
  refine lv_iconst (v := 0) hx hb dX2_burn_0 (by decide) ?_
  refine lv_istore_n (lv' := [(1, .int 0), (0, .ref o_t)]) hx hb dX2_burn_1 rfl hl (by decide) rfl (fun ls hl => ?_)
  refine lv_iconst (v := 0) hx hb dX2_burn_2 (by decide) ?_
  refine lv_istore_n (lv' := [(2, .int 0), (1, .int 0), (0, .ref o_t)]) hx hb dX2_burn_3 rfl hl (by decide) rfl (fun ls hl => ?_)
  obtain ⟨q1, hq1, hf⟩ := bnd hf
  obtain ⟨n1, hq1⟩ := lpw_ex hq1
  have Jq1_0 : ∀ rr1_0 : Int32 × St, q1 = rr1_0 → ∀ (H : Heap) (locs : List Loc) (ls : Array Slot), va_P D vwCl (List.flatten [w9 cs o_t a_t rr1_0.2]) H → va_D A (List.flatten [w9 cs o_t a_t rr1_0.2]) → va_S A s.heap H locs → lv_has ls 3 [(0, .ref o_t), (1, .int rr1_0.1)] → W p l e R s m args below meth c H locs 0 0 Q (F0 m 53 ls []) := by
    intro rr1_0 eq1 H locs ls hP hD hS hl
    subst eq1
    refine lv_aload_n hx hb dX2_burn_53 rfl (lv_at hl 0 rfl) ?_
    refine lv_dup hx hb dX2_burn_54 rfl ?_
    refine gfB (i0 := 0) (own := RX2) (T := TX9) (k := 3) (v := .int (q1.2.1 3)) hx hb htX9 hown hK hP rfl e9 rfl (by decide) (hW _ wd161) rfl dX2_burn_55 ?_
    refine lv_iload_n hx hb dX2_burn_58 rfl (lv_at hl 1 rfl) ?_
    refine lv_iconst (v := (-1)) hx hb dX2_burn_59 (by decide) ?_
    refine lv_ixor hx hb dX2_burn_60 ?_
    refine lv_iand hx hb dX2_burn_61 ?_
    obtain ⟨s9, es9, hf⟩ := bnd hf
    replace es9 := Option.some.inj es9
    refine pfB (i0 := 0) (own := RX2) (T := TX9) (k := 3) (Bn := [w9 cs o_t a_t s9]) tyX9 tyX9_ok nmX9 hx hb htX9 hown hK hP hD hS rfl e9 rfl (by decide) (hW _ wd161) rfl rfl rfl (Nat.le_of_ble_eq_true rfl) dX2_burn_62 (by rw [← es9]; exact u9_3) rfl (fun H locs hP hD hS => ?_)
    obtain rfl := Option.some.inj hf
    exact mretV hx hb hr hlocks hK hP hD hS hQ dX2_burn_65
  clear hf
  have L1 : ∀ n1, ∀ v2 : Int32 × Int32 × St, lp n1 (f2_burn_L1) v2 = some q1 → ∀ (H : Heap) (locs : List Loc) (ls : Array Slot), va_P D vwCl (List.flatten [w9 cs o_t a_t v2.2.2]) H → va_D A (List.flatten [w9 cs o_t a_t v2.2.2]) → va_S A s.heap H locs → lv_has ls 3 [(0, .ref o_t), (1, .int v2.1), (2, .int v2.2.1)] → W p l e R s m args below meth c H locs 0 0 Q (F0 m 4 ls []) := by
    intro n1
    induction n1 with
    | zero => intro v2 hn; cases hn
    | succ n1 ih1 =>
      intro v2 hn1 H locs ls hP hD hS hl
      obtain ⟨y1, hf, hn1⟩ := lp_succ hn1
      unfold f2_burn_L1 at hf
      refine lv_iload_n hx hb dX2_burn_4 rfl (lv_at hl 2 rfl) ?_
      refine lv_aload_n hx hb dX2_burn_5 rfl (lv_at hl 0 rfl) ?_
      refine gfB (i0 := 0) (own := RX2) (T := TX9) (k := 1) (v := .int (v2.2.2.1 1)) hx hb htX9 hown hK hP rfl e9 rfl (by decide) (hW _ wd153) rfl dX2_burn_6 ?_
      refine lv_icmp_ge (tgt := 53) hx hb dX2_burn_9 (by decide) (fun hc => ?_) (fun hc => ?_)
      · have hf := ifp hc hf
        cases hf
        exact Jq1_0 _ (Option.some.inj hn1).symm _ _ _ hP hD hS (lv_sub hl [0, 1] rfl)
      · have hf := ifn hc hf
        refine lv_aload_n hx hb dX2_burn_12 rfl (lv_at hl 0 rfl) ?_
        refine lv_iload_n hx hb dX2_burn_13 rfl (lv_at hl 2 rfl) ?_
        obtain ⟨q3, eq3, hf⟩ := bnd hf
        refine mcVi (v := (zB q3)) (rest := []) (Bn := [w9 cs o_t a_t v2.2.2]) (isR := []) (isC := [0]) (i0 := 0) ⟨hx, hb, hml, hown, hts⟩ hK hP hD hS hA hG (c9_isLit l D cs o_t a_t v2.2.2 H.size v2.2.1 _ eq3) (cwV 1 hts (gV wd555 wd556 wd557 wd107 wd558) rfl rfl rfl (by decide +kernel) ⟨by rw [hR]; exact Nat.le_of_ble_eq_true rfl, by rw [hR]; exact Nat.le_of_ble_eq_true rfl⟩) 1 (by decide) rfl rfl rfl rfl rfl rfl rfl e9 rfl rfl rfl hl.1 rfl (Nat.le_of_ble_eq_true rfl) ⟨Nat.zero_le _, Nat.zero_le _⟩ dX2_burn_14 (fun H locs hP hD hS => ?_)
        obtain ⟨q4, hq4, hf⟩ := bnd hf
        have Jq4 : ∀ r4 : Int32 × St, q4 = r4 → ∀ (H : Heap) (locs : List Loc) (ls : Array Slot), va_P D vwCl (List.flatten [w9 cs o_t a_t r4.2]) H → va_D A (List.flatten [w9 cs o_t a_t r4.2]) → va_S A s.heap H locs → lv_has ls 3 [(0, .ref o_t), (1, .int r4.1), (2, .int v2.2.1)] → W p l e R s m args below meth c H locs 0 0 Q (F0 m 47 ls []) := by
          intro r4 eq4 H locs ls hP hD hS hl
          subst eq4
          refine lv_iinc (v := (v2.2.1 + 1)) (lv' := [(2, .int (v2.2.1 + 1)), (0, .ref o_t), (1, .int q4.1)]) hx hb dX2_burn_47 hl (k := 2) rfl rfl (by decide) rfl (fun ls hl => ?_)
          refine lv_goto (tgt := 4) hx hb dX2_burn_50 (by decide) ?_
          cases hf
          exact ih1 _ hn1 _ _ _ hP hD hS (lv_sub hl [1, 2, 0] rfl)
        clear hf
        have hf := hq4
        refine lv_if_eq (tgt := 47) hx hb dX2_burn_17 (by decide) (fun hc => ?_) (fun hc => ?_)
        · have hf := ifp hc hf
          exact Jq4 _ (Option.some.inj hf).symm _ _ _ hP hD hS (lv_sub hl [0, 1, 2] rfl)
        · have hf := ifn hc hf
          refine lv_aload_n hx hb dX2_burn_20 rfl (lv_at hl 0 rfl) ?_
          refine gfB (i0 := 0) (own := RX2) (T := TX9) (k := 9) (v := .ref (a_t 9)) hx hb htX9 hown hK hP rfl e9 rfl (by decide) (hW _ wd177) rfl dX2_burn_21 ?_
          refine lv_iload_n hx hb dX2_burn_24 rfl (lv_at hl 2 rfl) ?_
          refine lv_dup2_11 hx hb dX2_burn_25 rfl rfl ?_
          obtain ⟨q5, eq5, hf⟩ := bnd hf
          obtain ⟨gq5, eq5⟩ := ldO_e eq5
          refine aldB (i0 := 0) hx hb hK hP rfl a9_9 gq5 dX2_burn_26 ?_
          refine lv_nm eq5 ?_
          refine lv_iconst (v := 1) hx hb dX2_burn_27 (by decide) ?_
          refine lv_isub hx hb dX2_burn_28 ?_
          obtain ⟨s6, es6, hf⟩ := bnd hf
          obtain ⟨gs6, es6⟩ := stS_e es6
          refine astB (i0 := 0) (Bn := [w9 cs o_t a_t s6]) hx hb hK hP hD hS rfl a9_9 gs6 rfl dX2_burn_29 (by rw [← es6]; exact v9_9) rfl (fun H locs hP hD hS => ?_)
          refine lv_aload_n hx hb dX2_burn_30 rfl (lv_at hl 0 rfl) ?_
          refine gfB (i0 := 0) (own := RX2) (T := TX9) (k := 9) (v := .ref (a_t 9)) hx hb htX9 hown hK hP rfl e9 rfl (by decide) (hW _ wd177) rfl dX2_burn_31 ?_
          refine lv_iload_n hx hb dX2_burn_34 rfl (lv_at hl 2 rfl) ?_
          obtain ⟨q7, eq7, hf⟩ := bnd hf
          obtain ⟨gq7, eq7⟩ := ldO_e eq7
          refine aldB (i0 := 0) hx hb hK hP rfl a9_9 gq7 dX2_burn_35 ?_
          refine lv_nm eq7 ?_
          refine lv_if_gt (tgt := 47) hx hb dX2_burn_36 (by decide) (fun hc => ?_) (fun hc => ?_)
          · have hf := ifp hc hf
            exact Jq4 _ (Option.some.inj hf).symm _ _ _ hP hD hS (lv_sub hl [0, 1, 2] rfl)
          · have hf := ifn hc hf
            refine lv_iload_n hx hb dX2_burn_39 rfl (lv_at hl 1 rfl) ?_
            refine lv_aload_n hx hb dX2_burn_40 rfl (lv_at hl 0 rfl) ?_
            refine lv_iload_n hx hb dX2_burn_41 rfl (lv_at hl 2 rfl) ?_
            obtain ⟨q8, eq8, hf⟩ := bnd hf
            refine mcVi (v := q8) (rest := [.int v2.1]) (Bn := [w9 cs o_t a_t s6]) (isR := []) (isC := [0]) (i0 := 0) ⟨hx, hb, hml, hown, hts⟩ hK hP hD hS hA hG (c9_couple l D cs o_t a_t s6 H.size v2.2.1 _ eq8) (cwV 1 hts (gV wd575 wd564 wd565 wd107 wd566) rfl rfl rfl (by decide +kernel) ⟨by rw [hR]; exact Nat.le_of_ble_eq_true rfl, by rw [hR]; exact Nat.le_of_ble_eq_true rfl⟩) 1 (by decide) rfl rfl rfl rfl rfl rfl rfl e9 rfl rfl rfl hl.1 rfl (Nat.le_of_ble_eq_true rfl) ⟨Nat.zero_le _, Nat.zero_le _⟩ dX2_burn_42 (fun H locs hP hD hS => ?_)
            refine lv_ior hx hb dX2_burn_45 ?_
            refine lv_istore_n (lv' := [(1, .int (v2.1 ||| q8)), (0, .ref o_t), (2, .int v2.2.1)]) hx hb dX2_burn_46 rfl hl (by decide) rfl (fun ls hl => ?_)
            exact Jq4 _ (Option.some.inj hf).symm _ _ _ hP hD hS (lv_sub hl [1, 0, 2] rfl)
  exact L1 _ _ hq1 _ _ _ hP hD hS (lv_sub hl [2, 1, 0] rfl)
/-! TwinLamps$Evening.flickAll -/
noncomputable def f2_flickAll_L2  (v3 : Int32 × Int32 × St × St) : Option ((Int32 × Int32 × St × St) ⊕ (St × St)) :=
  if (v3.2.2.2.1 1) ≤ v3.2.1 then some (.inr (v3.2.2.1, v3.2.2.2)) else ((if (((v3.2.2.1.1 4) >>> (v3.2.1 &&& 31)) &&& 1) = 1 then some true else some false : Option (Bool))).bind fun q4 =>
  (f9_isLit v3.2.2.2 v3.2.1).bind fun q5 =>
  ((if (zB q5) = (zB q4) then some false else some true : Option (Bool))).bind fun q6 =>
  ((if (((v3.2.2.1.1 3) >>> (v3.2.1 &&& 31)) &&& 1) = 1 then (if (zB q6) = 0 then some (v3.1, v3.2.2.1, v3.2.2.2) else if (zB q4) = 0 then (((if (zB q4) = 0 then ((f9_putOut v3.2.2.2 v3.2.1).bind fun q9 =>
  some q9)
  else (f9_light v3.2.2.2 v3.2.1).bind fun q10 =>
  some q10 : Option (St))).bind fun q8 =>
  (some (sS v3.2.2.1 2 ((v3.2.2.1.1 2) + ((v3.1 >>> (v3.2.1 &&& 31)) &&& 1)))).bind fun s11 =>
  (f9_couple q8 v3.2.1).bind fun q12 =>
  some ((v3.1 ||| q12), s11, q8))
  else (f9_canBeLit v3.2.2.2 v3.2.1).bind fun q13 =>
  if (zB q13) = 0 then some (v3.1, v3.2.2.1, v3.2.2.2) else ((if (zB q4) = 0 then ((f9_putOut v3.2.2.2 v3.2.1).bind fun q15 =>
  some q15)
  else (f9_light v3.2.2.2 v3.2.1).bind fun q16 =>
  some q16 : Option (St))).bind fun q14 =>
  (some (sS v3.2.2.1 2 ((v3.2.2.1.1 2) + ((v3.1 >>> (v3.2.1 &&& 31)) &&& 1)))).bind fun s17 =>
  (f9_couple q14 v3.2.1).bind fun q18 =>
  some ((v3.1 ||| q18), s17, q14))
  else some (v3.1, v3.2.2.1, v3.2.2.2) : Option (Int32 × St × St))).bind fun q7 =>
  some (.inl (q7.1, (v3.2.1 + 1), q7.2.1, q7.2.2))
noncomputable def f2_flickAll (s_e : St) (s_t : St) : Option (St × St) :=
  (some (sS s_e 2 0)).bind fun s1 =>
  (lpw (f2_flickAll_L2) (0, 0, s1, s_t)).bind fun q2 =>
  some (q2.1, q2.2)
set_option maxHeartbeats 4000000 in
set_option maxRecDepth 100000 in
theorem c2_flickAll (l : Launch) (D : va_G) (cs : xE) (o_e : Nat) (o_t : Nat) (a_t : Nat → Nat) (s_e : St) (s_t : St) (sz : Nat) (res : St × St) (hf : f2_flickAll s_e s_t = some res) : Met l yX2_flickAll (Cond.code yX2_flickAll cX2_flickAll 6 none :: WG) { frames := 2, cells := 0, slots := 0, locals := 44 } (va_Pc [.ref o_e, .ref o_t] (mP D cs (List.flatten [w2 cs o_e a0n s_e, w9 cs o_t a_t s_t]) sz)) (qV D cs (List.flatten [w2 cs o_e a0n res.1, w9 cs o_t a_t res.2]) (va_A (List.flatten [w2 cs o_e a0n s_e, w9 cs o_t a_t s_t]) sz)) 0 0 (va_A (List.flatten [w2 cs o_e a0n s_e, w9 cs o_t a_t s_t]) sz) := by
  refine mgo (Qc := qV D cs (List.flatten [w2 cs o_e a0n res.1, w9 cs o_t a_t res.2])) (cc := cX2_flickAll) (maxL := 6) (ret := none) (by decide) rfl (Nat.le_of_ble_eq_true rfl) ?_
  intro p e s m below meth c ls A R Q args H hR hQ hx hb hml hr hlocks hown hts hP hK hD hA hS hG hl
  have hown : s.vm.findClass RX2 = some m.cls := hown
  have hl : lv_has ls 6 [(0, .ref o_e), (1, .ref o_t)] := hl
  have hW : ∀ w ∈ WG, w.before args s = true := fun w h => hts w (List.mem_cons_of_mem _ h)
  have htX2 : ∀ w ∈ u_ws RX2 TX2 5, w.before args s = true := fun w h => hW w (inW_X2 w h)
  have htX9 : ∀ w ∈ u_ws RX9 TX9 11, w.before args s = true := fun w h => hW w (inW_X9 w h)
  unfold f2_flickAll at hf
  refine lv_aload_n hx hb dX2_flickAll_0 rfl (lv_at hl 0 rfl) ?_
  refine lv_iconst (v := 0) hx hb dX2_flickAll_1 (by decide) ?_
  obtain ⟨s1, es1, hf⟩ := bnd hf
  replace es1 := Option.some.inj es1
  refine pfB (i0 := 0) (own := RX2) (T := TX2) (k := 2) (Bn := [w2 cs o_e a0n s1, w9 cs o_t a_t s_t]) tyX2 tyX2_ok nmX2 hx hb htX2 hown hK hP hD hS rfl e2 rfl (by decide) (hW _ wd351) rfl rfl rfl (Nat.le_of_ble_eq_true rfl) dX2_flickAll_2 (by rw [← es1]; exact u2_2) rfl (fun H locs hP hD hS => ?_)
  refine lv_iconst (v := 0) hx hb dX2_flickAll_5 (by decide) ?_
  refine lv_istore_n (lv' := [(2, .int 0), (0, .ref o_e), (1, .ref o_t)]) hx hb dX2_flickAll_6 rfl hl (by decide) rfl (fun ls hl => ?_)
  refine lv_iconst (v := 0) hx hb dX2_flickAll_7 (by decide) ?_
  refine lv_istore_n (lv' := [(3, .int 0), (2, .int 0), (0, .ref o_e), (1, .ref o_t)]) hx hb dX2_flickAll_8 rfl hl (by decide) rfl (fun ls hl => ?_)
  obtain ⟨q2, hq2, hf⟩ := bnd hf
  obtain ⟨n2, hq2⟩ := lpw_ex hq2
  have Jq2_0 : ∀ rr2_0 : St × St, q2 = rr2_0 → ∀ (H : Heap) (locs : List Loc) (ls : Array Slot), va_P D vwCl (List.flatten [w2 cs o_e a0n rr2_0.1, w9 cs o_t a_t rr2_0.2]) H → va_D A (List.flatten [w2 cs o_e a0n rr2_0.1, w9 cs o_t a_t rr2_0.2]) → va_S A s.heap H locs → lv_has ls 6 [] → W p l e R s m args below meth c H locs 0 0 Q (F0 m 129 ls []) := by
    intro rr2_0 eq2 H locs ls hP hD hS hl
    subst eq2
    obtain rfl := Option.some.inj hf
    exact mretV hx hb hr hlocks hK hP hD hS hQ dX2_flickAll_129
  clear hf
  have L2 : ∀ n2, ∀ v3 : Int32 × Int32 × St × St, lp n2 (f2_flickAll_L2) v3 = some q2 → ∀ (H : Heap) (locs : List Loc) (ls : Array Slot), va_P D vwCl (List.flatten [w2 cs o_e a0n v3.2.2.1, w9 cs o_t a_t v3.2.2.2]) H → va_D A (List.flatten [w2 cs o_e a0n v3.2.2.1, w9 cs o_t a_t v3.2.2.2]) → va_S A s.heap H locs → lv_has ls 6 [(0, .ref o_e), (1, .ref o_t), (2, .int v3.1), (3, .int v3.2.1)] → W p l e R s m args below meth c H locs 0 0 Q (F0 m 9 ls []) := by
    intro n2
    induction n2 with
    | zero => intro v3 hn; cases hn
    | succ n2 ih2 =>
      intro v3 hn2 H locs ls hP hD hS hl
      obtain ⟨y2, hf, hn2⟩ := lp_succ hn2
      unfold f2_flickAll_L2 at hf
      refine lv_iload_n hx hb dX2_flickAll_9 rfl (lv_at hl 3 rfl) ?_
      refine lv_aload_n hx hb dX2_flickAll_10 rfl (lv_at hl 1 rfl) ?_
      refine gfB (i0 := 1) (own := RX2) (T := TX9) (k := 1) (v := .int (v3.2.2.2.1 1)) hx hb htX9 hown hK hP rfl e9 rfl (by decide) (hW _ wd153) rfl dX2_flickAll_11 ?_
      refine lv_icmp_ge (tgt := 129) hx hb dX2_flickAll_14 (by decide) (fun hc => ?_) (fun hc => ?_)
      · have hf := ifp hc hf
        cases hf
        exact Jq2_0 _ (Option.some.inj hn2).symm _ _ _ hP hD hS (lv_sub hl [] rfl)
      · have hf := ifn hc hf
        refine lv_aload_n hx hb dX2_flickAll_17 rfl (lv_at hl 0 rfl) ?_
        refine gfB (i0 := 0) (own := RX2) (T := TX2) (k := 4) (v := .int (v3.2.2.1.1 4)) hx hb htX2 hown hK hP rfl e2 rfl (by decide) (hW _ wd354) rfl dX2_flickAll_18 ?_
        refine lv_iload_n hx hb dX2_flickAll_21 rfl (lv_at hl 3 rfl) ?_
        refine lv_ishr hx hb dX2_flickAll_22 ?_
        refine lv_iconst (v := 1) hx hb dX2_flickAll_23 (by decide) ?_
        refine lv_iand hx hb dX2_flickAll_24 ?_
        refine lv_iconst (v := 1) hx hb dX2_flickAll_25 (by decide) ?_
        obtain ⟨q4, hq4, hf⟩ := bnd hf
        have Jq4 : ∀ r4 : Bool, q4 = r4 → ∀ (H : Heap) (locs : List Loc) (ls : Array Slot), va_P D vwCl (List.flatten [w2 cs o_e a0n v3.2.2.1, w9 cs o_t a_t v3.2.2.2]) H → va_D A (List.flatten [w2 cs o_e a0n v3.2.2.1, w9 cs o_t a_t v3.2.2.2]) → va_S A s.heap H locs → lv_has ls 6 [(0, .ref o_e), (1, .ref o_t), (2, .int v3.1), (3, .int v3.2.1)] → W p l e R s m args below meth c H locs 0 0 Q (F0 m 34 ls [.int (zB r4)]) := by
          intro r4 eq4 H locs ls hP hD hS hl
          subst eq4
          refine lv_istore (lv' := [(4, .int (zB q4)), (0, .ref o_e), (1, .ref o_t), (2, .int v3.1), (3, .int v3.2.1)]) hx hb dX2_flickAll_34 hl (by decide) rfl (fun ls hl => ?_)
          refine lv_aload_n hx hb dX2_flickAll_36 rfl (lv_at hl 2 rfl) ?_
          refine lv_iload_n hx hb dX2_flickAll_37 rfl (lv_at hl 4 rfl) ?_
          obtain ⟨q5, eq5, hf⟩ := bnd hf
          refine mcVi (v := (zB q5)) (rest := []) (Bn := [w2 cs o_e a0n v3.2.2.1, w9 cs o_t a_t v3.2.2.2]) (isR := [0]) (isC := [1]) (i0 := 1) ⟨hx, hb, hml, hown, hts⟩ hK hP hD hS hA hG (c9_isLit l D cs o_t a_t v3.2.2.2 H.size v3.2.1 _ eq5) (cwV 1 hts (gV wd555 wd556 wd557 wd107 wd558) rfl rfl rfl (by decide +kernel) ⟨by rw [hR]; exact Nat.le_of_ble_eq_true rfl, by rw [hR]; exact Nat.le_of_ble_eq_true rfl⟩) 2 (by decide) rfl rfl rfl rfl rfl rfl rfl e9 rfl rfl rfl hl.1 rfl (Nat.le_of_ble_eq_true rfl) ⟨Nat.zero_le _, Nat.zero_le _⟩ dX2_flickAll_38 (fun H locs hP hD hS => ?_)
          refine lv_iload hx hb dX2_flickAll_41 (lv_at hl 0 rfl) ?_
          obtain ⟨q6, hq6, hf⟩ := bnd hf
          have Jq6 : ∀ r6 : Bool, q6 = r6 → ∀ (H : Heap) (locs : List Loc) (ls : Array Slot), va_P D vwCl (List.flatten [w2 cs o_e a0n v3.2.2.1, w9 cs o_t a_t v3.2.2.2]) H → va_D A (List.flatten [w2 cs o_e a0n v3.2.2.1, w9 cs o_t a_t v3.2.2.2]) → va_S A s.heap H locs → lv_has ls 6 [(0, .ref o_e), (1, .ref o_t), (2, .int v3.1), (3, .int v3.2.1), (4, .int (zB q4))] → W p l e R s m args below meth c H locs 0 0 Q (F0 m 51 ls [.int (zB r6)]) := by
            intro r6 eq6 H locs ls hP hD hS hl
            subst eq6
            refine lv_istore (lv' := [(5, .int (zB q6)), (0, .ref o_e), (1, .ref o_t), (2, .int v3.1), (3, .int v3.2.1), (4, .int (zB q4))]) hx hb dX2_flickAll_51 hl (by decide) rfl (fun ls hl => ?_)
            refine lv_aload_n hx hb dX2_flickAll_53 rfl (lv_at hl 1 rfl) ?_
            refine gfB (i0 := 0) (own := RX2) (T := TX2) (k := 3) (v := .int (v3.2.2.1.1 3)) hx hb htX2 hown hK hP rfl e2 rfl (by decide) (hW _ wd353) rfl dX2_flickAll_54 ?_
            refine lv_iload_n hx hb dX2_flickAll_57 rfl (lv_at hl 4 rfl) ?_
            refine lv_ishr hx hb dX2_flickAll_58 ?_
            refine lv_iconst (v := 1) hx hb dX2_flickAll_59 (by decide) ?_
            refine lv_iand hx hb dX2_flickAll_60 ?_
            refine lv_iconst (v := 1) hx hb dX2_flickAll_61 (by decide) ?_
            obtain ⟨q7, hq7, hf⟩ := bnd hf
            have Jq7 : ∀ r7 : Int32 × St × St, q7 = r7 → ∀ (H : Heap) (locs : List Loc) (ls : Array Slot), va_P D vwCl (List.flatten [w2 cs o_e a0n r7.2.1, w9 cs o_t a_t r7.2.2]) H → va_D A (List.flatten [w2 cs o_e a0n r7.2.1, w9 cs o_t a_t r7.2.2]) → va_S A s.heap H locs → lv_has ls 6 [(0, .ref o_e), (1, .ref o_t), (2, .int r7.1), (3, .int v3.2.1)] → W p l e R s m args below meth c H locs 0 0 Q (F0 m 123 ls []) := by
              intro r7 eq7 H locs ls hP hD hS hl
              subst eq7
              refine lv_iinc (v := (v3.2.1 + 1)) (lv' := [(3, .int (v3.2.1 + 1)), (0, .ref o_e), (1, .ref o_t), (2, .int q7.1)]) hx hb dX2_flickAll_123 hl (k := 3) rfl rfl (by decide) rfl (fun ls hl => ?_)
              refine lv_goto (tgt := 9) hx hb dX2_flickAll_126 (by decide) ?_
              cases hf
              exact ih2 _ hn2 _ _ _ hP hD hS (lv_sub hl [1, 2, 3, 0] rfl)
            clear hf
            have hf := hq7
            refine lv_icmp_ne (tgt := 123) hx hb dX2_flickAll_62 (by decide) (fun hc => ?_) (fun hc => ?_)
            · have hf := ifn hc hf
              exact Jq7 _ (Option.some.inj hf).symm _ _ _ hP hD hS (lv_sub hl [1, 2, 3, 4] rfl)
            · have hf := ifp hc hf
              refine lv_iload hx hb dX2_flickAll_65 (lv_at hl 0 rfl) ?_
              refine lv_if_eq (tgt := 123) hx hb dX2_flickAll_67 (by decide) (fun hc => ?_) (fun hc => ?_)
              · have hf := ifp hc hf
                exact Jq7 _ (Option.some.inj hf).symm _ _ _ hP hD hS (lv_sub hl [1, 2, 3, 4] rfl)
              · have hf := ifn hc hf
                refine lv_iload hx hb dX2_flickAll_70 (lv_at hl 5 rfl) ?_
                refine lv_if_eq (tgt := 83) hx hb dX2_flickAll_72 (by decide) (fun hc => ?_) (fun hc => ?_)
                · have hf := ifp hc hf
                  refine lv_iload hx hb dX2_flickAll_83 (lv_at hl 5 rfl) ?_
                  obtain ⟨q8, hq8, hf⟩ := bnd hf
                  have Jq8 : ∀ r8 : St, q8 = r8 → ∀ (H : Heap) (locs : List Loc) (ls : Array Slot), va_P D vwCl (List.flatten [w2 cs o_e a0n v3.2.2.1, w9 cs o_t a_t r8]) H → va_D A (List.flatten [w2 cs o_e a0n v3.2.2.1, w9 cs o_t a_t r8]) → va_S A s.heap H locs → lv_has ls 6 [(0, .ref o_e), (1, .ref o_t), (2, .int v3.1), (3, .int v3.2.1)] → W p l e R s m args below meth c H locs 0 0 Q (F0 m 101 ls []) := by
                    intro r8 eq8 H locs ls hP hD hS hl
                    subst eq8
                    refine lv_aload_n hx hb dX2_flickAll_101 rfl (lv_at hl 0 rfl) ?_
                    refine lv_dup hx hb dX2_flickAll_102 rfl ?_
                    refine gfB (i0 := 0) (own := RX2) (T := TX2) (k := 2) (v := .int (v3.2.2.1.1 2)) hx hb htX2 hown hK hP rfl e2 rfl (by decide) (hW _ wd351) rfl dX2_flickAll_103 ?_
                    refine lv_iload_n hx hb dX2_flickAll_106 rfl (lv_at hl 2 rfl) ?_
                    refine lv_iload_n hx hb dX2_flickAll_107 rfl (lv_at hl 3 rfl) ?_
                    refine lv_ishr hx hb dX2_flickAll_108 ?_
                    refine lv_iconst (v := 1) hx hb dX2_flickAll_109 (by decide) ?_
                    refine lv_iand hx hb dX2_flickAll_110 ?_
                    refine lv_iadd hx hb dX2_flickAll_111 ?_
                    obtain ⟨s11, es11, hf⟩ := bnd hf
                    replace es11 := Option.some.inj es11
                    refine pfB (i0 := 0) (own := RX2) (T := TX2) (k := 2) (Bn := [w2 cs o_e a0n s11, w9 cs o_t a_t q8]) tyX2 tyX2_ok nmX2 hx hb htX2 hown hK hP hD hS rfl e2 rfl (by decide) (hW _ wd351) rfl rfl rfl (Nat.le_of_ble_eq_true rfl) dX2_flickAll_112 (by rw [← es11]; exact u2_2) rfl (fun H locs hP hD hS => ?_)
                    refine lv_iload_n hx hb dX2_flickAll_115 rfl (lv_at hl 2 rfl) ?_
                    refine lv_aload_n hx hb dX2_flickAll_116 rfl (lv_at hl 1 rfl) ?_
                    refine lv_iload_n hx hb dX2_flickAll_117 rfl (lv_at hl 3 rfl) ?_
                    obtain ⟨q12, eq12, hf⟩ := bnd hf
                    refine mcVi (v := q12) (rest := [.int v3.1]) (Bn := [w2 cs o_e a0n s11, w9 cs o_t a_t q8]) (isR := [0]) (isC := [1]) (i0 := 1) ⟨hx, hb, hml, hown, hts⟩ hK hP hD hS hA hG (c9_couple l D cs o_t a_t q8 H.size v3.2.1 _ eq12) (cwV 1 hts (gV wd575 wd564 wd565 wd107 wd566) rfl rfl rfl (by decide +kernel) ⟨by rw [hR]; exact Nat.le_of_ble_eq_true rfl, by rw [hR]; exact Nat.le_of_ble_eq_true rfl⟩) 2 (by decide) rfl rfl rfl rfl rfl rfl rfl e9 rfl rfl rfl hl.1 rfl (Nat.le_of_ble_eq_true rfl) ⟨Nat.zero_le _, Nat.zero_le _⟩ dX2_flickAll_118 (fun H locs hP hD hS => ?_)
                    refine lv_ior hx hb dX2_flickAll_121 ?_
                    refine lv_istore_n (lv' := [(2, .int (v3.1 ||| q12)), (0, .ref o_e), (1, .ref o_t), (3, .int v3.2.1)]) hx hb dX2_flickAll_122 rfl hl (by decide) rfl (fun ls hl => ?_)
                    exact Jq7 _ (Option.some.inj hf).symm _ _ _ hP hD hS (lv_sub hl [1, 2, 0, 3] rfl)
                  clear hf
                  have hf := hq8
                  refine lv_if_eq (tgt := 96) hx hb dX2_flickAll_85 (by decide) (fun hc => ?_) (fun hc => ?_)
                  · have hf := ifp hc hf
                    refine lv_aload_n hx hb dX2_flickAll_96 rfl (lv_at hl 2 rfl) ?_
                    refine lv_iload_n hx hb dX2_flickAll_97 rfl (lv_at hl 4 rfl) ?_
                    obtain ⟨q9, eq9, hf⟩ := bnd hf
                    refine mcVv (rest := []) (Bn := [w2 cs o_e a0n v3.2.2.1, w9 cs o_t a_t q9]) (isR := [0]) (isC := [1]) (i0 := 1) ⟨hx, hb, hml, hown, hts⟩ hK hP hD hS hA hG (c9_putOut l D cs o_t a_t v3.2.2.2 H.size v3.2.1 _ eq9) (cwV 1 hts (gV wd571 wd572 wd573 wd107 wd574) rfl rfl rfl (by decide +kernel) ⟨by rw [hR]; exact Nat.le_of_ble_eq_true rfl, by rw [hR]; exact Nat.le_of_ble_eq_true rfl⟩) 2 (by decide) rfl rfl rfl rfl rfl rfl rfl e9 rfl rfl rfl hl.1 rfl (Nat.le_of_ble_eq_true rfl) ⟨Nat.zero_le _, Nat.zero_le _⟩ dX2_flickAll_98 (fun H locs hP hD hS => ?_)
                    exact Jq8 _ (Option.some.inj hf).symm _ _ _ hP hD hS (lv_sub hl [1, 2, 3, 4] rfl)
                  · have hf := ifn hc hf
                    refine lv_aload_n hx hb dX2_flickAll_88 rfl (lv_at hl 2 rfl) ?_
                    refine lv_iload_n hx hb dX2_flickAll_89 rfl (lv_at hl 4 rfl) ?_
                    obtain ⟨q10, eq10, hf⟩ := bnd hf
                    refine mcVv (rest := []) (Bn := [w2 cs o_e a0n v3.2.2.1, w9 cs o_t a_t q10]) (isR := [0]) (isC := [1]) (i0 := 1) ⟨hx, hb, hml, hown, hts⟩ hK hP hD hS hA hG (c9_light l D cs o_t a_t v3.2.2.2 H.size v3.2.1 _ eq10) (cwV 1 hts (gV wd567 wd568 wd569 wd107 wd570) rfl rfl rfl (by decide +kernel) ⟨by rw [hR]; exact Nat.le_of_ble_eq_true rfl, by rw [hR]; exact Nat.le_of_ble_eq_true rfl⟩) 2 (by decide) rfl rfl rfl rfl rfl rfl rfl e9 rfl rfl rfl hl.1 rfl (Nat.le_of_ble_eq_true rfl) ⟨Nat.zero_le _, Nat.zero_le _⟩ dX2_flickAll_90 (fun H locs hP hD hS => ?_)
                    refine lv_goto (tgt := 101) hx hb dX2_flickAll_93 (by decide) ?_
                    exact Jq8 _ (Option.some.inj hf).symm _ _ _ hP hD hS (lv_sub hl [1, 2, 3, 4] rfl)
                · have hf := ifn hc hf
                  refine lv_aload_n hx hb dX2_flickAll_75 rfl (lv_at hl 2 rfl) ?_
                  refine lv_iload_n hx hb dX2_flickAll_76 rfl (lv_at hl 4 rfl) ?_
                  obtain ⟨q13, eq13, hf⟩ := bnd hf
                  refine mcVi (v := (zB q13)) (rest := []) (Bn := [w2 cs o_e a0n v3.2.2.1, w9 cs o_t a_t v3.2.2.2]) (isR := [0]) (isC := [1]) (i0 := 1) ⟨hx, hb, hml, hown, hts⟩ hK hP hD hS hA hG (c9_canBeLit l D cs o_t a_t v3.2.2.2 H.size v3.2.1 _ eq13) (cwV 1 hts (gV wd559 wd560 wd561 wd107 wd562) rfl rfl rfl (by decide +kernel) ⟨by rw [hR]; exact Nat.le_of_ble_eq_true rfl, by rw [hR]; exact Nat.le_of_ble_eq_true rfl⟩) 2 (by decide) rfl rfl rfl rfl rfl rfl rfl e9 rfl rfl rfl hl.1 rfl (Nat.le_of_ble_eq_true rfl) ⟨Nat.zero_le _, Nat.zero_le _⟩ dX2_flickAll_77 (fun H locs hP hD hS => ?_)
                  refine lv_if_eq (tgt := 123) hx hb dX2_flickAll_80 (by decide) (fun hc => ?_) (fun hc => ?_)
                  · have hf := ifp hc hf
                    exact Jq7 _ (Option.some.inj hf).symm _ _ _ hP hD hS (lv_sub hl [1, 2, 3, 4] rfl)
                  · have hf := ifn hc hf
                    refine lv_iload hx hb dX2_flickAll_83 (lv_at hl 5 rfl) ?_
                    obtain ⟨q14, hq14, hf⟩ := bnd hf
                    have Jq14 : ∀ r14 : St, q14 = r14 → ∀ (H : Heap) (locs : List Loc) (ls : Array Slot), va_P D vwCl (List.flatten [w2 cs o_e a0n v3.2.2.1, w9 cs o_t a_t r14]) H → va_D A (List.flatten [w2 cs o_e a0n v3.2.2.1, w9 cs o_t a_t r14]) → va_S A s.heap H locs → lv_has ls 6 [(0, .ref o_e), (1, .ref o_t), (2, .int v3.1), (3, .int v3.2.1)] → W p l e R s m args below meth c H locs 0 0 Q (F0 m 101 ls []) := by
                      intro r14 eq14 H locs ls hP hD hS hl
                      subst eq14
                      refine lv_aload_n hx hb dX2_flickAll_101 rfl (lv_at hl 0 rfl) ?_
                      refine lv_dup hx hb dX2_flickAll_102 rfl ?_
                      refine gfB (i0 := 0) (own := RX2) (T := TX2) (k := 2) (v := .int (v3.2.2.1.1 2)) hx hb htX2 hown hK hP rfl e2 rfl (by decide) (hW _ wd351) rfl dX2_flickAll_103 ?_
                      refine lv_iload_n hx hb dX2_flickAll_106 rfl (lv_at hl 2 rfl) ?_
                      refine lv_iload_n hx hb dX2_flickAll_107 rfl (lv_at hl 3 rfl) ?_
                      refine lv_ishr hx hb dX2_flickAll_108 ?_
                      refine lv_iconst (v := 1) hx hb dX2_flickAll_109 (by decide) ?_
                      refine lv_iand hx hb dX2_flickAll_110 ?_
                      refine lv_iadd hx hb dX2_flickAll_111 ?_
                      obtain ⟨s17, es17, hf⟩ := bnd hf
                      replace es17 := Option.some.inj es17
                      refine pfB (i0 := 0) (own := RX2) (T := TX2) (k := 2) (Bn := [w2 cs o_e a0n s17, w9 cs o_t a_t q14]) tyX2 tyX2_ok nmX2 hx hb htX2 hown hK hP hD hS rfl e2 rfl (by decide) (hW _ wd351) rfl rfl rfl (Nat.le_of_ble_eq_true rfl) dX2_flickAll_112 (by rw [← es17]; exact u2_2) rfl (fun H locs hP hD hS => ?_)
                      refine lv_iload_n hx hb dX2_flickAll_115 rfl (lv_at hl 2 rfl) ?_
                      refine lv_aload_n hx hb dX2_flickAll_116 rfl (lv_at hl 1 rfl) ?_
                      refine lv_iload_n hx hb dX2_flickAll_117 rfl (lv_at hl 3 rfl) ?_
                      obtain ⟨q18, eq18, hf⟩ := bnd hf
                      refine mcVi (v := q18) (rest := [.int v3.1]) (Bn := [w2 cs o_e a0n s17, w9 cs o_t a_t q14]) (isR := [0]) (isC := [1]) (i0 := 1) ⟨hx, hb, hml, hown, hts⟩ hK hP hD hS hA hG (c9_couple l D cs o_t a_t q14 H.size v3.2.1 _ eq18) (cwV 1 hts (gV wd575 wd564 wd565 wd107 wd566) rfl rfl rfl (by decide +kernel) ⟨by rw [hR]; exact Nat.le_of_ble_eq_true rfl, by rw [hR]; exact Nat.le_of_ble_eq_true rfl⟩) 2 (by decide) rfl rfl rfl rfl rfl rfl rfl e9 rfl rfl rfl hl.1 rfl (Nat.le_of_ble_eq_true rfl) ⟨Nat.zero_le _, Nat.zero_le _⟩ dX2_flickAll_118 (fun H locs hP hD hS => ?_)
                      refine lv_ior hx hb dX2_flickAll_121 ?_
                      refine lv_istore_n (lv' := [(2, .int (v3.1 ||| q18)), (0, .ref o_e), (1, .ref o_t), (3, .int v3.2.1)]) hx hb dX2_flickAll_122 rfl hl (by decide) rfl (fun ls hl => ?_)
                      exact Jq7 _ (Option.some.inj hf).symm _ _ _ hP hD hS (lv_sub hl [1, 2, 0, 3] rfl)
                    clear hf
                    have hf := hq14
                    refine lv_if_eq (tgt := 96) hx hb dX2_flickAll_85 (by decide) (fun hc => ?_) (fun hc => ?_)
                    · have hf := ifp hc hf
                      refine lv_aload_n hx hb dX2_flickAll_96 rfl (lv_at hl 2 rfl) ?_
                      refine lv_iload_n hx hb dX2_flickAll_97 rfl (lv_at hl 4 rfl) ?_
                      obtain ⟨q15, eq15, hf⟩ := bnd hf
                      refine mcVv (rest := []) (Bn := [w2 cs o_e a0n v3.2.2.1, w9 cs o_t a_t q15]) (isR := [0]) (isC := [1]) (i0 := 1) ⟨hx, hb, hml, hown, hts⟩ hK hP hD hS hA hG (c9_putOut l D cs o_t a_t v3.2.2.2 H.size v3.2.1 _ eq15) (cwV 1 hts (gV wd571 wd572 wd573 wd107 wd574) rfl rfl rfl (by decide +kernel) ⟨by rw [hR]; exact Nat.le_of_ble_eq_true rfl, by rw [hR]; exact Nat.le_of_ble_eq_true rfl⟩) 2 (by decide) rfl rfl rfl rfl rfl rfl rfl e9 rfl rfl rfl hl.1 rfl (Nat.le_of_ble_eq_true rfl) ⟨Nat.zero_le _, Nat.zero_le _⟩ dX2_flickAll_98 (fun H locs hP hD hS => ?_)
                      exact Jq14 _ (Option.some.inj hf).symm _ _ _ hP hD hS (lv_sub hl [1, 2, 3, 4] rfl)
                    · have hf := ifn hc hf
                      refine lv_aload_n hx hb dX2_flickAll_88 rfl (lv_at hl 2 rfl) ?_
                      refine lv_iload_n hx hb dX2_flickAll_89 rfl (lv_at hl 4 rfl) ?_
                      obtain ⟨q16, eq16, hf⟩ := bnd hf
                      refine mcVv (rest := []) (Bn := [w2 cs o_e a0n v3.2.2.1, w9 cs o_t a_t q16]) (isR := [0]) (isC := [1]) (i0 := 1) ⟨hx, hb, hml, hown, hts⟩ hK hP hD hS hA hG (c9_light l D cs o_t a_t v3.2.2.2 H.size v3.2.1 _ eq16) (cwV 1 hts (gV wd567 wd568 wd569 wd107 wd570) rfl rfl rfl (by decide +kernel) ⟨by rw [hR]; exact Nat.le_of_ble_eq_true rfl, by rw [hR]; exact Nat.le_of_ble_eq_true rfl⟩) 2 (by decide) rfl rfl rfl rfl rfl rfl rfl e9 rfl rfl rfl hl.1 rfl (Nat.le_of_ble_eq_true rfl) ⟨Nat.zero_le _, Nat.zero_le _⟩ dX2_flickAll_90 (fun H locs hP hD hS => ?_)
                      refine lv_goto (tgt := 101) hx hb dX2_flickAll_93 (by decide) ?_
                      exact Jq14 _ (Option.some.inj hf).symm _ _ _ hP hD hS (lv_sub hl [1, 2, 3, 4] rfl)
          clear hf
          have hf := hq6
          refine lv_icmp_eq (tgt := 50) hx hb dX2_flickAll_43 (by decide) (fun hc => ?_) (fun hc => ?_)
          · have hf := ifp hc hf
            refine lv_iconst (v := 0) hx hb dX2_flickAll_50 (by decide) ?_
            exact Jq6 _ (Option.some.inj hf).symm _ _ _ hP hD hS (lv_sub hl [1, 2, 3, 4, 0] rfl)
          · have hf := ifn hc hf
            refine lv_iconst (v := 1) hx hb dX2_flickAll_46 (by decide) ?_
            refine lv_goto (tgt := 51) hx hb dX2_flickAll_47 (by decide) ?_
            exact Jq6 _ (Option.some.inj hf).symm _ _ _ hP hD hS (lv_sub hl [1, 2, 3, 4, 0] rfl)
        clear hf
        have hf := hq4
        refine lv_icmp_ne (tgt := 33) hx hb dX2_flickAll_26 (by decide) (fun hc => ?_) (fun hc => ?_)
        · have hf := ifn hc hf
          refine lv_iconst (v := 0) hx hb dX2_flickAll_33 (by decide) ?_
          exact Jq4 _ (Option.some.inj hf).symm _ _ _ hP hD hS (lv_sub hl [0, 1, 2, 3] rfl)
        · have hf := ifp hc hf
          refine lv_iconst (v := 1) hx hb dX2_flickAll_29 (by decide) ?_
          refine lv_goto (tgt := 34) hx hb dX2_flickAll_30 (by decide) ?_
          exact Jq4 _ (Option.some.inj hf).symm _ _ _ hP hD hS (lv_sub hl [0, 1, 2, 3] rfl)
  exact L2 _ _ hq2 _ _ _ hP hD hS (lv_sub hl [2, 3, 1, 0] rfl)
/-! TwinLamps$Evening.passHour -/
noncomputable def f2_passHour_L4 (s_t : St) (v5 : Int32 × St × St) : Option ((Int32 × St × St) ⊕ (St × St)) :=
  if (s_t.1 1) ≤ v5.1 then some (.inr (v5.2.1, v5.2.2)) else ((if (((v5.2.1.1 3) >>> (v5.1 &&& 31)) &&& 1) = 1 then ((f7_wantsLit v5.2.2 s_t v5.1 ((s_t.1 2) - (s_t.1 2) / 24 * 24)).bind fun q7 =>
  if (zB q7.1) = 0 then some (v5.2.1, q7.2) else (some (sS v5.2.1 4 ((v5.2.1.1 4) ||| ((1 : Int32) <<< (v5.1 &&& 31))))).bind fun s8 =>
  some (s8, q7.2))
  else some (v5.2.1, v5.2.2) : Option (St × St))).bind fun q6 =>
  some (.inl ((v5.1 + 1), q6.1, q6.2))
noncomputable def f2_passHour (s_e : St) (s_g : St) (s_t : St) : Option (St × St × St) :=
  (f9_awakeLamps s_t).bind fun q1 =>
  (some (sS s_e 3 q1)).bind fun s2 =>
  (some (sS s2 4 0)).bind fun s3 =>
  (lpw (f2_passHour_L4 s_t) (0, s3, s_g)).bind fun q4 =>
  (f2_flickAll q4.1 s_t).bind fun q9 =>
  (some (sS q9.1 0 (q9.2.1 3))).bind fun s10 =>
  (some (sS s10 1 ((s10.1 3) &&& ((s10.1 4) ^^^ (s10.1 0))))).bind fun s11 =>
  (f2_burn q9.2).bind fun q12 =>
  (some (sS q12 2 ((q12.1 2) + 1))).bind fun s13 =>
  some (s11, q4.2, s13)
set_option maxHeartbeats 4000000 in
set_option maxRecDepth 100000 in
theorem c2_passHour (l : Launch) (D : va_G) (cs : xE) (o_e : Nat) (o_g : Nat) (a_g : Nat → Nat) (o_t : Nat) (a_t : Nat → Nat) (s_e : St) (s_g : St) (s_t : St) (sz : Nat) (res : St × St × St) (hf : f2_passHour s_e s_g s_t = some res) : Met l yX2_passHour (Cond.code yX2_passHour cX2_passHour 4 none :: WG) { frames := 3, cells := 0, slots := 0, locals := 69 } (va_Pc [.ref o_e, .ref o_g, .ref o_t] (mP D cs (List.flatten [w2 cs o_e a0n s_e, w7 cs o_g a_g s_g, w9 cs o_t a_t s_t]) sz)) (qV D cs (List.flatten [w2 cs o_e a0n res.1, w7 cs o_g a_g res.2.1, w9 cs o_t a_t res.2.2]) (va_A (List.flatten [w2 cs o_e a0n s_e, w7 cs o_g a_g s_g, w9 cs o_t a_t s_t]) sz)) 0 0 (va_A (List.flatten [w2 cs o_e a0n s_e, w7 cs o_g a_g s_g, w9 cs o_t a_t s_t]) sz) := by
  refine mgo (Qc := qV D cs (List.flatten [w2 cs o_e a0n res.1, w7 cs o_g a_g res.2.1, w9 cs o_t a_t res.2.2])) (cc := cX2_passHour) (maxL := 4) (ret := none) (by decide) rfl (Nat.le_of_ble_eq_true rfl) ?_
  intro p e s m below meth c ls A R Q args H hR hQ hx hb hml hr hlocks hown hts hP hK hD hA hS hG hl
  have hown : s.vm.findClass RX2 = some m.cls := hown
  have hl : lv_has ls 4 [(0, .ref o_e), (1, .ref o_g), (2, .ref o_t)] := hl
  have hW : ∀ w ∈ WG, w.before args s = true := fun w h => hts w (List.mem_cons_of_mem _ h)
  have htX2 : ∀ w ∈ u_ws RX2 TX2 5, w.before args s = true := fun w h => hW w (inW_X2 w h)
  have htX9 : ∀ w ∈ u_ws RX9 TX9 11, w.before args s = true := fun w h => hW w (inW_X9 w h)
  unfold f2_passHour at hf
  refine lv_aload_n hx hb dX2_passHour_0 rfl (lv_at hl 0 rfl) ?_
  refine lv_aload_n hx hb dX2_passHour_1 rfl (lv_at hl 2 rfl) ?_
  obtain ⟨q1, eq1, hf⟩ := bnd hf
  refine mcVi (v := q1) (rest := [.ref o_e]) (Bn := [w2 cs o_e a0n s_e, w7 cs o_g a_g s_g, w9 cs o_t a_t s_t]) (isR := [0, 1]) (isC := [2]) (i0 := 2) ⟨hx, hb, hml, hown, hts⟩ hK hP hD hS hA hG (c9_awakeLamps l D cs o_t a_t s_t H.size _ eq1) (cwV 0 hts (gV wd510 wd511 wd512 wd107 wd513) rfl rfl rfl (by decide +kernel) ⟨by rw [hR]; exact Nat.le_of_ble_eq_true rfl, by rw [hR]; exact Nat.le_of_ble_eq_true rfl⟩) 3 (by decide) rfl rfl rfl rfl rfl rfl rfl e9 rfl rfl rfl hl.1 rfl (Nat.le_of_ble_eq_true rfl) ⟨Nat.zero_le _, Nat.zero_le _⟩ dX2_passHour_2 (fun H locs hP hD hS => ?_)
  obtain ⟨s2, es2, hf⟩ := bnd hf
  replace es2 := Option.some.inj es2
  refine pfB (i0 := 0) (own := RX2) (T := TX2) (k := 3) (Bn := [w2 cs o_e a0n s2, w7 cs o_g a_g s_g, w9 cs o_t a_t s_t]) tyX2 tyX2_ok nmX2 hx hb htX2 hown hK hP hD hS rfl e2 rfl (by decide) (hW _ wd353) rfl rfl rfl (Nat.le_of_ble_eq_true rfl) dX2_passHour_5 (by rw [← es2]; exact u2_3) rfl (fun H locs hP hD hS => ?_)
  refine lv_aload_n hx hb dX2_passHour_8 rfl (lv_at hl 0 rfl) ?_
  refine lv_iconst (v := 0) hx hb dX2_passHour_9 (by decide) ?_
  obtain ⟨s3, es3, hf⟩ := bnd hf
  replace es3 := Option.some.inj es3
  refine pfB (i0 := 0) (own := RX2) (T := TX2) (k := 4) (Bn := [w2 cs o_e a0n s3, w7 cs o_g a_g s_g, w9 cs o_t a_t s_t]) tyX2 tyX2_ok nmX2 hx hb htX2 hown hK hP hD hS rfl e2 rfl (by decide) (hW _ wd354) rfl rfl rfl (Nat.le_of_ble_eq_true rfl) dX2_passHour_10 (by rw [← es3]; exact u2_4) rfl (fun H locs hP hD hS => ?_)
  refine lv_iconst (v := 0) hx hb dX2_passHour_13 (by decide) ?_
  refine lv_istore_n (lv' := [(3, .int 0), (0, .ref o_e), (1, .ref o_g), (2, .ref o_t)]) hx hb dX2_passHour_14 rfl hl (by decide) rfl (fun ls hl => ?_)
  obtain ⟨q4, hq4, hf⟩ := bnd hf
  obtain ⟨n4, hq4⟩ := lpw_ex hq4
  have Jq4_0 : ∀ rr4_0 : St × St, q4 = rr4_0 → ∀ (H : Heap) (locs : List Loc) (ls : Array Slot), va_P D vwCl (List.flatten [w2 cs o_e a0n rr4_0.1, w7 cs o_g a_g rr4_0.2, w9 cs o_t a_t s_t]) H → va_D A (List.flatten [w2 cs o_e a0n rr4_0.1, w7 cs o_g a_g rr4_0.2, w9 cs o_t a_t s_t]) → va_S A s.heap H locs → lv_has ls 4 [(0, .ref o_e), (2, .ref o_t)] → W p l e R s m args below meth c H locs 0 0 Q (F0 m 69 ls []) := by
    intro rr4_0 eq4 H locs ls hP hD hS hl
    subst eq4
    refine lv_aload_n hx hb dX2_passHour_69 rfl (lv_at hl 0 rfl) ?_
    refine lv_aload_n hx hb dX2_passHour_70 rfl (lv_at hl 1 rfl) ?_
    obtain ⟨q9, eq9, hf⟩ := bnd hf
    refine mcVv (rest := []) (Bn := [w2 cs o_e a0n q9.1, w7 cs o_g a_g q4.2, w9 cs o_t a_t q9.2]) (isR := [1]) (isC := [0, 2]) (i0 := 0) ⟨hx, hb, hml, hown, hts⟩ hK hP hD hS hA hG (c2_flickAll l D cs o_e o_t a_t q4.1 s_t H.size _ eq9) (cwV 1 hts (gV wd551 wd553 wd4 wd112 wd554) rfl rfl rfl (by decide +kernel) ⟨by rw [hR]; exact Nat.le_of_ble_eq_true rfl, by rw [hR]; exact Nat.le_of_ble_eq_true rfl⟩) 3 (by decide) rfl rfl rfl rfl rfl rfl rfl e2 rfl rfl rfl hl.1 rfl (Nat.le_of_ble_eq_true rfl) ⟨Nat.zero_le _, Nat.zero_le _⟩ dX2_passHour_71 (fun H locs hP hD hS => ?_)
    refine lv_aload_n hx hb dX2_passHour_74 rfl (lv_at hl 0 rfl) ?_
    refine lv_aload_n hx hb dX2_passHour_75 rfl (lv_at hl 1 rfl) ?_
    refine gfB (i0 := 2) (own := RX2) (T := TX9) (k := 3) (v := .int (q9.2.1 3)) hx hb htX9 hown hK hP rfl e9 rfl (by decide) (hW _ wd161) rfl dX2_passHour_76 ?_
    obtain ⟨s10, es10, hf⟩ := bnd hf
    replace es10 := Option.some.inj es10
    refine pfB (i0 := 0) (own := RX2) (T := TX2) (k := 0) (Bn := [w2 cs o_e a0n s10, w7 cs o_g a_g q4.2, w9 cs o_t a_t q9.2]) tyX2 tyX2_ok nmX2 hx hb htX2 hown hK hP hD hS rfl e2 rfl (by decide) (hW _ wd347) rfl rfl rfl (Nat.le_of_ble_eq_true rfl) dX2_passHour_79 (by rw [← es10]; exact u2_0) rfl (fun H locs hP hD hS => ?_)
    refine lv_aload_n hx hb dX2_passHour_82 rfl (lv_at hl 0 rfl) ?_
    refine lv_aload_n hx hb dX2_passHour_83 rfl (lv_at hl 0 rfl) ?_
    refine gfB (i0 := 0) (own := RX2) (T := TX2) (k := 3) (v := .int (s10.1 3)) hx hb htX2 hown hK hP rfl e2 rfl (by decide) (hW _ wd353) rfl dX2_passHour_84 ?_
    refine lv_aload_n hx hb dX2_passHour_87 rfl (lv_at hl 0 rfl) ?_
    refine gfB (i0 := 0) (own := RX2) (T := TX2) (k := 4) (v := .int (s10.1 4)) hx hb htX2 hown hK hP rfl e2 rfl (by decide) (hW _ wd354) rfl dX2_passHour_88 ?_
    refine lv_aload_n hx hb dX2_passHour_91 rfl (lv_at hl 0 rfl) ?_
    refine gfB (i0 := 0) (own := RX2) (T := TX2) (k := 0) (v := .int (s10.1 0)) hx hb htX2 hown hK hP rfl e2 rfl (by decide) (hW _ wd347) rfl dX2_passHour_92 ?_
    refine lv_ixor hx hb dX2_passHour_95 ?_
    refine lv_iand hx hb dX2_passHour_96 ?_
    obtain ⟨s11, es11, hf⟩ := bnd hf
    replace es11 := Option.some.inj es11
    refine pfB (i0 := 0) (own := RX2) (T := TX2) (k := 1) (Bn := [w2 cs o_e a0n s11, w7 cs o_g a_g q4.2, w9 cs o_t a_t q9.2]) tyX2 tyX2_ok nmX2 hx hb htX2 hown hK hP hD hS rfl e2 rfl (by decide) (hW _ wd349) rfl rfl rfl (Nat.le_of_ble_eq_true rfl) dX2_passHour_97 (by rw [← es11]; exact u2_1) rfl (fun H locs hP hD hS => ?_)
    refine lv_aload_n hx hb dX2_passHour_100 rfl (lv_at hl 1 rfl) ?_
    obtain ⟨q12, eq12, hf⟩ := bnd hf
    refine mcSv (As := [.ref o_t]) (rest := []) (Bn := [w2 cs o_e a0n s11, w7 cs o_g a_g q4.2, w9 cs o_t a_t q12]) (isR := [0, 1]) (isC := [2]) ⟨hx, hb, hml, hown, hts⟩ hK hP hD hS hA hG (c2_burn l D cs o_t a_t q9.2 H.size _ eq12) (va_cwS 1 hts (gS wd576 wd577 wd112 wd578) rfl rfl rfl (by decide +kernel) ⟨by rw [hR]; exact Nat.le_of_ble_eq_true rfl, by rw [hR]; exact Nat.le_of_ble_eq_true rfl⟩) 3 (by decide) rfl rfl rfl rfl rfl rfl rfl hl.1 rfl (Nat.le_of_ble_eq_true rfl) ⟨Nat.zero_le _, Nat.zero_le _⟩ dX2_passHour_101 (fun H locs hP hD hS => ?_)
    refine lv_aload_n hx hb dX2_passHour_104 rfl (lv_at hl 1 rfl) ?_
    refine lv_dup hx hb dX2_passHour_105 rfl ?_
    refine gfB (i0 := 2) (own := RX2) (T := TX9) (k := 2) (v := .int (q12.1 2)) hx hb htX9 hown hK hP rfl e9 rfl (by decide) (hW _ wd158) rfl dX2_passHour_106 ?_
    refine lv_iconst (v := 1) hx hb dX2_passHour_109 (by decide) ?_
    refine lv_iadd hx hb dX2_passHour_110 ?_
    obtain ⟨s13, es13, hf⟩ := bnd hf
    replace es13 := Option.some.inj es13
    refine pfB (i0 := 2) (own := RX2) (T := TX9) (k := 2) (Bn := [w2 cs o_e a0n s11, w7 cs o_g a_g q4.2, w9 cs o_t a_t s13]) tyX9 tyX9_ok nmX9 hx hb htX9 hown hK hP hD hS rfl e9 rfl (by decide) (hW _ wd158) rfl rfl rfl (Nat.le_of_ble_eq_true rfl) dX2_passHour_111 (by rw [← es13]; exact u9_2) rfl (fun H locs hP hD hS => ?_)
    obtain rfl := Option.some.inj hf
    exact mretV hx hb hr hlocks hK hP hD hS hQ dX2_passHour_114
  clear hf
  have L4 : ∀ n4, ∀ v5 : Int32 × St × St, lp n4 (f2_passHour_L4 s_t) v5 = some q4 → ∀ (H : Heap) (locs : List Loc) (ls : Array Slot), va_P D vwCl (List.flatten [w2 cs o_e a0n v5.2.1, w7 cs o_g a_g v5.2.2, w9 cs o_t a_t s_t]) H → va_D A (List.flatten [w2 cs o_e a0n v5.2.1, w7 cs o_g a_g v5.2.2, w9 cs o_t a_t s_t]) → va_S A s.heap H locs → lv_has ls 4 [(0, .ref o_e), (1, .ref o_g), (2, .ref o_t), (3, .int v5.1)] → W p l e R s m args below meth c H locs 0 0 Q (F0 m 15 ls []) := by
    intro n4
    induction n4 with
    | zero => intro v5 hn; cases hn
    | succ n4 ih4 =>
      intro v5 hn4 H locs ls hP hD hS hl
      obtain ⟨y4, hf, hn4⟩ := lp_succ hn4
      unfold f2_passHour_L4 at hf
      refine lv_iload_n hx hb dX2_passHour_15 rfl (lv_at hl 3 rfl) ?_
      refine lv_aload_n hx hb dX2_passHour_16 rfl (lv_at hl 2 rfl) ?_
      refine gfB (i0 := 2) (own := RX2) (T := TX9) (k := 1) (v := .int (s_t.1 1)) hx hb htX9 hown hK hP rfl e9 rfl (by decide) (hW _ wd153) rfl dX2_passHour_17 ?_
      refine lv_icmp_ge (tgt := 69) hx hb dX2_passHour_20 (by decide) (fun hc => ?_) (fun hc => ?_)
      · have hf := ifp hc hf
        cases hf
        exact Jq4_0 _ (Option.some.inj hn4).symm _ _ _ hP hD hS (lv_sub hl [0, 2] rfl)
      · have hf := ifn hc hf
        refine lv_aload_n hx hb dX2_passHour_23 rfl (lv_at hl 0 rfl) ?_
        refine gfB (i0 := 0) (own := RX2) (T := TX2) (k := 3) (v := .int (v5.2.1.1 3)) hx hb htX2 hown hK hP rfl e2 rfl (by decide) (hW _ wd353) rfl dX2_passHour_24 ?_
        refine lv_iload_n hx hb dX2_passHour_27 rfl (lv_at hl 3 rfl) ?_
        refine lv_ishr hx hb dX2_passHour_28 ?_
        refine lv_iconst (v := 1) hx hb dX2_passHour_29 (by decide) ?_
        refine lv_iand hx hb dX2_passHour_30 ?_
        refine lv_iconst (v := 1) hx hb dX2_passHour_31 (by decide) ?_
        obtain ⟨q6, hq6, hf⟩ := bnd hf
        have Jq6 : ∀ r6 : St × St, q6 = r6 → ∀ (H : Heap) (locs : List Loc) (ls : Array Slot), va_P D vwCl (List.flatten [w2 cs o_e a0n r6.1, w7 cs o_g a_g r6.2, w9 cs o_t a_t s_t]) H → va_D A (List.flatten [w2 cs o_e a0n r6.1, w7 cs o_g a_g r6.2, w9 cs o_t a_t s_t]) → va_S A s.heap H locs → lv_has ls 4 [(0, .ref o_e), (1, .ref o_g), (2, .ref o_t), (3, .int v5.1)] → W p l e R s m args below meth c H locs 0 0 Q (F0 m 63 ls []) := by
          intro r6 eq6 H locs ls hP hD hS hl
          subst eq6
          refine lv_iinc (v := (v5.1 + 1)) (lv' := [(3, .int (v5.1 + 1)), (0, .ref o_e), (1, .ref o_g), (2, .ref o_t)]) hx hb dX2_passHour_63 hl (k := 3) rfl rfl (by decide) rfl (fun ls hl => ?_)
          refine lv_goto (tgt := 15) hx hb dX2_passHour_66 (by decide) ?_
          cases hf
          exact ih4 _ hn4 _ _ _ hP hD hS (lv_sub hl [1, 2, 3, 0] rfl)
        clear hf
        have hf := hq6
        refine lv_icmp_ne (tgt := 63) hx hb dX2_passHour_32 (by decide) (fun hc => ?_) (fun hc => ?_)
        · have hf := ifn hc hf
          exact Jq6 _ (Option.some.inj hf).symm _ _ _ hP hD hS (lv_sub hl [0, 1, 2, 3] rfl)
        · have hf := ifp hc hf
          refine lv_aload_n hx hb dX2_passHour_35 rfl (lv_at hl 1 rfl) ?_
          refine lv_aload_n hx hb dX2_passHour_36 rfl (lv_at hl 2 rfl) ?_
          refine lv_iload_n hx hb dX2_passHour_37 rfl (lv_at hl 3 rfl) ?_
          refine lv_aload_n hx hb dX2_passHour_38 rfl (lv_at hl 2 rfl) ?_
          refine gfB (i0 := 2) (own := RX2) (T := TX9) (k := 2) (v := .int (s_t.1 2)) hx hb htX9 hown hK hP rfl e9 rfl (by decide) (hW _ wd158) rfl dX2_passHour_39 ?_
          refine lv_bipush (v := 24) hx hb dX2_passHour_42 (by decide) ?_
          refine lv_irem hx hb dX2_passHour_44 (by decide) ?_
          obtain ⟨q7, eq7, hf⟩ := bnd hf
          refine mcVi (v := (zB q7.1)) (rest := []) (Bn := [w2 cs o_e a0n v5.2.1, w7 cs o_g a_g q7.2, w9 cs o_t a_t s_t]) (isR := [0]) (isC := [1, 2]) (i0 := 1) ⟨hx, hb, hml, hown, hts⟩ hK hP hD hS hA hG (c7_wantsLit l D cs o_g a_g o_t a_t v5.2.2 s_t H.size v5.1 ((s_t.1 2) - (s_t.1 2) / 24 * 24) _ eq7) (cwV 3 hts (gV wd518 wd519 wd520 wd108 wd521) rfl rfl rfl (by decide +kernel) ⟨by rw [hR]; exact Nat.le_of_ble_eq_true rfl, by rw [hR]; exact Nat.le_of_ble_eq_true rfl⟩) 3 (by decide) rfl rfl rfl rfl rfl rfl rfl e7 rfl rfl rfl hl.1 rfl (Nat.le_of_ble_eq_true rfl) ⟨Nat.zero_le _, Nat.zero_le _⟩ dX2_passHour_45 (fun H locs hP hD hS => ?_)
          refine lv_if_eq (tgt := 63) hx hb dX2_passHour_48 (by decide) (fun hc => ?_) (fun hc => ?_)
          · have hf := ifp hc hf
            exact Jq6 _ (Option.some.inj hf).symm _ _ _ hP hD hS (lv_sub hl [0, 1, 2, 3] rfl)
          · have hf := ifn hc hf
            refine lv_aload_n hx hb dX2_passHour_51 rfl (lv_at hl 0 rfl) ?_
            refine lv_dup hx hb dX2_passHour_52 rfl ?_
            refine gfB (i0 := 0) (own := RX2) (T := TX2) (k := 4) (v := .int (v5.2.1.1 4)) hx hb htX2 hown hK hP rfl e2 rfl (by decide) (hW _ wd354) rfl dX2_passHour_53 ?_
            refine lv_iconst (v := 1) hx hb dX2_passHour_56 (by decide) ?_
            refine lv_iload_n hx hb dX2_passHour_57 rfl (lv_at hl 3 rfl) ?_
            refine lv_ishl hx hb dX2_passHour_58 ?_
            refine lv_ior hx hb dX2_passHour_59 ?_
            obtain ⟨s8, es8, hf⟩ := bnd hf
            replace es8 := Option.some.inj es8
            refine pfB (i0 := 0) (own := RX2) (T := TX2) (k := 4) (Bn := [w2 cs o_e a0n s8, w7 cs o_g a_g q7.2, w9 cs o_t a_t s_t]) tyX2 tyX2_ok nmX2 hx hb htX2 hown hK hP hD hS rfl e2 rfl (by decide) (hW _ wd354) rfl rfl rfl (Nat.le_of_ble_eq_true rfl) dX2_passHour_60 (by rw [← es8]; exact u2_4) rfl (fun H locs hP hD hS => ?_)
            exact Jq6 _ (Option.some.inj hf).symm _ _ _ hP hD hS (lv_sub hl [0, 1, 2, 3] rfl)
  exact L4 _ _ hq4 _ _ _ hP hD hS (lv_sub hl [1, 2, 3, 0] rfl)
/-! TwinLamps$Sightings.copyFrom -/
noncomputable def f8_copyFrom (s_v : St) (s_v2 : St) : Option (St) :=
  (some (sS s_v 0 (s_v2.1 0))).bind fun s1 =>
  (some (sS s1 1 (s_v2.1 1))).bind fun s2 =>
  (some (sA s2 2 (va_cpy (s_v2.2 2) (s2.2 2) 0 0 8))).bind fun s3 =>
  (some (sA s3 3 (va_cpy (s_v2.2 3) (s3.2 3) 0 0 8))).bind fun s4 =>
  some s4
set_option maxHeartbeats 4000000 in
set_option maxRecDepth 100000 in
theorem c8_copyFrom (l : Launch) (D : va_G) (cs : xE) (o_v : Nat) (a_v : Nat → Nat) (o_v2 : Nat) (a_v2 : Nat → Nat) (s_v : St) (s_v2 : St) (sz : Nat) (res : St) (hf : f8_copyFrom s_v s_v2 = some res) : Met l yX8_copyFrom (Cond.code yX8_copyFrom cX8_copyFrom 2 none :: WG) { frames := 1, cells := 0, slots := 0, locals := 26 } (va_Pc [.ref o_v, .ref o_v2] (mP D cs (List.flatten [w8 cs o_v a_v s_v, w8 cs o_v2 a_v2 s_v2]) sz)) (qV D cs (List.flatten [w8 cs o_v a_v res, w8 cs o_v2 a_v2 s_v2]) (va_A (List.flatten [w8 cs o_v a_v s_v, w8 cs o_v2 a_v2 s_v2]) sz)) 0 0 (va_A (List.flatten [w8 cs o_v a_v s_v, w8 cs o_v2 a_v2 s_v2]) sz) := by
  refine mgo (Qc := qV D cs (List.flatten [w8 cs o_v a_v res, w8 cs o_v2 a_v2 s_v2])) (cc := cX8_copyFrom) (maxL := 2) (ret := none) (by decide) rfl (Nat.le_of_ble_eq_true rfl) ?_
  intro p e s m below meth c ls A R Q args H hR hQ hx hb hml hr hlocks hown hts hP hK hD hA hS hG hl
  have hown : s.vm.findClass RX8 = some m.cls := hown
  have hl : lv_has ls 2 [(0, .ref o_v), (1, .ref o_v2)] := hl
  have hW : ∀ w ∈ WG, w.before args s = true := fun w h => hts w (List.mem_cons_of_mem _ h)
  have htX8 : ∀ w ∈ u_ws RX8 TX8 4, w.before args s = true := fun w h => hW w (inW_X8 w h)
  unfold f8_copyFrom at hf
  refine lv_aload_n hx hb dX8_copyFrom_0 rfl (lv_at hl 0 rfl) ?_
  refine lv_aload_n hx hb dX8_copyFrom_1 rfl (lv_at hl 1 rfl) ?_
  refine gfB (i0 := 1) (own := RX8) (T := TX8) (k := 0) (v := .int (s_v2.1 0)) hx hb htX8 hown hK hP rfl e8 rfl (by decide) (hW _ wd295) rfl dX8_copyFrom_2 ?_
  obtain ⟨s1, es1, hf⟩ := bnd hf
  replace es1 := Option.some.inj es1
  refine pfB (i0 := 0) (own := RX8) (T := TX8) (k := 0) (Bn := [w8 cs o_v a_v s1, w8 cs o_v2 a_v2 s_v2]) tyX8 tyX8_ok nmX8 hx hb htX8 hown hK hP hD hS rfl e8 rfl (by decide) (hW _ wd295) rfl rfl rfl (Nat.le_of_ble_eq_true rfl) dX8_copyFrom_5 (by rw [← es1]; exact u8_0) rfl (fun H locs hP hD hS => ?_)
  refine lv_aload_n hx hb dX8_copyFrom_8 rfl (lv_at hl 0 rfl) ?_
  refine lv_aload_n hx hb dX8_copyFrom_9 rfl (lv_at hl 1 rfl) ?_
  refine gfB (i0 := 1) (own := RX8) (T := TX8) (k := 1) (v := .int (s_v2.1 1)) hx hb htX8 hown hK hP rfl e8 rfl (by decide) (hW _ wd297) rfl dX8_copyFrom_10 ?_
  obtain ⟨s2, es2, hf⟩ := bnd hf
  replace es2 := Option.some.inj es2
  refine pfB (i0 := 0) (own := RX8) (T := TX8) (k := 1) (Bn := [w8 cs o_v a_v s2, w8 cs o_v2 a_v2 s_v2]) tyX8 tyX8_ok nmX8 hx hb htX8 hown hK hP hD hS rfl e8 rfl (by decide) (hW _ wd297) rfl rfl rfl (Nat.le_of_ble_eq_true rfl) dX8_copyFrom_13 (by rw [← es2]; exact u8_1) rfl (fun H locs hP hD hS => ?_)
  refine lv_aload_n hx hb dX8_copyFrom_16 rfl (lv_at hl 1 rfl) ?_
  refine gfB (i0 := 1) (own := RX8) (T := TX8) (k := 2) (v := .ref (a_v2 2)) hx hb htX8 hown hK hP rfl e8 rfl (by decide) (hW _ wd298) rfl dX8_copyFrom_17 ?_
  refine lv_iconst (v := 0) hx hb dX8_copyFrom_20 (by decide) ?_
  refine lv_aload_n hx hb dX8_copyFrom_21 rfl (lv_at hl 0 rfl) ?_
  refine gfB (i0 := 0) (own := RX8) (T := TX8) (k := 2) (v := .ref (a_v 2)) hx hb htX8 hown hK hP rfl e8 rfl (by decide) (hW _ wd298) rfl dX8_copyFrom_22 ?_
  refine lv_iconst (v := 0) hx hb dX8_copyFrom_25 (by decide) ?_
  refine lv_bipush (v := 8) hx hb dX8_copyFrom_26 (by decide) ?_
  obtain ⟨s3, es3, hf⟩ := bnd hf
  replace es3 := Option.some.inj es3
  refine cpyB (i1 := 1) (i0 := 0) (Bn := [w8 cs o_v a_v s3, w8 cs o_v2 a_v2 s_v2]) (n := 8) (g' := va_cpy (s_v2.2 2) (s2.2 2) 0 0 8) hx hb (hml.trans hl.1.symm) (own := RX8) (index := 25) hown (hW _ wd608) (hW _ wd505) (hW _ wd504) (hW _ wd125) hK hP hD hS rfl a8_2 rfl a8_2 (by decide +kernel) (by decide +kernel) (by decide +kernel) (by rw [hR]; exact Nat.le_of_ble_eq_true rfl) (by rw [hR]; exact Nat.le_of_ble_eq_true rfl) rfl dX8_copyFrom_28 (by rw [← es3]; exact v8_2) rfl (fun H locs hP hD hS => ?_)
  refine lv_aload_n hx hb dX8_copyFrom_31 rfl (lv_at hl 1 rfl) ?_
  refine gfB (i0 := 1) (own := RX8) (T := TX8) (k := 3) (v := .ref (a_v2 3)) hx hb htX8 hown hK hP rfl e8 rfl (by decide) (hW _ wd299) rfl dX8_copyFrom_32 ?_
  refine lv_iconst (v := 0) hx hb dX8_copyFrom_35 (by decide) ?_
  refine lv_aload_n hx hb dX8_copyFrom_36 rfl (lv_at hl 0 rfl) ?_
  refine gfB (i0 := 0) (own := RX8) (T := TX8) (k := 3) (v := .ref (a_v 3)) hx hb htX8 hown hK hP rfl e8 rfl (by decide) (hW _ wd299) rfl dX8_copyFrom_37 ?_
  refine lv_iconst (v := 0) hx hb dX8_copyFrom_40 (by decide) ?_
  refine lv_bipush (v := 8) hx hb dX8_copyFrom_41 (by decide) ?_
  obtain ⟨s4, es4, hf⟩ := bnd hf
  replace es4 := Option.some.inj es4
  refine cpyB (i1 := 1) (i0 := 0) (Bn := [w8 cs o_v a_v s4, w8 cs o_v2 a_v2 s_v2]) (n := 8) (g' := va_cpy (s_v2.2 3) (s3.2 3) 0 0 8) hx hb (hml.trans hl.1.symm) (own := RX8) (index := 25) hown (hW _ wd608) (hW _ wd505) (hW _ wd504) (hW _ wd125) hK hP hD hS rfl a8_3 rfl a8_3 (by decide +kernel) (by decide +kernel) (by decide +kernel) (by rw [hR]; exact Nat.le_of_ble_eq_true rfl) (by rw [hR]; exact Nat.le_of_ble_eq_true rfl) rfl dX8_copyFrom_43 (by rw [← es4]; exact v8_3) rfl (fun H locs hP hD hS => ?_)
  obtain rfl := Option.some.inj hf
  exact mretV hx hb hr hlocks hK hP hD hS hQ dX8_copyFrom_46
/-! TwinLamps$Sightings.lastHour -/
noncomputable def f8_lastHour_L1 (s_v : St) (v2 : Int32 × Int32) : Option ((Int32 × Int32) ⊕ (Int32)) :=
  if (s_v.1 0) ≤ v2.2 then some (.inr v2.1) else (ldO 8 (s_v.2 3) v2.2).bind fun q3 =>
  some (.inl ((jmax v2.1 q3), (v2.2 + 1)))
noncomputable def f8_lastHour (s_v : St) : Option (Int32) :=
  (lpw (f8_lastHour_L1 s_v) (0, 0)).bind fun q1 =>
  some q1
set_option maxHeartbeats 4000000 in
set_option maxRecDepth 100000 in
theorem c8_lastHour (l : Launch) (D : va_G) (cs : xE) (o_v : Nat) (a_v : Nat → Nat) (s_v : St) (sz : Nat) (res : Int32) (hf : f8_lastHour s_v = some res) : Met l yX8_lastHour (Cond.code yX8_lastHour cX8_lastHour 3 (some .int) :: WG) { frames := 1, cells := 0, slots := 0, locals := 21 } (va_Pc [.ref o_v] (mP D cs (List.flatten [w8 cs o_v a_v s_v]) sz)) (qI D cs res (List.flatten [w8 cs o_v a_v s_v]) (va_A (List.flatten [w8 cs o_v a_v s_v]) sz)) 0 0 (va_A (List.flatten [w8 cs o_v a_v s_v]) sz) := by
  refine mgo (Qc := qI D cs res (List.flatten [w8 cs o_v a_v s_v])) (cc := cX8_lastHour) (maxL := 3) (ret := (some .int)) (by decide) rfl (Nat.le_of_ble_eq_true rfl) ?_
  intro p e s m below meth c ls A R Q args H hR hQ hx hb hml hr hlocks hown hts hP hK hD hA hS hG hl
  have hown : s.vm.findClass RX8 = some m.cls := hown
  have hl : lv_has ls 3 [(0, .ref o_v)] := hl
  have hW : ∀ w ∈ WG, w.before args s = true := fun w h => hts w (List.mem_cons_of_mem _ h)
  have htX8 : ∀ w ∈ u_ws RX8 TX8 4, w.before args s = true := fun w h => hW w (inW_X8 w h)
  unfold f8_lastHour at hf
  refine lv_iconst (v := 0) hx hb dX8_lastHour_0 (by decide) ?_
  refine lv_istore_n (lv' := [(1, .int 0), (0, .ref o_v)]) hx hb dX8_lastHour_1 rfl hl (by decide) rfl (fun ls hl => ?_)
  refine lv_iconst (v := 0) hx hb dX8_lastHour_2 (by decide) ?_
  refine lv_istore_n (lv' := [(2, .int 0), (1, .int 0), (0, .ref o_v)]) hx hb dX8_lastHour_3 rfl hl (by decide) rfl (fun ls hl => ?_)
  obtain ⟨q1, hq1, hf⟩ := bnd hf
  obtain ⟨n1, hq1⟩ := lpw_ex hq1
  have Jq1_0 : ∀ rr1_0 : Int32, q1 = rr1_0 → ∀ (H : Heap) (locs : List Loc) (ls : Array Slot), va_P D vwCl (List.flatten [w8 cs o_v a_v s_v]) H → va_D A (List.flatten [w8 cs o_v a_v s_v]) → va_S A s.heap H locs → lv_has ls 3 [(1, .int rr1_0)] → W p l e R s m args below meth c H locs 0 0 Q (F0 m 29 ls []) := by
    intro rr1_0 eq1 H locs ls hP hD hS hl
    subst eq1
    refine lv_iload_n hx hb dX8_lastHour_29 rfl (lv_at hl 0 rfl) ?_
    obtain rfl := Option.some.inj hf
    exact mretI hx hb hr hlocks hK hP hD hS rfl hQ dX8_lastHour_30
  clear hf
  have L1 : ∀ n1, ∀ v2 : Int32 × Int32, lp n1 (f8_lastHour_L1 s_v) v2 = some q1 → ∀ (H : Heap) (locs : List Loc) (ls : Array Slot), va_P D vwCl (List.flatten [w8 cs o_v a_v s_v]) H → va_D A (List.flatten [w8 cs o_v a_v s_v]) → va_S A s.heap H locs → lv_has ls 3 [(0, .ref o_v), (1, .int v2.1), (2, .int v2.2)] → W p l e R s m args below meth c H locs 0 0 Q (F0 m 4 ls []) := by
    intro n1
    induction n1 with
    | zero => intro v2 hn; cases hn
    | succ n1 ih1 =>
      intro v2 hn1 H locs ls hP hD hS hl
      obtain ⟨y1, hf, hn1⟩ := lp_succ hn1
      unfold f8_lastHour_L1 at hf
      refine lv_iload_n hx hb dX8_lastHour_4 rfl (lv_at hl 2 rfl) ?_
      refine lv_aload_n hx hb dX8_lastHour_5 rfl (lv_at hl 0 rfl) ?_
      refine gfB (i0 := 0) (own := RX8) (T := TX8) (k := 0) (v := .int (s_v.1 0)) hx hb htX8 hown hK hP rfl e8 rfl (by decide) (hW _ wd295) rfl dX8_lastHour_6 ?_
      refine lv_icmp_ge (tgt := 29) hx hb dX8_lastHour_9 (by decide) (fun hc => ?_) (fun hc => ?_)
      · have hf := ifp hc hf
        cases hf
        exact Jq1_0 _ (Option.some.inj hn1).symm _ _ _ hP hD hS (lv_sub hl [1] rfl)
      · have hf := ifn hc hf
        refine lv_iload_n hx hb dX8_lastHour_12 rfl (lv_at hl 1 rfl) ?_
        refine lv_aload_n hx hb dX8_lastHour_13 rfl (lv_at hl 0 rfl) ?_
        refine gfB (i0 := 0) (own := RX8) (T := TX8) (k := 3) (v := .ref (a_v 3)) hx hb htX8 hown hK hP rfl e8 rfl (by decide) (hW _ wd299) rfl dX8_lastHour_14 ?_
        refine lv_iload_n hx hb dX8_lastHour_17 rfl (lv_at hl 2 rfl) ?_
        obtain ⟨q3, eq3, hf⟩ := bnd hf
        obtain ⟨gq3, eq3⟩ := ldO_e eq3
        refine aldB (i0 := 0) hx hb hK hP rfl a8_3 gq3 dX8_lastHour_18 ?_
        refine lv_nm eq3 ?_
        refine va_mmax hx hb (hml.trans hl.1.symm) (own := RX8) (index := 31) hown (hW _ wd1226) (hW _ wd1227) (hW _ wd126) (hW _ wd1228) (by rw [hR]; exact Nat.le_of_ble_eq_true rfl) (by rw [hR]; exact Nat.le_of_ble_eq_true rfl) (Nat.zero_le _) (Nat.zero_le _) dX8_lastHour_19 ?_
        refine lv_nm (v := (jmax v2.1 q3)) rfl ?_
        refine lv_istore_n (lv' := [(1, .int (jmax v2.1 q3)), (0, .ref o_v), (2, .int v2.2)]) hx hb dX8_lastHour_22 rfl hl (by decide) rfl (fun ls hl => ?_)
        refine lv_iinc (v := (v2.2 + 1)) (lv' := [(2, .int (v2.2 + 1)), (1, .int (jmax v2.1 q3)), (0, .ref o_v)]) hx hb dX8_lastHour_23 hl (k := 2) rfl rfl (by decide) rfl (fun ls hl => ?_)
        refine lv_goto (tgt := 4) hx hb dX8_lastHour_26 (by decide) ?_
        cases hf
        exact ih1 _ hn1 _ _ _ hP hD hS (lv_sub hl [2, 1, 0] rfl)
  exact L1 _ _ hq1 _ _ _ hP hD hS (lv_sub hl [2, 1, 0] rfl)
/-! TwinLamps$Sightings.clear -/
noncomputable def f8_clear (s_v : St) : Option (St) :=
  (some (sS s_v 0 0)).bind fun s1 =>
  (some (sS s1 1 0)).bind fun s2 =>
  some s2
set_option maxHeartbeats 4000000 in
set_option maxRecDepth 100000 in
theorem c8_clear (l : Launch) (D : va_G) (cs : xE) (o_v : Nat) (a_v : Nat → Nat) (s_v : St) (sz : Nat) (res : St) (hf : f8_clear s_v = some res) : Met l yX8_clear (Cond.code yX8_clear cX8_clear 1 none :: WG) { frames := 0, cells := 0, slots := 0, locals := 0 } (va_Pc [.ref o_v] (mP D cs (List.flatten [w8 cs o_v a_v s_v]) sz)) (qV D cs (List.flatten [w8 cs o_v a_v res]) (va_A (List.flatten [w8 cs o_v a_v s_v]) sz)) 0 0 (va_A (List.flatten [w8 cs o_v a_v s_v]) sz) := by
  refine mgo (Qc := qV D cs (List.flatten [w8 cs o_v a_v res])) (cc := cX8_clear) (maxL := 1) (ret := none) (by decide) rfl (Nat.le_of_ble_eq_true rfl) ?_
  intro p e s m below meth c ls A R Q args H hR hQ hx hb hml hr hlocks hown hts hP hK hD hA hS hG hl
  have hown : s.vm.findClass RX8 = some m.cls := hown
  have hl : lv_has ls 1 [(0, .ref o_v)] := hl
  have hW : ∀ w ∈ WG, w.before args s = true := fun w h => hts w (List.mem_cons_of_mem _ h)
  have htX8 : ∀ w ∈ u_ws RX8 TX8 4, w.before args s = true := fun w h => hW w (inW_X8 w h)
  unfold f8_clear at hf
  refine lv_aload_n hx hb dX8_clear_0 rfl (lv_at hl 0 rfl) ?_
  refine lv_iconst (v := 0) hx hb dX8_clear_1 (by decide) ?_
  obtain ⟨s1, es1, hf⟩ := bnd hf
  replace es1 := Option.some.inj es1
  refine pfB (i0 := 0) (own := RX8) (T := TX8) (k := 0) (Bn := [w8 cs o_v a_v s1]) tyX8 tyX8_ok nmX8 hx hb htX8 hown hK hP hD hS rfl e8 rfl (by decide) (hW _ wd295) rfl rfl rfl (Nat.le_of_ble_eq_true rfl) dX8_clear_2 (by rw [← es1]; exact u8_0) rfl (fun H locs hP hD hS => ?_)
  refine lv_aload_n hx hb dX8_clear_5 rfl (lv_at hl 0 rfl) ?_
  refine lv_iconst (v := 0) hx hb dX8_clear_6 (by decide) ?_
  obtain ⟨s2, es2, hf⟩ := bnd hf
  replace es2 := Option.some.inj es2
  refine pfB (i0 := 0) (own := RX8) (T := TX8) (k := 1) (Bn := [w8 cs o_v a_v s2]) tyX8 tyX8_ok nmX8 hx hb htX8 hown hK hP hD hS rfl e8 rfl (by decide) (hW _ wd297) rfl rfl rfl (Nat.le_of_ble_eq_true rfl) dX8_clear_7 (by rw [← es2]; exact u8_1) rfl (fun H locs hP hD hS => ?_)
  obtain rfl := Option.some.inj hf
  exact mretV hx hb hr hlocks hK hP hD hS hQ dX8_clear_10
/-! TwinLamps$Sightings.add -/
noncomputable def f8_add (s_v : St) (x1 : Int32) (x2 : Int32) (x3 : Bool) : Option (St) :=
  ((if (8 : Int32) ≤ (s_v.1 0) then some s_v else (stS 8 s_v 2 (s_v.1 0) x1).bind fun s2 =>
  (stS 8 s2 3 (s2.1 0) x2).bind fun s3 =>
  ((if (zB x3) = 0 then some s3 else (some (sS s3 1 ((s3.1 1) ||| ((1 : Int32) <<< ((s3.1 0) &&& 31))))).bind fun s5 =>
  some s5 : Option (St))).bind fun q4 =>
  (some (sS q4 0 ((q4.1 0) + 1))).bind fun s6 =>
  some s6 : Option (St))).bind fun q1 =>
  some q1
set_option maxHeartbeats 4000000 in
set_option maxRecDepth 100000 in
theorem c8_add (l : Launch) (D : va_G) (cs : xE) (o_v : Nat) (a_v : Nat → Nat) (s_v : St) (sz : Nat) (x1 : Int32) (x2 : Int32) (x3 : Bool) (res : St) (hf : f8_add s_v x1 x2 x3 = some res) : Met l yX8_add (Cond.code yX8_add cX8_add 4 none :: WG) { frames := 0, cells := 0, slots := 0, locals := 0 } (va_Pc [.ref o_v, .int x1, .int x2, .int (zB x3)] (mP D cs (List.flatten [w8 cs o_v a_v s_v]) sz)) (qV D cs (List.flatten [w8 cs o_v a_v res]) (va_A (List.flatten [w8 cs o_v a_v s_v]) sz)) 0 0 (va_A (List.flatten [w8 cs o_v a_v s_v]) sz) := by
  refine mgo (Qc := qV D cs (List.flatten [w8 cs o_v a_v res])) (cc := cX8_add) (maxL := 4) (ret := none) (by decide) rfl (Nat.le_of_ble_eq_true rfl) ?_
  intro p e s m below meth c ls A R Q args H hR hQ hx hb hml hr hlocks hown hts hP hK hD hA hS hG hl
  have hown : s.vm.findClass RX8 = some m.cls := hown
  have hl : lv_has ls 4 [(0, .ref o_v), (1, .int x1), (2, .int x2), (3, .int (zB x3))] := hl
  have hW : ∀ w ∈ WG, w.before args s = true := fun w h => hts w (List.mem_cons_of_mem _ h)
  have htX8 : ∀ w ∈ u_ws RX8 TX8 4, w.before args s = true := fun w h => hW w (inW_X8 w h)
  unfold f8_add at hf
  refine lv_aload_n hx hb dX8_add_0 rfl (lv_at hl 0 rfl) ?_
  refine gfB (i0 := 0) (own := RX8) (T := TX8) (k := 0) (v := .int (s_v.1 0)) hx hb htX8 hown hK hP rfl e8 rfl (by decide) (hW _ wd295) rfl dX8_add_1 ?_
  refine lv_bipush (v := 8) hx hb dX8_add_4 (by decide) ?_
  obtain ⟨q1, hq1, hf⟩ := bnd hf
  have Jq1 : ∀ r1 : St, q1 = r1 → ∀ (H : Heap) (locs : List Loc) (ls : Array Slot), va_P D vwCl (List.flatten [w8 cs o_v a_v r1]) H → va_D A (List.flatten [w8 cs o_v a_v r1]) → va_S A s.heap H locs → lv_has ls 4 [] → W p l e R s m args below meth c H locs 0 0 Q (F0 m 58 ls []) := by
    intro r1 eq1 H locs ls hP hD hS hl
    subst eq1
    obtain rfl := Option.some.inj hf
    exact mretV hx hb hr hlocks hK hP hD hS hQ dX8_add_58
  clear hf
  have hf := hq1
  refine lv_icmp_ge (tgt := 58) hx hb dX8_add_6 (by decide) (fun hc => ?_) (fun hc => ?_)
  · have hf := ifp hc hf
    exact Jq1 _ (Option.some.inj hf).symm _ _ _ hP hD hS (lv_sub hl [] rfl)
  · have hf := ifn hc hf
    refine lv_aload_n hx hb dX8_add_9 rfl (lv_at hl 0 rfl) ?_
    refine gfB (i0 := 0) (own := RX8) (T := TX8) (k := 2) (v := .ref (a_v 2)) hx hb htX8 hown hK hP rfl e8 rfl (by decide) (hW _ wd298) rfl dX8_add_10 ?_
    refine lv_aload_n hx hb dX8_add_13 rfl (lv_at hl 0 rfl) ?_
    refine gfB (i0 := 0) (own := RX8) (T := TX8) (k := 0) (v := .int (s_v.1 0)) hx hb htX8 hown hK hP rfl e8 rfl (by decide) (hW _ wd295) rfl dX8_add_14 ?_
    refine lv_iload_n hx hb dX8_add_17 rfl (lv_at hl 1 rfl) ?_
    obtain ⟨s2, es2, hf⟩ := bnd hf
    obtain ⟨gs2, es2⟩ := stS_e es2
    refine astB (i0 := 0) (Bn := [w8 cs o_v a_v s2]) hx hb hK hP hD hS rfl a8_2 gs2 rfl dX8_add_18 (by rw [← es2]; exact v8_2) rfl (fun H locs hP hD hS => ?_)
    refine lv_aload_n hx hb dX8_add_19 rfl (lv_at hl 0 rfl) ?_
    refine gfB (i0 := 0) (own := RX8) (T := TX8) (k := 3) (v := .ref (a_v 3)) hx hb htX8 hown hK hP rfl e8 rfl (by decide) (hW _ wd299) rfl dX8_add_20 ?_
    refine lv_aload_n hx hb dX8_add_23 rfl (lv_at hl 0 rfl) ?_
    refine gfB (i0 := 0) (own := RX8) (T := TX8) (k := 0) (v := .int (s2.1 0)) hx hb htX8 hown hK hP rfl e8 rfl (by decide) (hW _ wd295) rfl dX8_add_24 ?_
    refine lv_iload_n hx hb dX8_add_27 rfl (lv_at hl 2 rfl) ?_
    obtain ⟨s3, es3, hf⟩ := bnd hf
    obtain ⟨gs3, es3⟩ := stS_e es3
    refine astB (i0 := 0) (Bn := [w8 cs o_v a_v s3]) hx hb hK hP hD hS rfl a8_3 gs3 rfl dX8_add_28 (by rw [← es3]; exact v8_3) rfl (fun H locs hP hD hS => ?_)
    refine lv_iload_n hx hb dX8_add_29 rfl (lv_at hl 3 rfl) ?_
    obtain ⟨q4, hq4, hf⟩ := bnd hf
    have Jq4 : ∀ r4 : St, q4 = r4 → ∀ (H : Heap) (locs : List Loc) (ls : Array Slot), va_P D vwCl (List.flatten [w8 cs o_v a_v r4]) H → va_D A (List.flatten [w8 cs o_v a_v r4]) → va_S A s.heap H locs → lv_has ls 4 [(0, .ref o_v)] → W p l e R s m args below meth c H locs 0 0 Q (F0 m 48 ls []) := by
      intro r4 eq4 H locs ls hP hD hS hl
      subst eq4
      refine lv_aload_n hx hb dX8_add_48 rfl (lv_at hl 0 rfl) ?_
      refine lv_dup hx hb dX8_add_49 rfl ?_
      refine gfB (i0 := 0) (own := RX8) (T := TX8) (k := 0) (v := .int (q4.1 0)) hx hb htX8 hown hK hP rfl e8 rfl (by decide) (hW _ wd295) rfl dX8_add_50 ?_
      refine lv_iconst (v := 1) hx hb dX8_add_53 (by decide) ?_
      refine lv_iadd hx hb dX8_add_54 ?_
      obtain ⟨s6, es6, hf⟩ := bnd hf
      replace es6 := Option.some.inj es6
      refine pfB (i0 := 0) (own := RX8) (T := TX8) (k := 0) (Bn := [w8 cs o_v a_v s6]) tyX8 tyX8_ok nmX8 hx hb htX8 hown hK hP hD hS rfl e8 rfl (by decide) (hW _ wd295) rfl rfl rfl (Nat.le_of_ble_eq_true rfl) dX8_add_55 (by rw [← es6]; exact u8_0) rfl (fun H locs hP hD hS => ?_)
      exact Jq1 _ (Option.some.inj hf).symm _ _ _ hP hD hS (lv_sub hl [] rfl)
    clear hf
    have hf := hq4
    refine lv_if_eq (tgt := 48) hx hb dX8_add_30 (by decide) (fun hc => ?_) (fun hc => ?_)
    · have hf := ifp hc hf
      exact Jq4 _ (Option.some.inj hf).symm _ _ _ hP hD hS (lv_sub hl [0] rfl)
    · have hf := ifn hc hf
      refine lv_aload_n hx hb dX8_add_33 rfl (lv_at hl 0 rfl) ?_
      refine lv_dup hx hb dX8_add_34 rfl ?_
      refine gfB (i0 := 0) (own := RX8) (T := TX8) (k := 1) (v := .int (s3.1 1)) hx hb htX8 hown hK hP rfl e8 rfl (by decide) (hW _ wd297) rfl dX8_add_35 ?_
      refine lv_iconst (v := 1) hx hb dX8_add_38 (by decide) ?_
      refine lv_aload_n hx hb dX8_add_39 rfl (lv_at hl 0 rfl) ?_
      refine gfB (i0 := 0) (own := RX8) (T := TX8) (k := 0) (v := .int (s3.1 0)) hx hb htX8 hown hK hP rfl e8 rfl (by decide) (hW _ wd295) rfl dX8_add_40 ?_
      refine lv_ishl hx hb dX8_add_43 ?_
      refine lv_ior hx hb dX8_add_44 ?_
      obtain ⟨s5, es5, hf⟩ := bnd hf
      replace es5 := Option.some.inj es5
      refine pfB (i0 := 0) (own := RX8) (T := TX8) (k := 1) (Bn := [w8 cs o_v a_v s5]) tyX8 tyX8_ok nmX8 hx hb htX8 hown hK hP hD hS rfl e8 rfl (by decide) (hW _ wd297) rfl rfl rfl (Nat.le_of_ble_eq_true rfl) dX8_add_45 (by rw [← es5]; exact u8_1) rfl (fun H locs hP hD hS => ?_)
      exact Jq4 _ (Option.some.inj hf).symm _ _ _ hP hD hS (lv_sub hl [0] rfl)
/-! TwinLamps$Sightings.agree -/
noncomputable def f8_agree_L1 (s_v : St) (x1 : Int32) (x2 : Int32) (v2 : Int32) : Option ((Int32) ⊕ ((Unit) ⊕ (Unit))) :=
  if (s_v.1 0) ≤ v2 then some (.inr (.inr ())) else (ldO 8 (s_v.2 3) v2).bind fun q3 =>
  if q3 = x1 then ((ldO 8 (s_v.2 2) v2).bind fun q4 =>
  if ((x2 >>> (q4 &&& 31)) &&& 1) = (((s_v.1 1) >>> (v2 &&& 31)) &&& 1) then some (.inl (v2 + 1)) else some (.inr (.inl ())))
  else some (.inl (v2 + 1))
noncomputable def f8_agree (s_v : St) (x1 : Int32) (x2 : Int32) : Option (Bool) :=
  (lpw (f8_agree_L1 s_v x1 x2) 0).bind fun q1 =>
  match q1 with
  | .inl r1_0 => (some false)
  | .inr r1_1 => (some true)
set_option maxHeartbeats 4000000 in
set_option maxRecDepth 100000 in
theorem c8_agree (l : Launch) (D : va_G) (cs : xE) (o_v : Nat) (a_v : Nat → Nat) (s_v : St) (sz : Nat) (x1 : Int32) (x2 : Int32) (res : Bool) (hf : f8_agree s_v x1 x2 = some res) : Met l yX8_agree (Cond.code yX8_agree cX8_agree 4 (some .boolean) :: WG) { frames := 0, cells := 0, slots := 0, locals := 0 } (va_Pc [.ref o_v, .int x1, .int x2] (mP D cs (List.flatten [w8 cs o_v a_v s_v]) sz)) (qI D cs (zB res) (List.flatten [w8 cs o_v a_v s_v]) (va_A (List.flatten [w8 cs o_v a_v s_v]) sz)) 0 0 (va_A (List.flatten [w8 cs o_v a_v s_v]) sz) := by
  refine mgo (Qc := qI D cs (zB res) (List.flatten [w8 cs o_v a_v s_v])) (cc := cX8_agree) (maxL := 4) (ret := (some .boolean)) (by decide) rfl (Nat.le_of_ble_eq_true rfl) ?_
  intro p e s m below meth c ls A R Q args H hR hQ hx hb hml hr hlocks hown hts hP hK hD hA hS hG hl
  have hown : s.vm.findClass RX8 = some m.cls := hown
  have hl : lv_has ls 4 [(0, .ref o_v), (1, .int x1), (2, .int x2)] := hl
  have hW : ∀ w ∈ WG, w.before args s = true := fun w h => hts w (List.mem_cons_of_mem _ h)
  have htX8 : ∀ w ∈ u_ws RX8 TX8 4, w.before args s = true := fun w h => hW w (inW_X8 w h)
  unfold f8_agree at hf
  refine lv_iconst (v := 0) hx hb dX8_agree_0 (by decide) ?_
  refine lv_istore_n (lv' := [(3, .int 0), (0, .ref o_v), (1, .int x1), (2, .int x2)]) hx hb dX8_agree_1 rfl hl (by decide) rfl (fun ls hl => ?_)
  obtain ⟨q1, hq1, hf⟩ := bnd hf
  obtain ⟨n1, hq1⟩ := lpw_ex hq1
  have Jq1_0 : ∀ rr1_0 : Unit, q1 = (.inl rr1_0) → ∀ (H : Heap) (locs : List Loc) (ls : Array Slot), va_P D vwCl (List.flatten [w8 cs o_v a_v s_v]) H → va_D A (List.flatten [w8 cs o_v a_v s_v]) → va_S A s.heap H locs → lv_has ls 4 [] → W p l e R s m args below meth c H locs 0 0 Q (F0 m 41 ls []) := by
    intro r1_0 eq1 H locs ls hP hD hS hl
    subst eq1
    try dsimp only at hf
    refine lv_iconst (v := 0) hx hb dX8_agree_41 (by decide) ?_
    obtain rfl := Option.some.inj hf
    exact mretZ hx hb hr hlocks hK hP hD hS rfl hQ dX8_agree_42
  have Jq1_1 : ∀ rr1_1 : Unit, q1 = (.inr rr1_1) → ∀ (H : Heap) (locs : List Loc) (ls : Array Slot), va_P D vwCl (List.flatten [w8 cs o_v a_v s_v]) H → va_D A (List.flatten [w8 cs o_v a_v s_v]) → va_S A s.heap H locs → lv_has ls 4 [] → W p l e R s m args below meth c H locs 0 0 Q (F0 m 49 ls []) := by
    intro r1_1 eq1 H locs ls hP hD hS hl
    subst eq1
    try dsimp only at hf
    refine lv_iconst (v := 1) hx hb dX8_agree_49 (by decide) ?_
    obtain rfl := Option.some.inj hf
    exact mretZ hx hb hr hlocks hK hP hD hS rfl hQ dX8_agree_50
  clear hf
  have L1 : ∀ n1, ∀ v2 : Int32, lp n1 (f8_agree_L1 s_v x1 x2) v2 = some q1 → ∀ (H : Heap) (locs : List Loc) (ls : Array Slot), va_P D vwCl (List.flatten [w8 cs o_v a_v s_v]) H → va_D A (List.flatten [w8 cs o_v a_v s_v]) → va_S A s.heap H locs → lv_has ls 4 [(0, .ref o_v), (1, .int x1), (2, .int x2), (3, .int v2)] → W p l e R s m args below meth c H locs 0 0 Q (F0 m 2 ls []) := by
    intro n1
    induction n1 with
    | zero => intro v2 hn; cases hn
    | succ n1 ih1 =>
      intro v2 hn1 H locs ls hP hD hS hl
      obtain ⟨y1, hf, hn1⟩ := lp_succ hn1
      unfold f8_agree_L1 at hf
      refine lv_iload_n hx hb dX8_agree_2 rfl (lv_at hl 3 rfl) ?_
      refine lv_aload_n hx hb dX8_agree_3 rfl (lv_at hl 0 rfl) ?_
      refine gfB (i0 := 0) (own := RX8) (T := TX8) (k := 0) (v := .int (s_v.1 0)) hx hb htX8 hown hK hP rfl e8 rfl (by decide) (hW _ wd295) rfl dX8_agree_4 ?_
      refine lv_icmp_ge (tgt := 49) hx hb dX8_agree_7 (by decide) (fun hc => ?_) (fun hc => ?_)
      · have hf := ifp hc hf
        cases hf
        exact Jq1_1 _ (Option.some.inj hn1).symm _ _ _ hP hD hS (lv_sub hl [] rfl)
      · have hf := ifn hc hf
        refine lv_aload_n hx hb dX8_agree_10 rfl (lv_at hl 0 rfl) ?_
        refine gfB (i0 := 0) (own := RX8) (T := TX8) (k := 3) (v := .ref (a_v 3)) hx hb htX8 hown hK hP rfl e8 rfl (by decide) (hW _ wd299) rfl dX8_agree_11 ?_
        refine lv_iload_n hx hb dX8_agree_14 rfl (lv_at hl 3 rfl) ?_
        obtain ⟨q3, eq3, hf⟩ := bnd hf
        obtain ⟨gq3, eq3⟩ := ldO_e eq3
        refine aldB (i0 := 0) hx hb hK hP rfl a8_3 gq3 dX8_agree_15 ?_
        refine lv_nm eq3 ?_
        refine lv_iload_n hx hb dX8_agree_16 rfl (lv_at hl 1 rfl) ?_
        refine lv_icmp_ne (tgt := 43) hx hb dX8_agree_17 (by decide) (fun hc => ?_) (fun hc => ?_)
        · have hf := ifn hc hf
          refine lv_iinc (v := (v2 + 1)) (lv' := [(3, .int (v2 + 1)), (0, .ref o_v), (1, .int x1), (2, .int x2)]) hx hb dX8_agree_43 hl (k := 3) rfl rfl (by decide) rfl (fun ls hl => ?_)
          refine lv_goto (tgt := 2) hx hb dX8_agree_46 (by decide) ?_
          cases hf
          exact ih1 _ hn1 _ _ _ hP hD hS (lv_sub hl [1, 2, 3, 0] rfl)
        · have hf := ifp hc hf
          refine lv_iload_n hx hb dX8_agree_20 rfl (lv_at hl 2 rfl) ?_
          refine lv_aload_n hx hb dX8_agree_21 rfl (lv_at hl 0 rfl) ?_
          refine gfB (i0 := 0) (own := RX8) (T := TX8) (k := 2) (v := .ref (a_v 2)) hx hb htX8 hown hK hP rfl e8 rfl (by decide) (hW _ wd298) rfl dX8_agree_22 ?_
          refine lv_iload_n hx hb dX8_agree_25 rfl (lv_at hl 3 rfl) ?_
          obtain ⟨q4, eq4, hf⟩ := bnd hf
          obtain ⟨gq4, eq4⟩ := ldO_e eq4
          refine aldB (i0 := 0) hx hb hK hP rfl a8_2 gq4 dX8_agree_26 ?_
          refine lv_nm eq4 ?_
          refine lv_ishr hx hb dX8_agree_27 ?_
          refine lv_iconst (v := 1) hx hb dX8_agree_28 (by decide) ?_
          refine lv_iand hx hb dX8_agree_29 ?_
          refine lv_aload_n hx hb dX8_agree_30 rfl (lv_at hl 0 rfl) ?_
          refine gfB (i0 := 0) (own := RX8) (T := TX8) (k := 1) (v := .int (s_v.1 1)) hx hb htX8 hown hK hP rfl e8 rfl (by decide) (hW _ wd297) rfl dX8_agree_31 ?_
          refine lv_iload_n hx hb dX8_agree_34 rfl (lv_at hl 3 rfl) ?_
          refine lv_ishr hx hb dX8_agree_35 ?_
          refine lv_iconst (v := 1) hx hb dX8_agree_36 (by decide) ?_
          refine lv_iand hx hb dX8_agree_37 ?_
          refine lv_icmp_eq (tgt := 43) hx hb dX8_agree_38 (by decide) (fun hc => ?_) (fun hc => ?_)
          · have hf := ifp hc hf
            refine lv_iinc (v := (v2 + 1)) (lv' := [(3, .int (v2 + 1)), (0, .ref o_v), (1, .int x1), (2, .int x2)]) hx hb dX8_agree_43 hl (k := 3) rfl rfl (by decide) rfl (fun ls hl => ?_)
            refine lv_goto (tgt := 2) hx hb dX8_agree_46 (by decide) ?_
            cases hf
            exact ih1 _ hn1 _ _ _ hP hD hS (lv_sub hl [1, 2, 3, 0] rfl)
          · have hf := ifn hc hf
            cases hf
            exact Jq1_0 _ (Option.some.inj hn1).symm _ _ _ hP hD hS (lv_sub hl [] rfl)
  exact L1 _ _ hq1 _ _ _ hP hD hS (lv_sub hl [1, 2, 3, 0] rfl)
