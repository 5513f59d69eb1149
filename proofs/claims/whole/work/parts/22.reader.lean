/-! the reader -/
def fs6 (a : Nat → Nat) (σ : St) : List Value := [.ref (a 0), .ref (a 1), .int (σ.1 2), .int (σ.1 3), .ref (a 4), .int (σ.1 5), .int (σ.1 6), .int (σ.1 7), .int (σ.1 8), .int (σ.1 9), .int (σ.1 10), .int (σ.1 11)]
def w6 (cs : xE) (o : Nat) (a : Nat → Nat) (σ : St) : va_W := [(o, .inr (6, fs6 a σ)), (a 4, .inl (cs.1 1, 600, .inl (σ.2 4)))]
theorem e6 {cs : xE} {o : Nat} {a : Nat → Nat} {σ : St} : (w6 cs o a σ)[0]? = some (o, .inr (6, fs6 a σ)) := rfl
theorem u6_2 {cs : xE} {o : Nat} {a : Nat → Nat} {σ : St} {v : Int32} : (w6 cs o a σ).set 0 (o, .inr (6, (fs6 a σ).set 2 (.int v))) = w6 cs o a (sS σ 2 v) := rfl
theorem u6_3 {cs : xE} {o : Nat} {a : Nat → Nat} {σ : St} {v : Int32} : (w6 cs o a σ).set 0 (o, .inr (6, (fs6 a σ).set 3 (.int v))) = w6 cs o a (sS σ 3 v) := rfl
theorem u6_5 {cs : xE} {o : Nat} {a : Nat → Nat} {σ : St} {v : Int32} : (w6 cs o a σ).set 0 (o, .inr (6, (fs6 a σ).set 5 (.int v))) = w6 cs o a (sS σ 5 v) := rfl
theorem u6_6 {cs : xE} {o : Nat} {a : Nat → Nat} {σ : St} {v : Int32} : (w6 cs o a σ).set 0 (o, .inr (6, (fs6 a σ).set 6 (.int v))) = w6 cs o a (sS σ 6 v) := rfl
theorem u6_7 {cs : xE} {o : Nat} {a : Nat → Nat} {σ : St} {v : Int32} : (w6 cs o a σ).set 0 (o, .inr (6, (fs6 a σ).set 7 (.int v))) = w6 cs o a (sS σ 7 v) := rfl
theorem u6_8 {cs : xE} {o : Nat} {a : Nat → Nat} {σ : St} {v : Int32} : (w6 cs o a σ).set 0 (o, .inr (6, (fs6 a σ).set 8 (.int v))) = w6 cs o a (sS σ 8 v) := rfl
theorem u6_9 {cs : xE} {o : Nat} {a : Nat → Nat} {σ : St} {v : Int32} : (w6 cs o a σ).set 0 (o, .inr (6, (fs6 a σ).set 9 (.int v))) = w6 cs o a (sS σ 9 v) := rfl
theorem u6_10 {cs : xE} {o : Nat} {a : Nat → Nat} {σ : St} {v : Int32} : (w6 cs o a σ).set 0 (o, .inr (6, (fs6 a σ).set 10 (.int v))) = w6 cs o a (sS σ 10 v) := rfl
theorem u6_11 {cs : xE} {o : Nat} {a : Nat → Nat} {σ : St} {v : Int32} : (w6 cs o a σ).set 0 (o, .inr (6, (fs6 a σ).set 11 (.int v))) = w6 cs o a (sS σ 11 v) := rfl
theorem a6_4 {cs : xE} {o : Nat} {a : Nat → Nat} {σ : St} : (w6 cs o a σ)[1]? = some (a 4, .inl (cs.1 1, 600, .inl (σ.2 4))) := rfl
theorem v6_4 {cs : xE} {o : Nat} {a : Nat → Nat} {σ : St} {f : Nat → Int32} : (w6 cs o a σ).set 1 (a 4, .inl (cs.1 1, 600, .inl f)) = w6 cs o a (sA σ 4 f) := rfl
/-! TwinLamps$Reader.isBlank -/
noncomputable def f6_isBlank (x0 : Int32) : Option (Bool) :=
  if x0 = 32 then some true else if x0 = 10 then some true else some false
set_option maxHeartbeats 4000000 in
set_option maxRecDepth 100000 in
theorem c6_isBlank (l : Launch) (D : va_G) (cs : xE) (sz : Nat) (x0 : Int32) (res : Bool) (hf : f6_isBlank x0 = some res) : Met l yX6_isBlank (Cond.code yX6_isBlank cX6_isBlank 1 (some .boolean) :: WG) { frames := 0, cells := 0, slots := 0, locals := 0 } (va_Pc [.int x0] (mP D cs (List.flatten []) sz)) (qI D cs (zB res) (List.flatten []) (va_A (List.flatten []) sz)) 0 0 (va_A (List.flatten []) sz) := by
  refine mgo (Qc := qI D cs (zB res) (List.flatten [])) (cc := cX6_isBlank) (maxL := 1) (ret := (some .boolean)) (by decide) rfl (Nat.le_of_ble_eq_true rfl) ?_
  intro p e s m below meth c ls A R Q args H hR hQ hx hb hml hr hlocks hown hts hP hK hD hA hS hG hl
  have hown : s.vm.findClass RX6 = some m.cls := hown
  have hl : lv_has ls 1 [(0, .int x0)] := hl
  have hW : ∀ w ∈ WG, w.before args s = true := fun w h => hts w (List.mem_cons_of_mem _ h)
  unfold f6_isBlank at hf
  refine lv_iload_n hx hb dX6_isBlank_0 rfl (lv_at hl 0 rfl) ?_
  refine lv_bipush (v := 32) hx hb dX6_isBlank_1 (by decide) ?_
  refine lv_icmp_eq (tgt := 12) hx hb dX6_isBlank_3 (by decide) (fun hc => ?_) (fun hc => ?_)
  · have hf := ifp hc hf
    refine lv_iconst (v := 1) hx hb dX6_isBlank_12 (by decide) ?_
    refine lv_goto (tgt := 17) hx hb dX6_isBlank_13 (by decide) ?_
    obtain rfl := Option.some.inj hf
    exact mretZ hx hb hr hlocks hK hP hD hS rfl hQ dX6_isBlank_17
  · have hf := ifn hc hf
    refine lv_iload_n hx hb dX6_isBlank_6 rfl (lv_at hl 0 rfl) ?_
    refine lv_bipush (v := 10) hx hb dX6_isBlank_7 (by decide) ?_
    refine lv_icmp_ne (tgt := 16) hx hb dX6_isBlank_9 (by decide) (fun hc => ?_) (fun hc => ?_)
    · have hf := ifn hc hf
      refine lv_iconst (v := 0) hx hb dX6_isBlank_16 (by decide) ?_
      obtain rfl := Option.some.inj hf
      exact mretZ hx hb hr hlocks hK hP hD hS rfl hQ dX6_isBlank_17
    · have hf := ifp hc hf
      refine lv_iconst (v := 1) hx hb dX6_isBlank_12 (by decide) ?_
      refine lv_goto (tgt := 17) hx hb dX6_isBlank_13 (by decide) ?_
      obtain rfl := Option.some.inj hf
      exact mretZ hx hb hr hlocks hK hP hD hS rfl hQ dX6_isBlank_17
/-! TwinLamps$Reader.isLetter -/
noncomputable def f6_isLetter (x0 : Int32) : Option (Bool) :=
  if x0 < 97 then some false else if (122 : Int32) < x0 then some false else some true
set_option maxHeartbeats 4000000 in
set_option maxRecDepth 100000 in
theorem c6_isLetter (l : Launch) (D : va_G) (cs : xE) (sz : Nat) (x0 : Int32) (res : Bool) (hf : f6_isLetter x0 = some res) : Met l yX6_isLetter (Cond.code yX6_isLetter cX6_isLetter 1 (some .boolean) :: WG) { frames := 0, cells := 0, slots := 0, locals := 0 } (va_Pc [.int x0] (mP D cs (List.flatten []) sz)) (qI D cs (zB res) (List.flatten []) (va_A (List.flatten []) sz)) 0 0 (va_A (List.flatten []) sz) := by
  refine mgo (Qc := qI D cs (zB res) (List.flatten [])) (cc := cX6_isLetter) (maxL := 1) (ret := (some .boolean)) (by decide) rfl (Nat.le_of_ble_eq_true rfl) ?_
  intro p e s m below meth c ls A R Q args H hR hQ hx hb hml hr hlocks hown hts hP hK hD hA hS hG hl
  have hown : s.vm.findClass RX6 = some m.cls := hown
  have hl : lv_has ls 1 [(0, .int x0)] := hl
  have hW : ∀ w ∈ WG, w.before args s = true := fun w h => hts w (List.mem_cons_of_mem _ h)
  unfold f6_isLetter at hf
  refine lv_iload_n hx hb dX6_isLetter_0 rfl (lv_at hl 0 rfl) ?_
  refine lv_bipush (v := 97) hx hb dX6_isLetter_1 (by decide) ?_
  refine lv_icmp_lt (tgt := 16) hx hb dX6_isLetter_3 (by decide) (fun hc => ?_) (fun hc => ?_)
  · have hf := ifp hc hf
    refine lv_iconst (v := 0) hx hb dX6_isLetter_16 (by decide) ?_
    obtain rfl := Option.some.inj hf
    exact mretZ hx hb hr hlocks hK hP hD hS rfl hQ dX6_isLetter_17
  · have hf := ifn hc hf
    refine lv_iload_n hx hb dX6_isLetter_6 rfl (lv_at hl 0 rfl) ?_
    refine lv_bipush (v := 122) hx hb dX6_isLetter_7 (by decide) ?_
    refine lv_icmp_gt (tgt := 16) hx hb dX6_isLetter_9 (by decide) (fun hc => ?_) (fun hc => ?_)
    · have hf := ifp hc hf
      refine lv_iconst (v := 0) hx hb dX6_isLetter_16 (by decide) ?_
      obtain rfl := Option.some.inj hf
      exact mretZ hx hb hr hlocks hK hP hD hS rfl hQ dX6_isLetter_17
    · have hf := ifn hc hf
      refine lv_iconst (v := 1) hx hb dX6_isLetter_12 (by decide) ?_
      refine lv_goto (tgt := 17) hx hb dX6_isLetter_13 (by decide) ?_
      obtain rfl := Option.some.inj hf
      exact mretZ hx hb hr hlocks hK hP hD hS rfl hQ dX6_isLetter_17
/-! TwinLamps$Reader.textOf -/
noncomputable def f6_textOf (x0 : Int32) : Option (Nat) :=
  if (x0 - 300) = 0 then (some 0)
  else if (x0 - 300) = 1 then (some 1)
  else if (x0 - 300) = 2 then (some 2)
  else if (x0 - 300) = 3 then (some 3)
  else if (x0 - 300) = 4 then (some 4)
  else if (x0 - 300) = 5 then (some 5)
  else if (x0 - 300) = 6 then (some 6)
  else if (x0 - 300) = 7 then (some 7)
  else if (x0 - 300) = 8 then (some 8)
  else if (x0 - 300) = 9 then (some 9)
  else if (x0 - 300) = 10 then (some 10)
  else if (x0 - 300) = 11 then (some 11)
  else if (x0 - 300) = 12 then (some 12)
  else if (x0 - 300) = 13 then (some 13)
  else if (x0 - 300) = 14 then (some 14)
  else some 15
set_option maxHeartbeats 4000000 in
set_option maxRecDepth 100000 in
theorem c6_textOf (l : Launch) (D : va_G) (cs : xE) (sz : Nat) (x0 : Int32) (res : Nat) (hf : f6_textOf x0 = some res) : Met l yX6_textOf (Cond.code yX6_textOf cX6_textOf 1 (some (.object "java/lang/String")) :: WG) { frames := 0, cells := 0, slots := 0, locals := 0 } (va_Pc [.int x0] (mP D cs (List.flatten []) sz)) (qR D cs (cs.2.1 res) (List.flatten []) (va_A (List.flatten []) sz)) 0 0 (va_A (List.flatten []) sz) := by
  refine mgo (Qc := qR D cs (cs.2.1 res) (List.flatten [])) (cc := cX6_textOf) (maxL := 1) (ret := (some (.object "java/lang/String"))) (by decide) rfl (Nat.le_of_ble_eq_true rfl) ?_
  intro p e s m below meth c ls A R Q args H hR hQ hx hb hml hr hlocks hown hts hP hK hD hA hS hG hl
  have hown : s.vm.findClass RX6 = some m.cls := hown
  have hl : lv_has ls 1 [(0, .int x0)] := hl
  have hW : ∀ w ∈ WG, w.before args s = true := fun w h => hts w (List.mem_cons_of_mem _ h)
  unfold f6_textOf at hf
  refine lv_iload_n hx hb dX6_textOf_0 rfl (lv_at hl 0 rfl) ?_
  refine lv_sipush (v := 300) hx hb dX6_textOf_1 (by decide) ?_
  refine lv_isub hx hb dX6_textOf_4 ?_
  by_cases hk0 : (x0 - 300) = 0
  · have hf := ifp hk0 hf
    refine lv_tableIn (off := 75) (tgt := 80) hx hb dX6_textOf_5 (by rw [hk0]; decide) (by rw [hk0]; decide) (by rw [hk0]; rfl) (by decide) ?_
    refine va_ldcS (own := "TwinLamps$Reader") (tx := "home") (index := 170) (q := cs.2.1 0) hx hb hown (hG.1 ("TwinLamps$Reader", 170, "home", 0) (by decide +kernel)) dX6_textOf_80 ?_
    obtain rfl := Option.some.inj hf
    exact mretR hx hb hr hlocks hK hP hD hS hQ dX6_textOf_82
  have hf := ifn hk0 hf
  by_cases hk1 : (x0 - 300) = 1
  · have hf := ifp hk1 hf
    refine lv_tableIn (off := 78) (tgt := 83) hx hb dX6_textOf_5 (by rw [hk1]; decide) (by rw [hk1]; decide) (by rw [hk1]; rfl) (by decide) ?_
    refine va_ldcS (own := "TwinLamps$Reader") (tx := "tower") (index := 172) (q := cs.2.1 1) hx hb hown (hG.1 ("TwinLamps$Reader", 172, "tower", 1) (by decide +kernel)) dX6_textOf_83 ?_
    obtain rfl := Option.some.inj hf
    exact mretR hx hb hr hlocks hK hP hD hS hQ dX6_textOf_85
  have hf := ifn hk1 hf
  by_cases hk2 : (x0 - 300) = 2
  · have hf := ifp hk2 hf
    refine lv_tableIn (off := 81) (tgt := 86) hx hb dX6_textOf_5 (by rw [hk2]; decide) (by rw [hk2]; decide) (by rw [hk2]; rfl) (by decide) ?_
    refine va_ldcS (own := "TwinLamps$Reader") (tx := "alley") (index := 174) (q := cs.2.1 2) hx hb hown (hG.1 ("TwinLamps$Reader", 174, "alley", 2) (by decide +kernel)) dX6_textOf_86 ?_
    obtain rfl := Option.some.inj hf
    exact mretR hx hb hr hlocks hK hP hD hS hQ dX6_textOf_88
  have hf := ifn hk2 hf
  by_cases hk3 : (x0 - 300) = 3
  · have hf := ifp hk3 hf
    refine lv_tableIn (off := 84) (tgt := 89) hx hb dX6_textOf_5 (by rw [hk3]; decide) (by rw [hk3]; decide) (by rw [hk3]; rfl) (by decide) ?_
    refine va_ldcS (own := "TwinLamps$Reader") (tx := "ballroom") (index := 176) (q := cs.2.1 3) hx hb hown (hG.1 ("TwinLamps$Reader", 176, "ballroom", 3) (by decide +kernel)) dX6_textOf_89 ?_
    obtain rfl := Option.some.inj hf
    exact mretR hx hb hr hlocks hK hP hD hS hQ dX6_textOf_91
  have hf := ifn hk3 hf
  by_cases hk4 : (x0 - 300) = 4
  · have hf := ifp hk4 hf
    refine lv_tableIn (off := 87) (tgt := 92) hx hb dX6_textOf_5 (by rw [hk4]; decide) (by rw [hk4]; decide) (by rw [hk4]; rfl) (by decide) ?_
    refine va_ldcS (own := "TwinLamps$Reader") (tx := "lamp") (index := 178) (q := cs.2.1 4) hx hb hown (hG.1 ("TwinLamps$Reader", 178, "lamp", 4) (by decide +kernel)) dX6_textOf_92 ?_
    obtain rfl := Option.some.inj hf
    exact mretR hx hb hr hlocks hK hP hD hS hQ dX6_textOf_94
  have hf := ifn hk4 hf
  by_cases hk5 : (x0 - 300) = 5
  · have hf := ifp hk5 hf
    refine lv_tableIn (off := 90) (tgt := 95) hx hb dX6_textOf_5 (by rw [hk5]; decide) (by rw [hk5]; decide) (by rw [hk5]; rfl) (by decide) ?_
    refine va_ldcS (own := "TwinLamps$Reader") (tx := "twins") (index := 180) (q := cs.2.1 5) hx hb hown (hG.1 ("TwinLamps$Reader", 180, "twins", 5) (by decide +kernel)) dX6_textOf_95 ?_
    obtain rfl := Option.some.inj hf
    exact mretR hx hb hr hlocks hK hP hD hS hQ dX6_textOf_97
  have hf := ifn hk5 hf
  by_cases hk6 : (x0 - 300) = 6
  · have hf := ifp hk6 hf
    refine lv_tableIn (off := 93) (tgt := 98) hx hb dX6_textOf_5 (by rw [hk6]; decide) (by rw [hk6]; decide) (by rw [hk6]; rfl) (by decide) ?_
    refine va_ldcS (own := "TwinLamps$Reader") (tx := "wants") (index := 182) (q := cs.2.1 6) hx hb hown (hG.1 ("TwinLamps$Reader", 182, "wants", 6) (by decide +kernel)) dX6_textOf_98 ?_
    obtain rfl := Option.some.inj hf
    exact mretR hx hb hr hlocks hK hP hD hS hQ dX6_textOf_100
  have hf := ifn hk6 hf
  by_cases hk7 : (x0 - 300) = 7
  · have hf := ifp hk7 hf
    refine lv_tableIn (off := 96) (tgt := 101) hx hb dX6_textOf_5 (by rw [hk7]; decide) (by rw [hk7]; decide) (by rw [hk7]; rfl) (by decide) ?_
    refine va_ldcS (own := "TwinLamps$Reader") (tx := "or") (index := 184) (q := cs.2.1 7) hx hb hown (hG.1 ("TwinLamps$Reader", 184, "or", 7) (by decide +kernel)) dX6_textOf_101 ?_
    obtain rfl := Option.some.inj hf
    exact mretR hx hb hr hlocks hK hP hD hS hQ dX6_textOf_103
  have hf := ifn hk7 hf
  by_cases hk8 : (x0 - 300) = 8
  · have hf := ifp hk8 hf
    refine lv_tableIn (off := 99) (tgt := 104) hx hb dX6_textOf_5 (by rw [hk8]; decide) (by rw [hk8]; decide) (by rw [hk8]; rfl) (by decide) ?_
    refine va_ldcS (own := "TwinLamps$Reader") (tx := "and") (index := 186) (q := cs.2.1 8) hx hb hown (hG.1 ("TwinLamps$Reader", 186, "and", 8) (by decide +kernel)) dX6_textOf_104 ?_
    obtain rfl := Option.some.inj hf
    exact mretR hx hb hr hlocks hK hP hD hS hQ dX6_textOf_106
  have hf := ifn hk8 hf
  by_cases hk9 : (x0 - 300) = 9
  · have hf := ifp hk9 hf
    refine lv_tableIn (off := 102) (tgt := 107) hx hb dX6_textOf_5 (by rw [hk9]; decide) (by rw [hk9]; decide) (by rw [hk9]; rfl) (by decide) ?_
    refine va_ldcS (own := "TwinLamps$Reader") (tx := "not") (index := 188) (q := cs.2.1 9) hx hb hown (hG.1 ("TwinLamps$Reader", 188, "not", 9) (by decide +kernel)) dX6_textOf_107 ?_
    obtain rfl := Option.some.inj hf
    exact mretR hx hb hr hlocks hK hP hD hS hQ dX6_textOf_109
  have hf := ifn hk9 hf
  by_cases hk10 : (x0 - 300) = 10
  · have hf := ifp hk10 hf
    refine lv_tableIn (off := 105) (tgt := 110) hx hb dX6_textOf_5 (by rw [hk10]; decide) (by rw [hk10]; decide) (by rw [hk10]; rfl) (by decide) ?_
    refine va_ldcS (own := "TwinLamps$Reader") (tx := "hour") (index := 190) (q := cs.2.1 10) hx hb hown (hG.1 ("TwinLamps$Reader", 190, "hour", 10) (by decide +kernel)) dX6_textOf_110 ?_
    obtain rfl := Option.some.inj hf
    exact mretR hx hb hr hlocks hK hP hD hS hQ dX6_textOf_112
  have hf := ifn hk10 hf
  by_cases hk11 : (x0 - 300) = 11
  · have hf := ifp hk11 hf
    refine lv_tableIn (off := 108) (tgt := 113) hx hb dX6_textOf_5 (by rw [hk11]; decide) (by rw [hk11]; decide) (by rw [hk11]; rfl) (by decide) ?_
    refine va_ldcS (own := "TwinLamps$Reader") (tx := "kind") (index := 192) (q := cs.2.1 11) hx hb hown (hG.1 ("TwinLamps$Reader", 192, "kind", 11) (by decide +kernel)) dX6_textOf_113 ?_
    obtain rfl := Option.some.inj hf
    exact mretR hx hb hr hlocks hK hP hD hS hQ dX6_textOf_115
  have hf := ifn hk11 hf
  by_cases hk12 : (x0 - 300) = 12
  · have hf := ifp hk12 hf
    refine lv_tableIn (off := 111) (tgt := 116) hx hb dX6_textOf_5 (by rw [hk12]; decide) (by rw [hk12]; decide) (by rw [hk12]; rfl) (by decide) ?_
    refine va_ldcS (own := "TwinLamps$Reader") (tx := "oil") (index := 194) (q := cs.2.1 12) hx hb hown (hG.1 ("TwinLamps$Reader", 194, "oil", 12) (by decide +kernel)) dX6_textOf_116 ?_
    obtain rfl := Option.some.inj hf
    exact mretR hx hb hr hlocks hK hP hD hS hQ dX6_textOf_118
  have hf := ifn hk12 hf
  by_cases hk13 : (x0 - 300) = 13
  · have hf := ifp hk13 hf
    refine lv_tableIn (off := 114) (tgt := 119) hx hb dX6_textOf_5 (by rw [hk13]; decide) (by rw [hk13]; decide) (by rw [hk13]; rfl) (by decide) ?_
    refine va_ldcS (own := "TwinLamps$Reader") (tx := "house") (index := 196) (q := cs.2.1 13) hx hb hown (hG.1 ("TwinLamps$Reader", 196, "house", 13) (by decide +kernel)) dX6_textOf_119 ?_
    obtain rfl := Option.some.inj hf
    exact mretR hx hb hr hlocks hK hP hD hS hQ dX6_textOf_121
  have hf := ifn hk13 hf
  by_cases hk14 : (x0 - 300) = 14
  · have hf := ifp hk14 hf
    refine lv_tableIn (off := 117) (tgt := 122) hx hb dX6_textOf_5 (by rw [hk14]; decide) (by rw [hk14]; decide) (by rw [hk14]; rfl) (by decide) ?_
    refine va_ldcS (own := "TwinLamps$Reader") (tx := "lamps") (index := 198) (q := cs.2.1 14) hx hb hown (hG.1 ("TwinLamps$Reader", 198, "lamps", 14) (by decide +kernel)) dX6_textOf_122 ?_
    obtain rfl := Option.some.inj hf
    exact mretR hx hb hr hlocks hK hP hD hS hQ dX6_textOf_124
  have hf := ifn hk14 hf
  refine lv_tableOut (tgt := 125) hx hb dX6_textOf_5 (by have ihk0 : ((x0 - 300) : Int32).toInt ≠ 0 := fun z => tI_ne hk0 (z.trans (by decide +kernel)); have ihk1 : ((x0 - 300) : Int32).toInt ≠ 1 := fun z => tI_ne hk1 (z.trans (by decide +kernel)); have ihk2 : ((x0 - 300) : Int32).toInt ≠ 2 := fun z => tI_ne hk2 (z.trans (by decide +kernel)); have ihk3 : ((x0 - 300) : Int32).toInt ≠ 3 := fun z => tI_ne hk3 (z.trans (by decide +kernel)); have ihk4 : ((x0 - 300) : Int32).toInt ≠ 4 := fun z => tI_ne hk4 (z.trans (by decide +kernel)); have ihk5 : ((x0 - 300) : Int32).toInt ≠ 5 := fun z => tI_ne hk5 (z.trans (by decide +kernel)); have ihk6 : ((x0 - 300) : Int32).toInt ≠ 6 := fun z => tI_ne hk6 (z.trans (by decide +kernel)); have ihk7 : ((x0 - 300) : Int32).toInt ≠ 7 := fun z => tI_ne hk7 (z.trans (by decide +kernel)); have ihk8 : ((x0 - 300) : Int32).toInt ≠ 8 := fun z => tI_ne hk8 (z.trans (by decide +kernel)); have ihk9 : ((x0 - 300) : Int32).toInt ≠ 9 := fun z => tI_ne hk9 (z.trans (by decide +kernel)); have ihk10 : ((x0 - 300) : Int32).toInt ≠ 10 := fun z => tI_ne hk10 (z.trans (by decide +kernel)); have ihk11 : ((x0 - 300) : Int32).toInt ≠ 11 := fun z => tI_ne hk11 (z.trans (by decide +kernel)); have ihk12 : ((x0 - 300) : Int32).toInt ≠ 12 := fun z => tI_ne hk12 (z.trans (by decide +kernel)); have ihk13 : ((x0 - 300) : Int32).toInt ≠ 13 := fun z => tI_ne hk13 (z.trans (by decide +kernel)); have ihk14 : ((x0 - 300) : Int32).toInt ≠ 14 := fun z => tI_ne hk14 (z.trans (by decide +kernel)); omega) (by decide) ?_
  refine va_ldcS (own := "TwinLamps$Reader") (tx := "awake") (index := 199) (q := cs.2.1 15) hx hb hown (hG.1 ("TwinLamps$Reader", 199, "awake", 15) (by decide +kernel)) dX6_textOf_125 ?_
  obtain rfl := Option.some.inj hf
  exact mretR hx hb hr hlocks hK hP hD hS hQ dX6_textOf_127
/-! TwinLamps$Reader.isSpelt -/
noncomputable def f6_isSpelt_L1 (s_r : St) (x1 : Nat) (v2 : Int32) : Option ((Int32) ⊕ ((Unit) ⊕ (Unit))) :=
  if (nI (xLen.getD x1 0)) ≤ v2 then some (.inr (.inr ())) else if (s_r.1 5) ≤ ((s_r.1 8) + v2) then some (.inr (.inr ())) else (chO x1 v2).bind fun q3 =>
  (ldO 600 (s_r.2 4) ((s_r.1 8) + v2)).bind fun q4 =>
  if q3 = q4 then some (.inl (v2 + 1)) else some (.inr (.inl ()))
noncomputable def f6_isSpelt (s_r : St) (x1 : Nat) : Option (Bool) :=
  if (nI (xLen.getD x1 0)) = ((s_r.1 9) - (s_r.1 8)) then ((lpw (f6_isSpelt_L1 s_r x1) 0).bind fun q1 =>
  match q1 with
  | .inl r1_0 => (some false)
  | .inr r1_1 => (some true))
  else some false
set_option maxHeartbeats 4000000 in
set_option maxRecDepth 100000 in
theorem c6_isSpelt (l : Launch) (D : va_G) (cs : xE) (o_r : Nat) (a_r : Nat → Nat) (s_r : St) (sz : Nat) (x1 : Nat) (h_x1 : x1 < 16) (res : Bool) (hf : f6_isSpelt s_r x1 = some res) : Met l yX6_isSpelt (Cond.code yX6_isSpelt cX6_isSpelt 3 (some .boolean) :: WG) { frames := 5, cells := 0, slots := 0, locals := 150 } (va_Pc [.ref o_r, .ref (cs.2.1 x1)] (mP D cs (List.flatten [w6 cs o_r a_r s_r]) sz)) (qI D cs (zB res) (List.flatten [w6 cs o_r a_r s_r]) (va_A (List.flatten [w6 cs o_r a_r s_r]) sz)) 0 0 (va_A (List.flatten [w6 cs o_r a_r s_r]) sz) := by
  refine mgo (Qc := qI D cs (zB res) (List.flatten [w6 cs o_r a_r s_r])) (cc := cX6_isSpelt) (maxL := 3) (ret := (some .boolean)) (by decide) rfl (Nat.le_of_ble_eq_true rfl) ?_
  intro p e s m below meth c ls A R Q args H hR hQ hx hb hml hr hlocks hown hts hP hK hD hA hS hG hl
  have hown : s.vm.findClass RX6 = some m.cls := hown
  have hl : lv_has ls 3 [(0, .ref o_r), (1, .ref (cs.2.1 x1))] := hl
  have hW : ∀ w ∈ WG, w.before args s = true := fun w h => hts w (List.mem_cons_of_mem _ h)
  have htX6 : ∀ w ∈ u_ws RX6 TX6 12, w.before args s = true := fun w h => hW w (inW_X6 w h)
  unfold f6_isSpelt at hf
  refine lv_aload_n hx hb dX6_isSpelt_0 rfl (lv_at hl 1 rfl) ?_
  refine mcVi0 (v := (nI (xLen.getD x1 0))) (rest := []) ⟨hx, hb, hml, hown, hts⟩ hK hP hS hA hG (cJ0_length l D cs H.size x1 h_x1) (cwV 0 hts (gV wd737 wd738 wd739 wd121 wd740) rfl rfl rfl (by decide +kernel) ⟨by rw [hR]; exact Nat.le_of_ble_eq_true rfl, by rw [hR]; exact Nat.le_of_ble_eq_true rfl⟩) (vk_recv hG.2.1 h_x1 hS) rfl hl.1 rfl (Nat.le_of_ble_eq_true rfl) ⟨Nat.zero_le _, Nat.zero_le _⟩ dX6_isSpelt_1 (fun H locs hP hS => ?_)
  refine lv_aload_n hx hb dX6_isSpelt_4 rfl (lv_at hl 0 rfl) ?_
  refine gfB (i0 := 0) (own := RX6) (T := TX6) (k := 9) (v := .int (s_r.1 9)) hx hb htX6 hown hK hP rfl e6 rfl (by decide) (hW _ wd239) rfl dX6_isSpelt_5 ?_
  refine lv_aload_n hx hb dX6_isSpelt_8 rfl (lv_at hl 0 rfl) ?_
  refine gfB (i0 := 0) (own := RX6) (T := TX6) (k := 8) (v := .int (s_r.1 8)) hx hb htX6 hown hK hP rfl e6 rfl (by decide) (hW _ wd238) rfl dX6_isSpelt_9 ?_
  refine lv_isub hx hb dX6_isSpelt_12 ?_
  refine lv_icmp_eq (tgt := 18) hx hb dX6_isSpelt_13 (by decide) (fun hc => ?_) (fun hc => ?_)
  · have hf := ifp hc hf
    refine lv_iconst (v := 0) hx hb dX6_isSpelt_18 (by decide) ?_
    refine lv_istore_n (lv' := [(2, .int 0), (0, .ref o_r), (1, .ref (cs.2.1 x1))]) hx hb dX6_isSpelt_19 rfl hl (by decide) rfl (fun ls hl => ?_)
    obtain ⟨q1, hq1, hf⟩ := bnd hf
    obtain ⟨n1, hq1⟩ := lpw_ex hq1
    have Jq1_0 : ∀ rr1_0 : Unit, q1 = (.inl rr1_0) → ∀ (H : Heap) (locs : List Loc) (ls : Array Slot), va_P D vwCl (List.flatten [w6 cs o_r a_r s_r]) H → va_D A (List.flatten [w6 cs o_r a_r s_r]) → va_S A s.heap H locs → lv_has ls 3 [] → W p l e R s m args below meth c H locs 0 0 Q (F0 m 60 ls []) := by
      intro r1_0 eq1 H locs ls hP hD hS hl
      subst eq1
      try dsimp only at hf
      refine lv_iconst (v := 0) hx hb dX6_isSpelt_60 (by decide) ?_
      obtain rfl := Option.some.inj hf
      exact mretZ hx hb hr hlocks hK hP hD hS rfl hQ dX6_isSpelt_61
    have Jq1_1 : ∀ rr1_1 : Unit, q1 = (.inr rr1_1) → ∀ (H : Heap) (locs : List Loc) (ls : Array Slot), va_P D vwCl (List.flatten [w6 cs o_r a_r s_r]) H → va_D A (List.flatten [w6 cs o_r a_r s_r]) → va_S A s.heap H locs → lv_has ls 3 [] → W p l e R s m args below meth c H locs 0 0 Q (F0 m 68 ls []) := by
      intro r1_1 eq1 H locs ls hP hD hS hl
      subst eq1
      try dsimp only at hf
      refine lv_iconst (v := 1) hx hb dX6_isSpelt_68 (by decide) ?_
      obtain rfl := Option.some.inj hf
      exact mretZ hx hb hr hlocks hK hP hD hS rfl hQ dX6_isSpelt_69
    clear hf
    have L1 : ∀ n1, ∀ v2 : Int32, lp n1 (f6_isSpelt_L1 s_r x1) v2 = some q1 → ∀ (H : Heap) (locs : List Loc) (ls : Array Slot), va_P D vwCl (List.flatten [w6 cs o_r a_r s_r]) H → va_D A (List.flatten [w6 cs o_r a_r s_r]) → va_S A s.heap H locs → lv_has ls 3 [(0, .ref o_r), (1, .ref (cs.2.1 x1)), (2, .int v2)] → W p l e R s m args below meth c H locs 0 0 Q (F0 m 20 ls []) := by
      intro n1
      induction n1 with
      | zero => intro v2 hn; cases hn
      | succ n1 ih1 =>
        intro v2 hn1 H locs ls hP hD hS hl
        obtain ⟨y1, hf, hn1⟩ := lp_succ hn1
        unfold f6_isSpelt_L1 at hf
        refine lv_iload_n hx hb dX6_isSpelt_20 rfl (lv_at hl 2 rfl) ?_
        refine lv_aload_n hx hb dX6_isSpelt_21 rfl (lv_at hl 1 rfl) ?_
        refine mcVi0 (v := (nI (xLen.getD x1 0))) (rest := [.int v2]) ⟨hx, hb, hml, hown, hts⟩ hK hP hS hA hG (cJ0_length l D cs H.size x1 h_x1) (cwV 0 hts (gV wd737 wd738 wd739 wd121 wd740) rfl rfl rfl (by decide +kernel) ⟨by rw [hR]; exact Nat.le_of_ble_eq_true rfl, by rw [hR]; exact Nat.le_of_ble_eq_true rfl⟩) (vk_recv hG.2.1 h_x1 hS) rfl hl.1 rfl (Nat.le_of_ble_eq_true rfl) ⟨Nat.zero_le _, Nat.zero_le _⟩ dX6_isSpelt_22 (fun H locs hP hS => ?_)
        refine lv_icmp_ge (tgt := 68) hx hb dX6_isSpelt_25 (by decide) (fun hc => ?_) (fun hc => ?_)
        · have hf := ifp hc hf
          cases hf
          exact Jq1_1 _ (Option.some.inj hn1).symm _ _ _ hP hD hS (lv_sub hl [] rfl)
        · have hf := ifn hc hf
          refine lv_aload_n hx hb dX6_isSpelt_28 rfl (lv_at hl 0 rfl) ?_
          refine gfB (i0 := 0) (own := RX6) (T := TX6) (k := 8) (v := .int (s_r.1 8)) hx hb htX6 hown hK hP rfl e6 rfl (by decide) (hW _ wd238) rfl dX6_isSpelt_29 ?_
          refine lv_iload_n hx hb dX6_isSpelt_32 rfl (lv_at hl 2 rfl) ?_
          refine lv_iadd hx hb dX6_isSpelt_33 ?_
          refine lv_aload_n hx hb dX6_isSpelt_34 rfl (lv_at hl 0 rfl) ?_
          refine gfB (i0 := 0) (own := RX6) (T := TX6) (k := 5) (v := .int (s_r.1 5)) hx hb htX6 hown hK hP rfl e6 rfl (by decide) (hW _ wd235) rfl dX6_isSpelt_35 ?_
          refine lv_icmp_ge (tgt := 68) hx hb dX6_isSpelt_38 (by decide) (fun hc => ?_) (fun hc => ?_)
          · have hf := ifp hc hf
            cases hf
            exact Jq1_1 _ (Option.some.inj hn1).symm _ _ _ hP hD hS (lv_sub hl [] rfl)
          · have hf := ifn hc hf
            refine lv_aload_n hx hb dX6_isSpelt_41 rfl (lv_at hl 1 rfl) ?_
            refine lv_iload_n hx hb dX6_isSpelt_42 rfl (lv_at hl 2 rfl) ?_
            obtain ⟨q3, eq3, hf⟩ := bnd hf
            refine mcVi0 (v := q3) (rest := []) ⟨hx, hb, hml, hown, hts⟩ hK hP hS hA hG (cJ0_charAt l D cs H.size x1 h_x1 v2 q3 eq3) (cwV 1 hts (gV wd747 wd748 wd749 wd121 wd750) rfl rfl rfl (by decide +kernel) ⟨by rw [hR]; exact Nat.le_of_ble_eq_true rfl, by rw [hR]; exact Nat.le_of_ble_eq_true rfl⟩) (vk_recv hG.2.1 h_x1 hS) rfl hl.1 rfl (Nat.le_of_ble_eq_true rfl) ⟨Nat.zero_le _, Nat.zero_le _⟩ dX6_isSpelt_43 (fun H locs hP hS => ?_)
            refine lv_aload_n hx hb dX6_isSpelt_46 rfl (lv_at hl 0 rfl) ?_
            refine gfB (i0 := 0) (own := RX6) (T := TX6) (k := 4) (v := .ref (a_r 4)) hx hb htX6 hown hK hP rfl e6 rfl (by decide) (hW _ wd234) rfl dX6_isSpelt_47 ?_
            refine lv_aload_n hx hb dX6_isSpelt_50 rfl (lv_at hl 0 rfl) ?_
            refine gfB (i0 := 0) (own := RX6) (T := TX6) (k := 8) (v := .int (s_r.1 8)) hx hb htX6 hown hK hP rfl e6 rfl (by decide) (hW _ wd238) rfl dX6_isSpelt_51 ?_
            refine lv_iload_n hx hb dX6_isSpelt_54 rfl (lv_at hl 2 rfl) ?_
            refine lv_iadd hx hb dX6_isSpelt_55 ?_
            obtain ⟨q4, eq4, hf⟩ := bnd hf
            obtain ⟨gq4, eq4⟩ := ldO_e eq4
            refine bldB (i0 := 0) hx hb hK hP rfl a6_4 gq4 dX6_isSpelt_56 ?_
            refine lv_nm eq4 ?_
            refine lv_icmp_eq (tgt := 62) hx hb dX6_isSpelt_57 (by decide) (fun hc => ?_) (fun hc => ?_)
            · have hf := ifp hc hf
              refine lv_iinc (v := (v2 + 1)) (lv' := [(2, .int (v2 + 1)), (0, .ref o_r), (1, .ref (cs.2.1 x1))]) hx hb dX6_isSpelt_62 hl (k := 2) rfl rfl (by decide) rfl (fun ls hl => ?_)
              refine lv_goto (tgt := 20) hx hb dX6_isSpelt_65 (by decide) ?_
              cases hf
              exact ih1 _ hn1 _ _ _ hP hD hS (lv_sub hl [1, 2, 0] rfl)
            · have hf := ifn hc hf
              cases hf
              exact Jq1_0 _ (Option.some.inj hn1).symm _ _ _ hP hD hS (lv_sub hl [] rfl)
    exact L1 _ _ hq1 _ _ _ hP hD hS (lv_sub hl [1, 2, 0] rfl)
  · have hf := ifn hc hf
    refine lv_iconst (v := 0) hx hb dX6_isSpelt_16 (by decide) ?_
    obtain rfl := Option.some.inj hf
    exact mretZ hx hb hr hlocks hK hP hD hS rfl hQ dX6_isSpelt_17
/-! TwinLamps$Reader.readWord -/
noncomputable def f6_readWord_L1  (v2 : Int32 × St) : Option ((Int32 × St) ⊕ (St)) :=
  if (v2.2.1 5) ≤ v2.1 then some (.inr v2.2) else (ldO 600 (v2.2.2 4) v2.1).bind fun q3 =>
  (f6_isLetter q3).bind fun q4 =>
  if (zB q4) = 0 then some (.inr v2.2) else (some (sS v2.2 9 (v2.1 + 1))).bind fun s5 =>
  some (.inl ((v2.1 + 1), s5))
noncomputable def f6_readWord_L7  (v8 : Int32 × St) : Option ((Int32 × St) ⊕ (St)) :=
  if (316 : Int32) ≤ v8.1 then some (.inr v8.2) else (f6_textOf v8.1).bind fun q9 =>
  (bdO 16 q9).bind fun q10 =>
  (f6_isSpelt v8.2 q9).bind fun q11 =>
  ((if (zB q11) = 0 then some v8.2 else (some (sS v8.2 7 v8.1)).bind fun s13 =>
  some s13 : Option (St))).bind fun q12 =>
  some (.inl ((v8.1 + 1), q12))
noncomputable def f6_readWord (s_r : St) : Option (St) :=
  (lpw (f6_readWord_L1) ((s_r.1 8), s_r)).bind fun q1 =>
  (some (sS q1 7 316)).bind fun s6 =>
  (lpw (f6_readWord_L7) (300, s6)).bind fun q7 =>
  some q7
set_option maxHeartbeats 4000000 in
set_option maxRecDepth 100000 in
theorem c6_readWord (l : Launch) (D : va_G) (cs : xE) (o_r : Nat) (a_r : Nat → Nat) (s_r : St) (sz : Nat) (res : St) (hf : f6_readWord s_r = some res) : Met l yX6_readWord (Cond.code yX6_readWord cX6_readWord 2 none :: WG) { frames := 6, cells := 0, slots := 0, locals := 172 } (va_Pc [.ref o_r] (mP D cs (List.flatten [w6 cs o_r a_r s_r]) sz)) (qV D cs (List.flatten [w6 cs o_r a_r res]) (va_A (List.flatten [w6 cs o_r a_r s_r]) sz)) 0 0 (va_A (List.flatten [w6 cs o_r a_r s_r]) sz) := by
  refine mgo (Qc := qV D cs (List.flatten [w6 cs o_r a_r res])) (cc := cX6_readWord) (maxL := 2) (ret := none) (by decide) rfl (Nat.le_of_ble_eq_true rfl) ?_
  intro p e s m below meth c ls A R Q args H hR hQ hx hb hml hr hlocks hown hts hP hK hD hA hS hG hl
  have hown : s.vm.findClass RX6 = some m.cls := hown
  have hl : lv_has ls 2 [(0, .ref o_r)] := hl
  have hW : ∀ w ∈ WG, w.before args s = true := fun w h => hts w (List.mem_cons_of_mem _ h)
  have htX6 : ∀ w ∈ u_ws RX6 TX6 12, w.before args s = true := fun w h => hW w (inW_X6 w h)
  unfold f6_readWord at hf
  refine lv_aload_n hx hb dX6_readWord_0 rfl (lv_at hl 0 rfl) ?_
  refine gfB (i0 := 0) (own := RX6) (T := TX6) (k := 8) (v := .int (s_r.1 8)) hx hb htX6 hown hK hP rfl e6 rfl (by decide) (hW _ wd238) rfl dX6_readWord_1 ?_
  refine lv_istore_n (lv' := [(1, .int (s_r.1 8)), (0, .ref o_r)]) hx hb dX6_readWord_4 rfl hl (by decide) rfl (fun ls hl => ?_)
  obtain ⟨q1, hq1, hf⟩ := bnd hf
  obtain ⟨n1, hq1⟩ := lpw_ex hq1
  have Jq1_0 : ∀ rr1_0 : St, q1 = rr1_0 → ∀ (H : Heap) (locs : List Loc) (ls : Array Slot), va_P D vwCl (List.flatten [w6 cs o_r a_r rr1_0]) H → va_D A (List.flatten [w6 cs o_r a_r rr1_0]) → va_S A s.heap H locs → lv_has ls 2 [(0, .ref o_r)] → W p l e R s m args below meth c H locs 0 0 Q (F0 m 38 ls []) := by
    intro rr1_0 eq1 H locs ls hP hD hS hl
    subst eq1
    refine lv_aload_n hx hb dX6_readWord_38 rfl (lv_at hl 0 rfl) ?_
    refine lv_sipush (v := 316) hx hb dX6_readWord_39 (by decide) ?_
    obtain ⟨s6, es6, hf⟩ := bnd hf
    replace es6 := Option.some.inj es6
    refine pfB (i0 := 0) (own := RX6) (T := TX6) (k := 7) (Bn := [w6 cs o_r a_r s6]) tyX6 tyX6_ok nmX6 hx hb htX6 hown hK hP hD hS rfl e6 rfl (by decide) (hW _ wd237) rfl rfl rfl (Nat.le_of_ble_eq_true rfl) dX6_readWord_42 (by rw [← es6]; exact u6_7) rfl (fun H locs hP hD hS => ?_)
    refine lv_sipush (v := 300) hx hb dX6_readWord_45 (by decide) ?_
    refine lv_istore_n (lv' := [(1, .int 300), (0, .ref o_r)]) hx hb dX6_readWord_48 rfl hl (by decide) rfl (fun ls hl => ?_)
    obtain ⟨q7, hq7, hf⟩ := bnd hf
    obtain ⟨n7, hq7⟩ := lpw_ex hq7
    have Jq7_0 : ∀ rr7_0 : St, q7 = rr7_0 → ∀ (H : Heap) (locs : List Loc) (ls : Array Slot), va_P D vwCl (List.flatten [w6 cs o_r a_r rr7_0]) H → va_D A (List.flatten [w6 cs o_r a_r rr7_0]) → va_S A s.heap H locs → lv_has ls 2 [] → W p l e R s m args below meth c H locs 0 0 Q (F0 m 78 ls []) := by
      intro rr7_0 eq7 H locs ls hP hD hS hl
      subst eq7
      obtain rfl := Option.some.inj hf
      exact mretV hx hb hr hlocks hK hP hD hS hQ dX6_readWord_78
    clear hf
    have L7 : ∀ n7, ∀ v8 : Int32 × St, lp n7 (f6_readWord_L7) v8 = some q7 → ∀ (H : Heap) (locs : List Loc) (ls : Array Slot), va_P D vwCl (List.flatten [w6 cs o_r a_r v8.2]) H → va_D A (List.flatten [w6 cs o_r a_r v8.2]) → va_S A s.heap H locs → lv_has ls 2 [(0, .ref o_r), (1, .int v8.1)] → W p l e R s m args below meth c H locs 0 0 Q (F0 m 49 ls []) := by
      intro n7
      induction n7 with
      | zero => intro v8 hn; cases hn
      | succ n7 ih7 =>
        intro v8 hn7 H locs ls hP hD hS hl
        obtain ⟨y7, hf, hn7⟩ := lp_succ hn7
        unfold f6_readWord_L7 at hf
        refine lv_iload_n hx hb dX6_readWord_49 rfl (lv_at hl 1 rfl) ?_
        refine lv_sipush (v := 316) hx hb dX6_readWord_50 (by decide) ?_
        refine lv_icmp_ge (tgt := 78) hx hb dX6_readWord_53 (by decide) (fun hc => ?_) (fun hc => ?_)
        · have hf := ifp hc hf
          cases hf
          exact Jq7_0 _ (Option.some.inj hn7).symm _ _ _ hP hD hS (lv_sub hl [] rfl)
        · have hf := ifn hc hf
          refine lv_aload_n hx hb dX6_readWord_56 rfl (lv_at hl 0 rfl) ?_
          refine lv_iload_n hx hb dX6_readWord_57 rfl (lv_at hl 1 rfl) ?_
          obtain ⟨q9, eq9, hf⟩ := bnd hf
          refine mcSr0 (ra := cs.2.1 q9) (As := [.int v8.1]) (rest := [.ref o_r]) ⟨hx, hb, hml, hown, hts⟩ hK hP hS hA hG (c6_textOf l D cs H.size v8.1 _ eq9) (va_cwS 1 hts (gS wd714 wd715 wd106 wd716) rfl rfl rfl (by decide +kernel) ⟨by rw [hR]; exact Nat.le_of_ble_eq_true rfl, by rw [hR]; exact Nat.le_of_ble_eq_true rfl⟩) rfl hl.1 rfl (Nat.le_of_ble_eq_true rfl) ⟨Nat.zero_le _, Nat.zero_le _⟩ dX6_readWord_58 (fun H locs hP hS => ?_)
          obtain ⟨q10, eq10, hf⟩ := bnd hf
          obtain ⟨bq10, eq10⟩ := bdO_e eq10
          subst eq10
          obtain ⟨q11, eq11, hf⟩ := bnd hf
          refine mcVi (v := (zB q11)) (rest := []) (Bn := [w6 cs o_r a_r v8.2]) (isR := []) (isC := [0]) (i0 := 0) ⟨hx, hb, hml, hown, hts⟩ hK hP hD hS hA hG (c6_isSpelt l D cs o_r a_r v8.2 H.size q9 bq10 _ eq11) (cwV 1 hts (gV wd733 wd735 wd8 wd106 wd736) rfl rfl rfl (by decide +kernel) ⟨by rw [hR]; exact Nat.le_of_ble_eq_true rfl, by rw [hR]; exact Nat.le_of_ble_eq_true rfl⟩) 1 (by decide) rfl rfl rfl rfl rfl rfl rfl e6 rfl rfl rfl hl.1 rfl (Nat.le_of_ble_eq_true rfl) ⟨Nat.zero_le _, Nat.zero_le _⟩ dX6_readWord_61 (fun H locs hP hD hS => ?_)
          obtain ⟨q12, hq12, hf⟩ := bnd hf
          have Jq12 : ∀ r12 : St, q12 = r12 → ∀ (H : Heap) (locs : List Loc) (ls : Array Slot), va_P D vwCl (List.flatten [w6 cs o_r a_r r12]) H → va_D A (List.flatten [w6 cs o_r a_r r12]) → va_S A s.heap H locs → lv_has ls 2 [(0, .ref o_r), (1, .int v8.1)] → W p l e R s m args below meth c H locs 0 0 Q (F0 m 72 ls []) := by
            intro r12 eq12 H locs ls hP hD hS hl
            subst eq12
            refine lv_iinc (v := (v8.1 + 1)) (lv' := [(1, .int (v8.1 + 1)), (0, .ref o_r)]) hx hb dX6_readWord_72 hl (k := 1) rfl rfl (by decide) rfl (fun ls hl => ?_)
            refine lv_goto (tgt := 49) hx hb dX6_readWord_75 (by decide) ?_
            cases hf
            exact ih7 _ hn7 _ _ _ hP hD hS (lv_sub hl [1, 0] rfl)
          clear hf
          have hf := hq12
          refine lv_if_eq (tgt := 72) hx hb dX6_readWord_64 (by decide) (fun hc => ?_) (fun hc => ?_)
          · have hf := ifp hc hf
            exact Jq12 _ (Option.some.inj hf).symm _ _ _ hP hD hS (lv_sub hl [0, 1] rfl)
          · have hf := ifn hc hf
            refine lv_aload_n hx hb dX6_readWord_67 rfl (lv_at hl 0 rfl) ?_
            refine lv_iload_n hx hb dX6_readWord_68 rfl (lv_at hl 1 rfl) ?_
            obtain ⟨s13, es13, hf⟩ := bnd hf
            replace es13 := Option.some.inj es13
            refine pfB (i0 := 0) (own := RX6) (T := TX6) (k := 7) (Bn := [w6 cs o_r a_r s13]) tyX6 tyX6_ok nmX6 hx hb htX6 hown hK hP hD hS rfl e6 rfl (by decide) (hW _ wd237) rfl rfl rfl (Nat.le_of_ble_eq_true rfl) dX6_readWord_69 (by rw [← es13]; exact u6_7) rfl (fun H locs hP hD hS => ?_)
            exact Jq12 _ (Option.some.inj hf).symm _ _ _ hP hD hS (lv_sub hl [0, 1] rfl)
    exact L7 _ _ hq7 _ _ _ hP hD hS (lv_sub hl [1, 0] rfl)
  clear hf
  have L1 : ∀ n1, ∀ v2 : Int32 × St, lp n1 (f6_readWord_L1) v2 = some q1 → ∀ (H : Heap) (locs : List Loc) (ls : Array Slot), va_P D vwCl (List.flatten [w6 cs o_r a_r v2.2]) H → va_D A (List.flatten [w6 cs o_r a_r v2.2]) → va_S A s.heap H locs → lv_has ls 2 [(0, .ref o_r), (1, .int v2.1)] → W p l e R s m args below meth c H locs 0 0 Q (F0 m 5 ls []) := by
    intro n1
    induction n1 with
    | zero => intro v2 hn; cases hn
    | succ n1 ih1 =>
      intro v2 hn1 H locs ls hP hD hS hl
      obtain ⟨y1, hf, hn1⟩ := lp_succ hn1
      unfold f6_readWord_L1 at hf
      refine lv_iload_n hx hb dX6_readWord_5 rfl (lv_at hl 1 rfl) ?_
      refine lv_aload_n hx hb dX6_readWord_6 rfl (lv_at hl 0 rfl) ?_
      refine gfB (i0 := 0) (own := RX6) (T := TX6) (k := 5) (v := .int (v2.2.1 5)) hx hb htX6 hown hK hP rfl e6 rfl (by decide) (hW _ wd235) rfl dX6_readWord_7 ?_
      refine lv_icmp_ge (tgt := 38) hx hb dX6_readWord_10 (by decide) (fun hc => ?_) (fun hc => ?_)
      · have hf := ifp hc hf
        cases hf
        exact Jq1_0 _ (Option.some.inj hn1).symm _ _ _ hP hD hS (lv_sub hl [0] rfl)
      · have hf := ifn hc hf
        refine lv_aload_n hx hb dX6_readWord_13 rfl (lv_at hl 0 rfl) ?_
        refine gfB (i0 := 0) (own := RX6) (T := TX6) (k := 4) (v := .ref (a_r 4)) hx hb htX6 hown hK hP rfl e6 rfl (by decide) (hW _ wd234) rfl dX6_readWord_14 ?_
        refine lv_iload_n hx hb dX6_readWord_17 rfl (lv_at hl 1 rfl) ?_
        obtain ⟨q3, eq3, hf⟩ := bnd hf
        obtain ⟨gq3, eq3⟩ := ldO_e eq3
        refine bldB (i0 := 0) hx hb hK hP rfl a6_4 gq3 dX6_readWord_18 ?_
        refine lv_nm eq3 ?_
        obtain ⟨q4, eq4, hf⟩ := bnd hf
        refine mcSi0 (v := (zB q4)) (As := [.int q3]) (rest := []) ⟨hx, hb, hml, hown, hts⟩ hK hP hS hA hG (c6_isLetter l D cs H.size q3 _ eq4) (va_cwS 1 hts (gS wd707 wd708 wd106 wd709) rfl rfl rfl (by decide +kernel) ⟨by rw [hR]; exact Nat.le_of_ble_eq_true rfl, by rw [hR]; exact Nat.le_of_ble_eq_true rfl⟩) rfl hl.1 rfl (Nat.le_of_ble_eq_true rfl) ⟨Nat.zero_le _, Nat.zero_le _⟩ dX6_readWord_19 (fun H locs hP hS => ?_)
        refine lv_if_eq (tgt := 38) hx hb dX6_readWord_22 (by decide) (fun hc => ?_) (fun hc => ?_)
        · have hf := ifp hc hf
          cases hf
          exact Jq1_0 _ (Option.some.inj hn1).symm _ _ _ hP hD hS (lv_sub hl [0] rfl)
        · have hf := ifn hc hf
          refine lv_aload_n hx hb dX6_readWord_25 rfl (lv_at hl 0 rfl) ?_
          refine lv_iload_n hx hb dX6_readWord_26 rfl (lv_at hl 1 rfl) ?_
          refine lv_iconst (v := 1) hx hb dX6_readWord_27 (by decide) ?_
          refine lv_iadd hx hb dX6_readWord_28 ?_
          obtain ⟨s5, es5, hf⟩ := bnd hf
          replace es5 := Option.some.inj es5
          refine pfB (i0 := 0) (own := RX6) (T := TX6) (k := 9) (Bn := [w6 cs o_r a_r s5]) tyX6 tyX6_ok nmX6 hx hb htX6 hown hK hP hD hS rfl e6 rfl (by decide) (hW _ wd239) rfl rfl rfl (Nat.le_of_ble_eq_true rfl) dX6_readWord_29 (by rw [← es5]; exact u6_9) rfl (fun H locs hP hD hS => ?_)
          refine lv_iinc (v := (v2.1 + 1)) (lv' := [(1, .int (v2.1 + 1)), (0, .ref o_r)]) hx hb dX6_readWord_32 hl (k := 1) rfl rfl (by decide) rfl (fun ls hl => ?_)
          refine lv_goto (tgt := 5) hx hb dX6_readWord_35 (by decide) ?_
          cases hf
          exact ih1 _ hn1 _ _ _ hP hD hS (lv_sub hl [1, 0] rfl)
  exact L1 _ _ hq1 _ _ _ hP hD hS (lv_sub hl [1, 0] rfl)
/-! TwinLamps$Reader.isDigit -/
noncomputable def f6_isDigit (x0 : Int32) : Option (Bool) :=
  if x0 < 48 then some false else if (57 : Int32) < x0 then some false else some true
set_option maxHeartbeats 4000000 in
set_option maxRecDepth 100000 in
theorem c6_isDigit (l : Launch) (D : va_G) (cs : xE) (sz : Nat) (x0 : Int32) (res : Bool) (hf : f6_isDigit x0 = some res) : Met l yX6_isDigit (Cond.code yX6_isDigit cX6_isDigit 1 (some .boolean) :: WG) { frames := 0, cells := 0, slots := 0, locals := 0 } (va_Pc [.int x0] (mP D cs (List.flatten []) sz)) (qI D cs (zB res) (List.flatten []) (va_A (List.flatten []) sz)) 0 0 (va_A (List.flatten []) sz) := by
  refine mgo (Qc := qI D cs (zB res) (List.flatten [])) (cc := cX6_isDigit) (maxL := 1) (ret := (some .boolean)) (by decide) rfl (Nat.le_of_ble_eq_true rfl) ?_
  intro p e s m below meth c ls A R Q args H hR hQ hx hb hml hr hlocks hown hts hP hK hD hA hS hG hl
  have hown : s.vm.findClass RX6 = some m.cls := hown
  have hl : lv_has ls 1 [(0, .int x0)] := hl
  have hW : ∀ w ∈ WG, w.before args s = true := fun w h => hts w (List.mem_cons_of_mem _ h)
  unfold f6_isDigit at hf
  refine lv_iload_n hx hb dX6_isDigit_0 rfl (lv_at hl 0 rfl) ?_
  refine lv_bipush (v := 48) hx hb dX6_isDigit_1 (by decide) ?_
  refine lv_icmp_lt (tgt := 16) hx hb dX6_isDigit_3 (by decide) (fun hc => ?_) (fun hc => ?_)
  · have hf := ifp hc hf
    refine lv_iconst (v := 0) hx hb dX6_isDigit_16 (by decide) ?_
    obtain rfl := Option.some.inj hf
    exact mretZ hx hb hr hlocks hK hP hD hS rfl hQ dX6_isDigit_17
  · have hf := ifn hc hf
    refine lv_iload_n hx hb dX6_isDigit_6 rfl (lv_at hl 0 rfl) ?_
    refine lv_bipush (v := 57) hx hb dX6_isDigit_7 (by decide) ?_
    refine lv_icmp_gt (tgt := 16) hx hb dX6_isDigit_9 (by decide) (fun hc => ?_) (fun hc => ?_)
    · have hf := ifp hc hf
      refine lv_iconst (v := 0) hx hb dX6_isDigit_16 (by decide) ?_
      obtain rfl := Option.some.inj hf
      exact mretZ hx hb hr hlocks hK hP hD hS rfl hQ dX6_isDigit_17
    · have hf := ifn hc hf
      refine lv_iconst (v := 1) hx hb dX6_isDigit_12 (by decide) ?_
      refine lv_goto (tgt := 17) hx hb dX6_isDigit_13 (by decide) ?_
      obtain rfl := Option.some.inj hf
      exact mretZ hx hb hr hlocks hK hP hD hS rfl hQ dX6_isDigit_17
/-! TwinLamps$Reader.readNumber -/
noncomputable def f6_readNumber_L3  (v4 : Int32 × St) : Option ((Int32 × St) ⊕ (St)) :=
  if (v4.2.1 5) ≤ v4.1 then some (.inr v4.2) else (ldO 600 (v4.2.2 4) v4.1).bind fun q5 =>
  (f6_isDigit q5).bind fun q6 =>
  if (zB q6) = 0 then some (.inr v4.2) else (some (sS v4.2 10 ((v4.2.1 10) + 1))).bind fun s7 =>
  ((if (4 : Int32) < (s7.1 10) then some s7 else (ldO 600 (s7.2 4) v4.1).bind fun q9 =>
  (some (sS s7 11 ((((s7.1 11) * 10) + q9) - 48))).bind fun s10 =>
  some s10 : Option (St))).bind fun q8 =>
  (some (sS q8 9 (v4.1 + 1))).bind fun s11 =>
  some (.inl ((v4.1 + 1), s11))
noncomputable def f6_readNumber (s_r : St) : Option (St) :=
  (some (sS s_r 10 0)).bind fun s1 =>
  (some (sS s1 11 0)).bind fun s2 =>
  (lpw (f6_readNumber_L3) ((s2.1 8), s2)).bind fun q3 =>
  (some (sS q3 7 2)).bind fun s12 =>
  some s12
set_option maxHeartbeats 4000000 in
set_option maxRecDepth 100000 in
theorem c6_readNumber (l : Launch) (D : va_G) (cs : xE) (o_r : Nat) (a_r : Nat → Nat) (s_r : St) (sz : Nat) (res : St) (hf : f6_readNumber s_r = some res) : Met l yX6_readNumber (Cond.code yX6_readNumber cX6_readNumber 2 none :: WG) { frames := 1, cells := 0, slots := 0, locals := 20 } (va_Pc [.ref o_r] (mP D cs (List.flatten [w6 cs o_r a_r s_r]) sz)) (qV D cs (List.flatten [w6 cs o_r a_r res]) (va_A (List.flatten [w6 cs o_r a_r s_r]) sz)) 0 0 (va_A (List.flatten [w6 cs o_r a_r s_r]) sz) := by
  refine mgo (Qc := qV D cs (List.flatten [w6 cs o_r a_r res])) (cc := cX6_readNumber) (maxL := 2) (ret := none) (by decide) rfl (Nat.le_of_ble_eq_true rfl) ?_
  intro p e s m below meth c ls A R Q args H hR hQ hx hb hml hr hlocks hown hts hP hK hD hA hS hG hl
  have hown : s.vm.findClass RX6 = some m.cls := hown
  have hl : lv_has ls 2 [(0, .ref o_r)] := hl
  have hW : ∀ w ∈ WG, w.before args s = true := fun w h => hts w (List.mem_cons_of_mem _ h)
  have htX6 : ∀ w ∈ u_ws RX6 TX6 12, w.before args s = true := fun w h => hW w (inW_X6 w h)
  unfold f6_readNumber at hf
  refine lv_aload_n hx hb dX6_readNumber_0 rfl (lv_at hl 0 rfl) ?_
  refine lv_iconst (v := 0) hx hb dX6_readNumber_1 (by decide) ?_
  obtain ⟨s1, es1, hf⟩ := bnd hf
  replace es1 := Option.some.inj es1
  refine pfB (i0 := 0) (own := RX6) (T := TX6) (k := 10) (Bn := [w6 cs o_r a_r s1]) tyX6 tyX6_ok nmX6 hx hb htX6 hown hK hP hD hS rfl e6 rfl (by decide) (hW _ wd240) rfl rfl rfl (Nat.le_of_ble_eq_true rfl) dX6_readNumber_2 (by rw [← es1]; exact u6_10) rfl (fun H locs hP hD hS => ?_)
  refine lv_aload_n hx hb dX6_readNumber_5 rfl (lv_at hl 0 rfl) ?_
  refine lv_iconst (v := 0) hx hb dX6_readNumber_6 (by decide) ?_
  obtain ⟨s2, es2, hf⟩ := bnd hf
  replace es2 := Option.some.inj es2
  refine pfB (i0 := 0) (own := RX6) (T := TX6) (k := 11) (Bn := [w6 cs o_r a_r s2]) tyX6 tyX6_ok nmX6 hx hb htX6 hown hK hP hD hS rfl e6 rfl (by decide) (hW _ wd241) rfl rfl rfl (Nat.le_of_ble_eq_true rfl) dX6_readNumber_7 (by rw [← es2]; exact u6_11) rfl (fun H locs hP hD hS => ?_)
  refine lv_aload_n hx hb dX6_readNumber_10 rfl (lv_at hl 0 rfl) ?_
  refine gfB (i0 := 0) (own := RX6) (T := TX6) (k := 8) (v := .int (s2.1 8)) hx hb htX6 hown hK hP rfl e6 rfl (by decide) (hW _ wd238) rfl dX6_readNumber_11 ?_
  refine lv_istore_n (lv' := [(1, .int (s2.1 8)), (0, .ref o_r)]) hx hb dX6_readNumber_14 rfl hl (by decide) rfl (fun ls hl => ?_)
  obtain ⟨q3, hq3, hf⟩ := bnd hf
  obtain ⟨n3, hq3⟩ := lpw_ex hq3
  have Jq3_0 : ∀ rr3_0 : St, q3 = rr3_0 → ∀ (H : Heap) (locs : List Loc) (ls : Array Slot), va_P D vwCl (List.flatten [w6 cs o_r a_r rr3_0]) H → va_D A (List.flatten [w6 cs o_r a_r rr3_0]) → va_S A s.heap H locs → lv_has ls 2 [(0, .ref o_r)] → W p l e R s m args below meth c H locs 0 0 Q (F0 m 87 ls []) := by
    intro rr3_0 eq3 H locs ls hP hD hS hl
    subst eq3
    refine lv_aload_n hx hb dX6_readNumber_87 rfl (lv_at hl 0 rfl) ?_
    refine lv_iconst (v := 2) hx hb dX6_readNumber_88 (by decide) ?_
    obtain ⟨s12, es12, hf⟩ := bnd hf
    replace es12 := Option.some.inj es12
    refine pfB (i0 := 0) (own := RX6) (T := TX6) (k := 7) (Bn := [w6 cs o_r a_r s12]) tyX6 tyX6_ok nmX6 hx hb htX6 hown hK hP hD hS rfl e6 rfl (by decide) (hW _ wd237) rfl rfl rfl (Nat.le_of_ble_eq_true rfl) dX6_readNumber_89 (by rw [← es12]; exact u6_7) rfl (fun H locs hP hD hS => ?_)
    obtain rfl := Option.some.inj hf
    exact mretV hx hb hr hlocks hK hP hD hS hQ dX6_readNumber_92
  clear hf
  have L3 : ∀ n3, ∀ v4 : Int32 × St, lp n3 (f6_readNumber_L3) v4 = some q3 → ∀ (H : Heap) (locs : List Loc) (ls : Array Slot), va_P D vwCl (List.flatten [w6 cs o_r a_r v4.2]) H → va_D A (List.flatten [w6 cs o_r a_r v4.2]) → va_S A s.heap H locs → lv_has ls 2 [(0, .ref o_r), (1, .int v4.1)] → W p l e R s m args below meth c H locs 0 0 Q (F0 m 15 ls []) := by
    intro n3
    induction n3 with
    | zero => intro v4 hn; cases hn
    | succ n3 ih3 =>
      intro v4 hn3 H locs ls hP hD hS hl
      obtain ⟨y3, hf, hn3⟩ := lp_succ hn3
      unfold f6_readNumber_L3 at hf
      refine lv_iload_n hx hb dX6_readNumber_15 rfl (lv_at hl 1 rfl) ?_
      refine lv_aload_n hx hb dX6_readNumber_16 rfl (lv_at hl 0 rfl) ?_
      refine gfB (i0 := 0) (own := RX6) (T := TX6) (k := 5) (v := .int (v4.2.1 5)) hx hb htX6 hown hK hP rfl e6 rfl (by decide) (hW _ wd235) rfl dX6_readNumber_17 ?_
      refine lv_icmp_ge (tgt := 87) hx hb dX6_readNumber_20 (by decide) (fun hc => ?_) (fun hc => ?_)
      · have hf := ifp hc hf
        cases hf
        exact Jq3_0 _ (Option.some.inj hn3).symm _ _ _ hP hD hS (lv_sub hl [0] rfl)
      · have hf := ifn hc hf
        refine lv_aload_n hx hb dX6_readNumber_23 rfl (lv_at hl 0 rfl) ?_
        refine gfB (i0 := 0) (own := RX6) (T := TX6) (k := 4) (v := .ref (a_r 4)) hx hb htX6 hown hK hP rfl e6 rfl (by decide) (hW _ wd234) rfl dX6_readNumber_24 ?_
        refine lv_iload_n hx hb dX6_readNumber_27 rfl (lv_at hl 1 rfl) ?_
        obtain ⟨q5, eq5, hf⟩ := bnd hf
        obtain ⟨gq5, eq5⟩ := ldO_e eq5
        refine bldB (i0 := 0) hx hb hK hP rfl a6_4 gq5 dX6_readNumber_28 ?_
        refine lv_nm eq5 ?_
        obtain ⟨q6, eq6, hf⟩ := bnd hf
        refine mcSi0 (v := (zB q6)) (As := [.int q5]) (rest := []) ⟨hx, hb, hml, hown, hts⟩ hK hP hS hA hG (c6_isDigit l D cs H.size q5 _ eq6) (va_cwS 1 hts (gS wd785 wd786 wd106 wd787) rfl rfl rfl (by decide +kernel) ⟨by rw [hR]; exact Nat.le_of_ble_eq_true rfl, by rw [hR]; exact Nat.le_of_ble_eq_true rfl⟩) rfl hl.1 rfl (Nat.le_of_ble_eq_true rfl) ⟨Nat.zero_le _, Nat.zero_le _⟩ dX6_readNumber_29 (fun H locs hP hS => ?_)
        refine lv_if_eq (tgt := 87) hx hb dX6_readNumber_32 (by decide) (fun hc => ?_) (fun hc => ?_)
        · have hf := ifp hc hf
          cases hf
          exact Jq3_0 _ (Option.some.inj hn3).symm _ _ _ hP hD hS (lv_sub hl [0] rfl)
        · have hf := ifn hc hf
          refine lv_aload_n hx hb dX6_readNumber_35 rfl (lv_at hl 0 rfl) ?_
          refine lv_dup hx hb dX6_readNumber_36 rfl ?_
          refine gfB (i0 := 0) (own := RX6) (T := TX6) (k := 10) (v := .int (v4.2.1 10)) hx hb htX6 hown hK hP rfl e6 rfl (by decide) (hW _ wd240) rfl dX6_readNumber_37 ?_
          refine lv_iconst (v := 1) hx hb dX6_readNumber_40 (by decide) ?_
          refine lv_iadd hx hb dX6_readNumber_41 ?_
          obtain ⟨s7, es7, hf⟩ := bnd hf
          replace es7 := Option.some.inj es7
          refine pfB (i0 := 0) (own := RX6) (T := TX6) (k := 10) (Bn := [w6 cs o_r a_r s7]) tyX6 tyX6_ok nmX6 hx hb htX6 hown hK hP hD hS rfl e6 rfl (by decide) (hW _ wd240) rfl rfl rfl (Nat.le_of_ble_eq_true rfl) dX6_readNumber_42 (by rw [← es7]; exact u6_10) rfl (fun H locs hP hD hS => ?_)
          refine lv_aload_n hx hb dX6_readNumber_45 rfl (lv_at hl 0 rfl) ?_
          refine gfB (i0 := 0) (own := RX6) (T := TX6) (k := 10) (v := .int (s7.1 10)) hx hb htX6 hown hK hP rfl e6 rfl (by decide) (hW _ wd240) rfl dX6_readNumber_46 ?_
          refine lv_iconst (v := 4) hx hb dX6_readNumber_49 (by decide) ?_
          obtain ⟨q8, hq8, hf⟩ := bnd hf
          have Jq8 : ∀ r8 : St, q8 = r8 → ∀ (H : Heap) (locs : List Loc) (ls : Array Slot), va_P D vwCl (List.flatten [w6 cs o_r a_r r8]) H → va_D A (List.flatten [w6 cs o_r a_r r8]) → va_S A s.heap H locs → lv_has ls 2 [(0, .ref o_r), (1, .int v4.1)] → W p l e R s m args below meth c H locs 0 0 Q (F0 m 74 ls []) := by
            intro r8 eq8 H locs ls hP hD hS hl
            subst eq8
            refine lv_aload_n hx hb dX6_readNumber_74 rfl (lv_at hl 0 rfl) ?_
            refine lv_iload_n hx hb dX6_readNumber_75 rfl (lv_at hl 1 rfl) ?_
            refine lv_iconst (v := 1) hx hb dX6_readNumber_76 (by decide) ?_
            refine lv_iadd hx hb dX6_readNumber_77 ?_
            obtain ⟨s11, es11, hf⟩ := bnd hf
            replace es11 := Option.some.inj es11
            refine pfB (i0 := 0) (own := RX6) (T := TX6) (k := 9) (Bn := [w6 cs o_r a_r s11]) tyX6 tyX6_ok nmX6 hx hb htX6 hown hK hP hD hS rfl e6 rfl (by decide) (hW _ wd239) rfl rfl rfl (Nat.le_of_ble_eq_true rfl) dX6_readNumber_78 (by rw [← es11]; exact u6_9) rfl (fun H locs hP hD hS => ?_)
            refine lv_iinc (v := (v4.1 + 1)) (lv' := [(1, .int (v4.1 + 1)), (0, .ref o_r)]) hx hb dX6_readNumber_81 hl (k := 1) rfl rfl (by decide) rfl (fun ls hl => ?_)
            refine lv_goto (tgt := 15) hx hb dX6_readNumber_84 (by decide) ?_
            cases hf
            exact ih3 _ hn3 _ _ _ hP hD hS (lv_sub hl [1, 0] rfl)
          clear hf
          have hf := hq8
          refine lv_icmp_gt (tgt := 74) hx hb dX6_readNumber_50 (by decide) (fun hc => ?_) (fun hc => ?_)
          · have hf := ifp hc hf
            exact Jq8 _ (Option.some.inj hf).symm _ _ _ hP hD hS (lv_sub hl [0, 1] rfl)
          · have hf := ifn hc hf
            refine lv_aload_n hx hb dX6_readNumber_53 rfl (lv_at hl 0 rfl) ?_
            refine lv_aload_n hx hb dX6_readNumber_54 rfl (lv_at hl 0 rfl) ?_
            refine gfB (i0 := 0) (own := RX6) (T := TX6) (k := 11) (v := .int (s7.1 11)) hx hb htX6 hown hK hP rfl e6 rfl (by decide) (hW _ wd241) rfl dX6_readNumber_55 ?_
            refine lv_bipush (v := 10) hx hb dX6_readNumber_58 (by decide) ?_
            refine lv_imul hx hb dX6_readNumber_60 ?_
            refine lv_aload_n hx hb dX6_readNumber_61 rfl (lv_at hl 0 rfl) ?_
            refine gfB (i0 := 0) (own := RX6) (T := TX6) (k := 4) (v := .ref (a_r 4)) hx hb htX6 hown hK hP rfl e6 rfl (by decide) (hW _ wd234) rfl dX6_readNumber_62 ?_
            refine lv_iload_n hx hb dX6_readNumber_65 rfl (lv_at hl 1 rfl) ?_
            obtain ⟨q9, eq9, hf⟩ := bnd hf
            obtain ⟨gq9, eq9⟩ := ldO_e eq9
            refine bldB (i0 := 0) hx hb hK hP rfl a6_4 gq9 dX6_readNumber_66 ?_
            refine lv_nm eq9 ?_
            refine lv_iadd hx hb dX6_readNumber_67 ?_
            refine lv_bipush (v := 48) hx hb dX6_readNumber_68 (by decide) ?_
            refine lv_isub hx hb dX6_readNumber_70 ?_
            obtain ⟨s10, es10, hf⟩ := bnd hf
            replace es10 := Option.some.inj es10
            refine pfB (i0 := 0) (own := RX6) (T := TX6) (k := 11) (Bn := [w6 cs o_r a_r s10]) tyX6 tyX6_ok nmX6 hx hb htX6 hown hK hP hD hS rfl e6 rfl (by decide) (hW _ wd241) rfl rfl rfl (Nat.le_of_ble_eq_true rfl) dX6_readNumber_71 (by rw [← es10]; exact u6_11) rfl (fun H locs hP hD hS => ?_)
            exact Jq8 _ (Option.some.inj hf).symm _ _ _ hP hD hS (lv_sub hl [0, 1] rfl)
  exact L3 _ _ hq3 _ _ _ hP hD hS (lv_sub hl [1, 0] rfl)
/-! TwinLamps$Reader.isSign -/
noncomputable def f6_isSign (x0 : Int32) : Option (Bool) :=
  if x0 = 40 then (some true)
  else if x0 = 41 then (some true)
  else if x0 = 42 then (some true)
  else if x0 = 43 then (some true)
  else if x0 = 44 then (some false)
  else if x0 = 45 then (some true)
  else if x0 = 46 then (some false)
  else if x0 = 47 then (some true)
  else if x0 = 48 then (some false)
  else if x0 = 49 then (some false)
  else if x0 = 50 then (some false)
  else if x0 = 51 then (some false)
  else if x0 = 52 then (some false)
  else if x0 = 53 then (some false)
  else if x0 = 54 then (some false)
  else if x0 = 55 then (some false)
  else if x0 = 56 then (some false)
  else if x0 = 57 then (some false)
  else if x0 = 58 then (some false)
  else if x0 = 59 then (some true)
  else if x0 = 60 then (some true)
  else if x0 = 61 then (some true)
  else some false
set_option maxHeartbeats 4000000 in
set_option maxRecDepth 100000 in
theorem c6_isSign (l : Launch) (D : va_G) (cs : xE) (sz : Nat) (x0 : Int32) (res : Bool) (hf : f6_isSign x0 = some res) : Met l yX6_isSign (Cond.code yX6_isSign cX6_isSign 1 (some .boolean) :: WG) { frames := 0, cells := 0, slots := 0, locals := 0 } (va_Pc [.int x0] (mP D cs (List.flatten []) sz)) (qI D cs (zB res) (List.flatten []) (va_A (List.flatten []) sz)) 0 0 (va_A (List.flatten []) sz) := by
  refine mgo (Qc := qI D cs (zB res) (List.flatten [])) (cc := cX6_isSign) (maxL := 1) (ret := (some .boolean)) (by decide) rfl (Nat.le_of_ble_eq_true rfl) ?_
  intro p e s m below meth c ls A R Q args H hR hQ hx hb hml hr hlocks hown hts hP hK hD hA hS hG hl
  have hown : s.vm.findClass RX6 = some m.cls := hown
  have hl : lv_has ls 1 [(0, .int x0)] := hl
  have hW : ∀ w ∈ WG, w.before args s = true := fun w h => hts w (List.mem_cons_of_mem _ h)
  unfold f6_isSign at hf
  refine lv_iload_n hx hb dX6_isSign_0 rfl (lv_at hl 0 rfl) ?_
  by_cases hk40 : x0 = 40
  · have hf := ifp hk40 hf
    refine lv_tableIn (off := 103) (tgt := 104) hx hb dX6_isSign_1 (by rw [hk40]; decide) (by rw [hk40]; decide) (by rw [hk40]; rfl) (by decide) ?_
    refine lv_iconst (v := 1) hx hb dX6_isSign_104 (by decide) ?_
    obtain rfl := Option.some.inj hf
    exact mretZ hx hb hr hlocks hK hP hD hS rfl hQ dX6_isSign_105
  have hf := ifn hk40 hf
  by_cases hk41 : x0 = 41
  · have hf := ifp hk41 hf
    refine lv_tableIn (off := 103) (tgt := 104) hx hb dX6_isSign_1 (by rw [hk41]; decide) (by rw [hk41]; decide) (by rw [hk41]; rfl) (by decide) ?_
    refine lv_iconst (v := 1) hx hb dX6_isSign_104 (by decide) ?_
    obtain rfl := Option.some.inj hf
    exact mretZ hx hb hr hlocks hK hP hD hS rfl hQ dX6_isSign_105
  have hf := ifn hk41 hf
  by_cases hk42 : x0 = 42
  · have hf := ifp hk42 hf
    refine lv_tableIn (off := 103) (tgt := 104) hx hb dX6_isSign_1 (by rw [hk42]; decide) (by rw [hk42]; decide) (by rw [hk42]; rfl) (by decide) ?_
    refine lv_iconst (v := 1) hx hb dX6_isSign_104 (by decide) ?_
    obtain rfl := Option.some.inj hf
    exact mretZ hx hb hr hlocks hK hP hD hS rfl hQ dX6_isSign_105
  have hf := ifn hk42 hf
  by_cases hk43 : x0 = 43
  · have hf := ifp hk43 hf
    refine lv_tableIn (off := 103) (tgt := 104) hx hb dX6_isSign_1 (by rw [hk43]; decide) (by rw [hk43]; decide) (by rw [hk43]; rfl) (by decide) ?_
    refine lv_iconst (v := 1) hx hb dX6_isSign_104 (by decide) ?_
    obtain rfl := Option.some.inj hf
    exact mretZ hx hb hr hlocks hK hP hD hS rfl hQ dX6_isSign_105
  have hf := ifn hk43 hf
  by_cases hk44 : x0 = 44
  · have hf := ifp hk44 hf
    refine lv_tableIn (off := 105) (tgt := 106) hx hb dX6_isSign_1 (by rw [hk44]; decide) (by rw [hk44]; decide) (by rw [hk44]; rfl) (by decide) ?_
    refine lv_iconst (v := 0) hx hb dX6_isSign_106 (by decide) ?_
    obtain rfl := Option.some.inj hf
    exact mretZ hx hb hr hlocks hK hP hD hS rfl hQ dX6_isSign_107
  have hf := ifn hk44 hf
  by_cases hk45 : x0 = 45
  · have hf := ifp hk45 hf
    refine lv_tableIn (off := 103) (tgt := 104) hx hb dX6_isSign_1 (by rw [hk45]; decide) (by rw [hk45]; decide) (by rw [hk45]; rfl) (by decide) ?_
    refine lv_iconst (v := 1) hx hb dX6_isSign_104 (by decide) ?_
    obtain rfl := Option.some.inj hf
    exact mretZ hx hb hr hlocks hK hP hD hS rfl hQ dX6_isSign_105
  have hf := ifn hk45 hf
  by_cases hk46 : x0 = 46
  · have hf := ifp hk46 hf
    refine lv_tableIn (off := 105) (tgt := 106) hx hb dX6_isSign_1 (by rw [hk46]; decide) (by rw [hk46]; decide) (by rw [hk46]; rfl) (by decide) ?_
    refine lv_iconst (v := 0) hx hb dX6_isSign_106 (by decide) ?_
    obtain rfl := Option.some.inj hf
    exact mretZ hx hb hr hlocks hK hP hD hS rfl hQ dX6_isSign_107
  have hf := ifn hk46 hf
  by_cases hk47 : x0 = 47
  · have hf := ifp hk47 hf
    refine lv_tableIn (off := 103) (tgt := 104) hx hb dX6_isSign_1 (by rw [hk47]; decide) (by rw [hk47]; decide) (by rw [hk47]; rfl) (by decide) ?_
    refine lv_iconst (v := 1) hx hb dX6_isSign_104 (by decide) ?_
    obtain rfl := Option.some.inj hf
    exact mretZ hx hb hr hlocks hK hP hD hS rfl hQ dX6_isSign_105
  have hf := ifn hk47 hf
  by_cases hk48 : x0 = 48
  · have hf := ifp hk48 hf
    refine lv_tableIn (off := 105) (tgt := 106) hx hb dX6_isSign_1 (by rw [hk48]; decide) (by rw [hk48]; decide) (by rw [hk48]; rfl) (by decide) ?_
    refine lv_iconst (v := 0) hx hb dX6_isSign_106 (by decide) ?_
    obtain rfl := Option.some.inj hf
    exact mretZ hx hb hr hlocks hK hP hD hS rfl hQ dX6_isSign_107
  have hf := ifn hk48 hf
  by_cases hk49 : x0 = 49
  · have hf := ifp hk49 hf
    refine lv_tableIn (off := 105) (tgt := 106) hx hb dX6_isSign_1 (by rw [hk49]; decide) (by rw [hk49]; decide) (by rw [hk49]; rfl) (by decide) ?_
    refine lv_iconst (v := 0) hx hb dX6_isSign_106 (by decide) ?_
    obtain rfl := Option.some.inj hf
    exact mretZ hx hb hr hlocks hK hP hD hS rfl hQ dX6_isSign_107
  have hf := ifn hk49 hf
  by_cases hk50 : x0 = 50
  · have hf := ifp hk50 hf
    refine lv_tableIn (off := 105) (tgt := 106) hx hb dX6_isSign_1 (by rw [hk50]; decide) (by rw [hk50]; decide) (by rw [hk50]; rfl) (by decide) ?_
    refine lv_iconst (v := 0) hx hb dX6_isSign_106 (by decide) ?_
    obtain rfl := Option.some.inj hf
    exact mretZ hx hb hr hlocks hK hP hD hS rfl hQ dX6_isSign_107
  have hf := ifn hk50 hf
  by_cases hk51 : x0 = 51
  · have hf := ifp hk51 hf
    refine lv_tableIn (off := 105) (tgt := 106) hx hb dX6_isSign_1 (by rw [hk51]; decide) (by rw [hk51]; decide) (by rw [hk51]; rfl) (by decide) ?_
    refine lv_iconst (v := 0) hx hb dX6_isSign_106 (by decide) ?_
    obtain rfl := Option.some.inj hf
    exact mretZ hx hb hr hlocks hK hP hD hS rfl hQ dX6_isSign_107
  have hf := ifn hk51 hf
  by_cases hk52 : x0 = 52
  · have hf := ifp hk52 hf
    refine lv_tableIn (off := 105) (tgt := 106) hx hb dX6_isSign_1 (by rw [hk52]; decide) (by rw [hk52]; decide) (by rw [hk52]; rfl) (by decide) ?_
    refine lv_iconst (v := 0) hx hb dX6_isSign_106 (by decide) ?_
    obtain rfl := Option.some.inj hf
    exact mretZ hx hb hr hlocks hK hP hD hS rfl hQ dX6_isSign_107
  have hf := ifn hk52 hf
  by_cases hk53 : x0 = 53
  · have hf := ifp hk53 hf
    refine lv_tableIn (off := 105) (tgt := 106) hx hb dX6_isSign_1 (by rw [hk53]; decide) (by rw [hk53]; decide) (by rw [hk53]; rfl) (by decide) ?_
    refine lv_iconst (v := 0) hx hb dX6_isSign_106 (by decide) ?_
    obtain rfl := Option.some.inj hf
    exact mretZ hx hb hr hlocks hK hP hD hS rfl hQ dX6_isSign_107
  have hf := ifn hk53 hf
  by_cases hk54 : x0 = 54
  · have hf := ifp hk54 hf
    refine lv_tableIn (off := 105) (tgt := 106) hx hb dX6_isSign_1 (by rw [hk54]; decide) (by rw [hk54]; decide) (by rw [hk54]; rfl) (by decide) ?_
    refine lv_iconst (v := 0) hx hb dX6_isSign_106 (by decide) ?_
    obtain rfl := Option.some.inj hf
    exact mretZ hx hb hr hlocks hK hP hD hS rfl hQ dX6_isSign_107
  have hf := ifn hk54 hf
  by_cases hk55 : x0 = 55
  · have hf := ifp hk55 hf
    refine lv_tableIn (off := 105) (tgt := 106) hx hb dX6_isSign_1 (by rw [hk55]; decide) (by rw [hk55]; decide) (by rw [hk55]; rfl) (by decide) ?_
    refine lv_iconst (v := 0) hx hb dX6_isSign_106 (by decide) ?_
    obtain rfl := Option.some.inj hf
    exact mretZ hx hb hr hlocks hK hP hD hS rfl hQ dX6_isSign_107
  have hf := ifn hk55 hf
  by_cases hk56 : x0 = 56
  · have hf := ifp hk56 hf
    refine lv_tableIn (off := 105) (tgt := 106) hx hb dX6_isSign_1 (by rw [hk56]; decide) (by rw [hk56]; decide) (by rw [hk56]; rfl) (by decide) ?_
    refine lv_iconst (v := 0) hx hb dX6_isSign_106 (by decide) ?_
    obtain rfl := Option.some.inj hf
    exact mretZ hx hb hr hlocks hK hP hD hS rfl hQ dX6_isSign_107
  have hf := ifn hk56 hf
  by_cases hk57 : x0 = 57
  · have hf := ifp hk57 hf
    refine lv_tableIn (off := 105) (tgt := 106) hx hb dX6_isSign_1 (by rw [hk57]; decide) (by rw [hk57]; decide) (by rw [hk57]; rfl) (by decide) ?_
    refine lv_iconst (v := 0) hx hb dX6_isSign_106 (by decide) ?_
    obtain rfl := Option.some.inj hf
    exact mretZ hx hb hr hlocks hK hP hD hS rfl hQ dX6_isSign_107
  have hf := ifn hk57 hf
  by_cases hk58 : x0 = 58
  · have hf := ifp hk58 hf
    refine lv_tableIn (off := 105) (tgt := 106) hx hb dX6_isSign_1 (by rw [hk58]; decide) (by rw [hk58]; decide) (by rw [hk58]; rfl) (by decide) ?_
    refine lv_iconst (v := 0) hx hb dX6_isSign_106 (by decide) ?_
    obtain rfl := Option.some.inj hf
    exact mretZ hx hb hr hlocks hK hP hD hS rfl hQ dX6_isSign_107
  have hf := ifn hk58 hf
  by_cases hk59 : x0 = 59
  · have hf := ifp hk59 hf
    refine lv_tableIn (off := 103) (tgt := 104) hx hb dX6_isSign_1 (by rw [hk59]; decide) (by rw [hk59]; decide) (by rw [hk59]; rfl) (by decide) ?_
    refine lv_iconst (v := 1) hx hb dX6_isSign_104 (by decide) ?_
    obtain rfl := Option.some.inj hf
    exact mretZ hx hb hr hlocks hK hP hD hS rfl hQ dX6_isSign_105
  have hf := ifn hk59 hf
  by_cases hk60 : x0 = 60
  · have hf := ifp hk60 hf
    refine lv_tableIn (off := 103) (tgt := 104) hx hb dX6_isSign_1 (by rw [hk60]; decide) (by rw [hk60]; decide) (by rw [hk60]; rfl) (by decide) ?_
    refine lv_iconst (v := 1) hx hb dX6_isSign_104 (by decide) ?_
    obtain rfl := Option.some.inj hf
    exact mretZ hx hb hr hlocks hK hP hD hS rfl hQ dX6_isSign_105
  have hf := ifn hk60 hf
  by_cases hk61 : x0 = 61
  · have hf := ifp hk61 hf
    refine lv_tableIn (off := 103) (tgt := 104) hx hb dX6_isSign_1 (by rw [hk61]; decide) (by rw [hk61]; decide) (by rw [hk61]; rfl) (by decide) ?_
    refine lv_iconst (v := 1) hx hb dX6_isSign_104 (by decide) ?_
    obtain rfl := Option.some.inj hf
    exact mretZ hx hb hr hlocks hK hP hD hS rfl hQ dX6_isSign_105
  have hf := ifn hk61 hf
  refine lv_tableOut (tgt := 106) hx hb dX6_isSign_1 (by have ihk40 : (x0 : Int32).toInt ≠ 40 := fun z => tI_ne hk40 (z.trans (by decide +kernel)); have ihk41 : (x0 : Int32).toInt ≠ 41 := fun z => tI_ne hk41 (z.trans (by decide +kernel)); have ihk42 : (x0 : Int32).toInt ≠ 42 := fun z => tI_ne hk42 (z.trans (by decide +kernel)); have ihk43 : (x0 : Int32).toInt ≠ 43 := fun z => tI_ne hk43 (z.trans (by decide +kernel)); have ihk44 : (x0 : Int32).toInt ≠ 44 := fun z => tI_ne hk44 (z.trans (by decide +kernel)); have ihk45 : (x0 : Int32).toInt ≠ 45 := fun z => tI_ne hk45 (z.trans (by decide +kernel)); have ihk46 : (x0 : Int32).toInt ≠ 46 := fun z => tI_ne hk46 (z.trans (by decide +kernel)); have ihk47 : (x0 : Int32).toInt ≠ 47 := fun z => tI_ne hk47 (z.trans (by decide +kernel)); have ihk48 : (x0 : Int32).toInt ≠ 48 := fun z => tI_ne hk48 (z.trans (by decide +kernel)); have ihk49 : (x0 : Int32).toInt ≠ 49 := fun z => tI_ne hk49 (z.trans (by decide +kernel)); have ihk50 : (x0 : Int32).toInt ≠ 50 := fun z => tI_ne hk50 (z.trans (by decide +kernel)); have ihk51 : (x0 : Int32).toInt ≠ 51 := fun z => tI_ne hk51 (z.trans (by decide +kernel)); have ihk52 : (x0 : Int32).toInt ≠ 52 := fun z => tI_ne hk52 (z.trans (by decide +kernel)); have ihk53 : (x0 : Int32).toInt ≠ 53 := fun z => tI_ne hk53 (z.trans (by decide +kernel)); have ihk54 : (x0 : Int32).toInt ≠ 54 := fun z => tI_ne hk54 (z.trans (by decide +kernel)); have ihk55 : (x0 : Int32).toInt ≠ 55 := fun z => tI_ne hk55 (z.trans (by decide +kernel)); have ihk56 : (x0 : Int32).toInt ≠ 56 := fun z => tI_ne hk56 (z.trans (by decide +kernel)); have ihk57 : (x0 : Int32).toInt ≠ 57 := fun z => tI_ne hk57 (z.trans (by decide +kernel)); have ihk58 : (x0 : Int32).toInt ≠ 58 := fun z => tI_ne hk58 (z.trans (by decide +kernel)); have ihk59 : (x0 : Int32).toInt ≠ 59 := fun z => tI_ne hk59 (z.trans (by decide +kernel)); have ihk60 : (x0 : Int32).toInt ≠ 60 := fun z => tI_ne hk60 (z.trans (by decide +kernel)); have ihk61 : (x0 : Int32).toInt ≠ 61 := fun z => tI_ne hk61 (z.trans (by decide +kernel)); omega) (by decide) ?_
  refine lv_iconst (v := 0) hx hb dX6_isSign_106 (by decide) ?_
  obtain rfl := Option.some.inj hf
  exact mretZ hx hb hr hlocks hK hP hD hS rfl hQ dX6_isSign_107
/-! TwinLamps$Reader.accept -/
noncomputable def f6_accept_L2  (v3 : Int32 × St) : Option ((Int32 × St) ⊕ (St)) :=
  if (v3.2.1 5) ≤ v3.1 then some (.inr v3.2) else (ldO 600 (v3.2.2 4) v3.1).bind fun q4 =>
  (f6_isBlank q4).bind fun q5 =>
  if (zB q5) = 0 then some (.inr v3.2) else (some (sS v3.2 8 (v3.1 + 1))).bind fun s6 =>
  some (.inl ((v3.1 + 1), s6))
noncomputable def f6_accept (s_r : St) : Option (St) :=
  if (s_r.1 6) = 0 then ((some (sS s_r 8 (s_r.1 9))).bind fun s1 =>
  (lpw (f6_accept_L2) ((s1.1 9), s1)).bind fun q2 =>
  (some (sS q2 9 (q2.1 8))).bind fun s7 =>
  ((if (s7.1 8) < (s7.1 5) then ((ldO 600 (s7.2 4) (s7.1 8)).bind fun q9 =>
  (f6_isLetter q9).bind fun q10 =>
  if (zB q10) = 0 then ((ldO 600 (s7.2 4) (s7.1 8)).bind fun q11 =>
  (f6_isDigit q11).bind fun q12 =>
  if (zB q12) = 0 then ((some (sS s7 9 ((s7.1 8) + 1))).bind fun s13 =>
  (ldO 600 (s13.2 4) (s13.1 8)).bind fun q14 =>
  (f6_isSign q14).bind fun q15 =>
  ((if (zB q15) = 0 then some 1 else (ldO 600 (s13.2 4) (s13.1 8)).bind fun q17 =>
  some q17 : Option (Int32))).bind fun q16 =>
  (some (sS s13 7 q16)).bind fun s18 =>
  some s18)
  else (f6_readNumber s7).bind fun q19 =>
  some q19)
  else (f6_readWord s7).bind fun q20 =>
  some q20)
  else (some (sS s7 7 0)).bind fun s21 =>
  some s21 : Option (St))).bind fun q8 =>
  some q8)
  else some s_r
set_option maxHeartbeats 4000000 in
set_option maxRecDepth 100000 in
theorem c6_accept (l : Launch) (D : va_G) (cs : xE) (o_r : Nat) (a_r : Nat → Nat) (s_r : St) (sz : Nat) (res : St) (hf : f6_accept s_r = some res) : Met l yX6_accept (Cond.code yX6_accept cX6_accept 2 none :: WG) { frames := 7, cells := 0, slots := 0, locals := 193 } (va_Pc [.ref o_r] (mP D cs (List.flatten [w6 cs o_r a_r s_r]) sz)) (qV D cs (List.flatten [w6 cs o_r a_r res]) (va_A (List.flatten [w6 cs o_r a_r s_r]) sz)) 0 0 (va_A (List.flatten [w6 cs o_r a_r s_r]) sz) := by
  refine mgo (Qc := qV D cs (List.flatten [w6 cs o_r a_r res])) (cc := cX6_accept) (maxL := 2) (ret := none) (by decide) rfl (Nat.le_of_ble_eq_true rfl) ?_
  intro p e s m below meth c ls A R Q args H hR hQ hx hb hml hr hlocks hown hts hP hK hD hA hS hG hl
  have hown : s.vm.findClass RX6 = some m.cls := hown
  have hl : lv_has ls 2 [(0, .ref o_r)] := hl
  have hW : ∀ w ∈ WG, w.before args s = true := fun w h => hts w (List.mem_cons_of_mem _ h)
  have htX6 : ∀ w ∈ u_ws RX6 TX6 12, w.before args s = true := fun w h => hW w (inW_X6 w h)
  unfold f6_accept at hf
  refine lv_aload_n hx hb dX6_accept_0 rfl (lv_at hl 0 rfl) ?_
  refine gfB (i0 := 0) (own := RX6) (T := TX6) (k := 6) (v := .int (s_r.1 6)) hx hb htX6 hown hK hP rfl e6 rfl (by decide) (hW _ wd236) rfl dX6_accept_1 ?_
  refine lv_if_eq (tgt := 8) hx hb dX6_accept_4 (by decide) (fun hc => ?_) (fun hc => ?_)
  · have hf := ifp hc hf
    refine lv_aload_n hx hb dX6_accept_8 rfl (lv_at hl 0 rfl) ?_
    refine lv_aload_n hx hb dX6_accept_9 rfl (lv_at hl 0 rfl) ?_
    refine gfB (i0 := 0) (own := RX6) (T := TX6) (k := 9) (v := .int (s_r.1 9)) hx hb htX6 hown hK hP rfl e6 rfl (by decide) (hW _ wd239) rfl dX6_accept_10 ?_
    obtain ⟨s1, es1, hf⟩ := bnd hf
    replace es1 := Option.some.inj es1
    refine pfB (i0 := 0) (own := RX6) (T := TX6) (k := 8) (Bn := [w6 cs o_r a_r s1]) tyX6 tyX6_ok nmX6 hx hb htX6 hown hK hP hD hS rfl e6 rfl (by decide) (hW _ wd238) rfl rfl rfl (Nat.le_of_ble_eq_true rfl) dX6_accept_13 (by rw [← es1]; exact u6_8) rfl (fun H locs hP hD hS => ?_)
    refine lv_aload_n hx hb dX6_accept_16 rfl (lv_at hl 0 rfl) ?_
    refine gfB (i0 := 0) (own := RX6) (T := TX6) (k := 9) (v := .int (s1.1 9)) hx hb htX6 hown hK hP rfl e6 rfl (by decide) (hW _ wd239) rfl dX6_accept_17 ?_
    refine lv_istore_n (lv' := [(1, .int (s1.1 9)), (0, .ref o_r)]) hx hb dX6_accept_20 rfl hl (by decide) rfl (fun ls hl => ?_)
    obtain ⟨q2, hq2, hf⟩ := bnd hf
    obtain ⟨n2, hq2⟩ := lpw_ex hq2
    have Jq2_0 : ∀ rr2_0 : St, q2 = rr2_0 → ∀ (H : Heap) (locs : List Loc) (ls : Array Slot), va_P D vwCl (List.flatten [w6 cs o_r a_r rr2_0]) H → va_D A (List.flatten [w6 cs o_r a_r rr2_0]) → va_S A s.heap H locs → lv_has ls 2 [(0, .ref o_r)] → W p l e R s m args below meth c H locs 0 0 Q (F0 m 54 ls []) := by
      intro rr2_0 eq2 H locs ls hP hD hS hl
      subst eq2
      refine lv_aload_n hx hb dX6_accept_54 rfl (lv_at hl 0 rfl) ?_
      refine lv_aload_n hx hb dX6_accept_55 rfl (lv_at hl 0 rfl) ?_
      refine gfB (i0 := 0) (own := RX6) (T := TX6) (k := 8) (v := .int (q2.1 8)) hx hb htX6 hown hK hP rfl e6 rfl (by decide) (hW _ wd238) rfl dX6_accept_56 ?_
      obtain ⟨s7, es7, hf⟩ := bnd hf
      replace es7 := Option.some.inj es7
      refine pfB (i0 := 0) (own := RX6) (T := TX6) (k := 9) (Bn := [w6 cs o_r a_r s7]) tyX6 tyX6_ok nmX6 hx hb htX6 hown hK hP hD hS rfl e6 rfl (by decide) (hW _ wd239) rfl rfl rfl (Nat.le_of_ble_eq_true rfl) dX6_accept_59 (by rw [← es7]; exact u6_9) rfl (fun H locs hP hD hS => ?_)
      refine lv_aload_n hx hb dX6_accept_62 rfl (lv_at hl 0 rfl) ?_
      refine gfB (i0 := 0) (own := RX6) (T := TX6) (k := 8) (v := .int (s7.1 8)) hx hb htX6 hown hK hP rfl e6 rfl (by decide) (hW _ wd238) rfl dX6_accept_63 ?_
      refine lv_aload_n hx hb dX6_accept_66 rfl (lv_at hl 0 rfl) ?_
      refine gfB (i0 := 0) (own := RX6) (T := TX6) (k := 5) (v := .int (s7.1 5)) hx hb htX6 hown hK hP rfl e6 rfl (by decide) (hW _ wd235) rfl dX6_accept_67 ?_
      obtain ⟨q8, hq8, hf⟩ := bnd hf
      have Jq8 : ∀ r8 : St, q8 = r8 → ∀ (H : Heap) (locs : List Loc) (ls : Array Slot), va_P D vwCl (List.flatten [w6 cs o_r a_r r8]) H → va_D A (List.flatten [w6 cs o_r a_r r8]) → va_S A s.heap H locs → lv_has ls 2 [] → W p l e R s m args below meth c H locs 0 0 Q (F0 m 167 ls []) := by
        intro r8 eq8 H locs ls hP hD hS hl
        subst eq8
        obtain rfl := Option.some.inj hf
        exact mretV hx hb hr hlocks hK hP hD hS hQ dX6_accept_167
      clear hf
      have hf := hq8
      refine lv_icmp_lt (tgt := 81) hx hb dX6_accept_70 (by decide) (fun hc => ?_) (fun hc => ?_)
      · have hf := ifp hc hf
        refine lv_aload_n hx hb dX6_accept_81 rfl (lv_at hl 0 rfl) ?_
        refine gfB (i0 := 0) (own := RX6) (T := TX6) (k := 4) (v := .ref (a_r 4)) hx hb htX6 hown hK hP rfl e6 rfl (by decide) (hW _ wd234) rfl dX6_accept_82 ?_
        refine lv_aload_n hx hb dX6_accept_85 rfl (lv_at hl 0 rfl) ?_
        refine gfB (i0 := 0) (own := RX6) (T := TX6) (k := 8) (v := .int (s7.1 8)) hx hb htX6 hown hK hP rfl e6 rfl (by decide) (hW _ wd238) rfl dX6_accept_86 ?_
        obtain ⟨q9, eq9, hf⟩ := bnd hf
        obtain ⟨gq9, eq9⟩ := ldO_e eq9
        refine bldB (i0 := 0) hx hb hK hP rfl a6_4 gq9 dX6_accept_89 ?_
        refine lv_nm eq9 ?_
        obtain ⟨q10, eq10, hf⟩ := bnd hf
        refine mcSi0 (v := (zB q10)) (As := [.int q9]) (rest := []) ⟨hx, hb, hml, hown, hts⟩ hK hP hS hA hG (c6_isLetter l D cs H.size q9 _ eq10) (va_cwS 1 hts (gS wd707 wd708 wd106 wd709) rfl rfl rfl (by decide +kernel) ⟨by rw [hR]; exact Nat.le_of_ble_eq_true rfl, by rw [hR]; exact Nat.le_of_ble_eq_true rfl⟩) rfl hl.1 rfl (Nat.le_of_ble_eq_true rfl) ⟨Nat.zero_le _, Nat.zero_le _⟩ dX6_accept_90 (fun H locs hP hS => ?_)
        refine lv_if_eq (tgt := 103) hx hb dX6_accept_93 (by decide) (fun hc => ?_) (fun hc => ?_)
        · have hf := ifp hc hf
          refine lv_aload_n hx hb dX6_accept_103 rfl (lv_at hl 0 rfl) ?_
          refine gfB (i0 := 0) (own := RX6) (T := TX6) (k := 4) (v := .ref (a_r 4)) hx hb htX6 hown hK hP rfl e6 rfl (by decide) (hW _ wd234) rfl dX6_accept_104 ?_
          refine lv_aload_n hx hb dX6_accept_107 rfl (lv_at hl 0 rfl) ?_
          refine gfB (i0 := 0) (own := RX6) (T := TX6) (k := 8) (v := .int (s7.1 8)) hx hb htX6 hown hK hP rfl e6 rfl (by decide) (hW _ wd238) rfl dX6_accept_108 ?_
          obtain ⟨q11, eq11, hf⟩ := bnd hf
          obtain ⟨gq11, eq11⟩ := ldO_e eq11
          refine bldB (i0 := 0) hx hb hK hP rfl a6_4 gq11 dX6_accept_111 ?_
          refine lv_nm eq11 ?_
          obtain ⟨q12, eq12, hf⟩ := bnd hf
          refine mcSi0 (v := (zB q12)) (As := [.int q11]) (rest := []) ⟨hx, hb, hml, hown, hts⟩ hK hP hS hA hG (c6_isDigit l D cs H.size q11 _ eq12) (va_cwS 1 hts (gS wd785 wd786 wd106 wd787) rfl rfl rfl (by decide +kernel) ⟨by rw [hR]; exact Nat.le_of_ble_eq_true rfl, by rw [hR]; exact Nat.le_of_ble_eq_true rfl⟩) rfl hl.1 rfl (Nat.le_of_ble_eq_true rfl) ⟨Nat.zero_le _, Nat.zero_le _⟩ dX6_accept_112 (fun H locs hP hS => ?_)
          refine lv_if_eq (tgt := 125) hx hb dX6_accept_115 (by decide) (fun hc => ?_) (fun hc => ?_)
          · have hf := ifp hc hf
            refine lv_aload_n hx hb dX6_accept_125 rfl (lv_at hl 0 rfl) ?_
            refine lv_aload_n hx hb dX6_accept_126 rfl (lv_at hl 0 rfl) ?_
            refine gfB (i0 := 0) (own := RX6) (T := TX6) (k := 8) (v := .int (s7.1 8)) hx hb htX6 hown hK hP rfl e6 rfl (by decide) (hW _ wd238) rfl dX6_accept_127 ?_
            refine lv_iconst (v := 1) hx hb dX6_accept_130 (by decide) ?_
            refine lv_iadd hx hb dX6_accept_131 ?_
            obtain ⟨s13, es13, hf⟩ := bnd hf
            replace es13 := Option.some.inj es13
            refine pfB (i0 := 0) (own := RX6) (T := TX6) (k := 9) (Bn := [w6 cs o_r a_r s13]) tyX6 tyX6_ok nmX6 hx hb htX6 hown hK hP hD hS rfl e6 rfl (by decide) (hW _ wd239) rfl rfl rfl (Nat.le_of_ble_eq_true rfl) dX6_accept_132 (by rw [← es13]; exact u6_9) rfl (fun H locs hP hD hS => ?_)
            refine lv_aload_n hx hb dX6_accept_135 rfl (lv_at hl 0 rfl) ?_
            refine lv_aload_n hx hb dX6_accept_136 rfl (lv_at hl 0 rfl) ?_
            refine gfB (i0 := 0) (own := RX6) (T := TX6) (k := 4) (v := .ref (a_r 4)) hx hb htX6 hown hK hP rfl e6 rfl (by decide) (hW _ wd234) rfl dX6_accept_137 ?_
            refine lv_aload_n hx hb dX6_accept_140 rfl (lv_at hl 0 rfl) ?_
            refine gfB (i0 := 0) (own := RX6) (T := TX6) (k := 8) (v := .int (s13.1 8)) hx hb htX6 hown hK hP rfl e6 rfl (by decide) (hW _ wd238) rfl dX6_accept_141 ?_
            obtain ⟨q14, eq14, hf⟩ := bnd hf
            obtain ⟨gq14, eq14⟩ := ldO_e eq14
            refine bldB (i0 := 0) hx hb hK hP rfl a6_4 gq14 dX6_accept_144 ?_
            refine lv_nm eq14 ?_
            obtain ⟨q15, eq15, hf⟩ := bnd hf
            refine mcSi0 (v := (zB q15)) (As := [.int q14]) (rest := [.ref o_r]) ⟨hx, hb, hml, hown, hts⟩ hK hP hS hA hG (c6_isSign l D cs H.size q14 _ eq15) (va_cwS 1 hts (gS wd792 wd793 wd106 wd794) rfl rfl rfl (by decide +kernel) ⟨by rw [hR]; exact Nat.le_of_ble_eq_true rfl, by rw [hR]; exact Nat.le_of_ble_eq_true rfl⟩) rfl hl.1 rfl (Nat.le_of_ble_eq_true rfl) ⟨Nat.zero_le _, Nat.zero_le _⟩ dX6_accept_145 (fun H locs hP hS => ?_)
            obtain ⟨q16, hq16, hf⟩ := bnd hf
            have Jq16 : ∀ r16 : Int32, q16 = r16 → ∀ (H : Heap) (locs : List Loc) (ls : Array Slot), va_P D vwCl (List.flatten [w6 cs o_r a_r s13]) H → va_D A (List.flatten [w6 cs o_r a_r s13]) → va_S A s.heap H locs → lv_has ls 2 [] → W p l e R s m args below meth c H locs 0 0 Q (F0 m 164 ls [.int r16, .ref o_r]) := by
              intro r16 eq16 H locs ls hP hD hS hl
              subst eq16
              obtain ⟨s18, es18, hf⟩ := bnd hf
              replace es18 := Option.some.inj es18
              refine pfB (i0 := 0) (own := RX6) (T := TX6) (k := 7) (Bn := [w6 cs o_r a_r s18]) tyX6 tyX6_ok nmX6 hx hb htX6 hown hK hP hD hS rfl e6 rfl (by decide) (hW _ wd237) rfl rfl rfl (Nat.le_of_ble_eq_true rfl) dX6_accept_164 (by rw [← es18]; exact u6_7) rfl (fun H locs hP hD hS => ?_)
              exact Jq8 _ (Option.some.inj hf).symm _ _ _ hP hD hS (lv_sub hl [] rfl)
            clear hf
            have hf := hq16
            refine lv_if_eq (tgt := 163) hx hb dX6_accept_148 (by decide) (fun hc => ?_) (fun hc => ?_)
            · have hf := ifp hc hf
              refine lv_iconst (v := 1) hx hb dX6_accept_163 (by decide) ?_
              exact Jq16 _ (Option.some.inj hf).symm _ _ _ hP hD hS (lv_sub hl [] rfl)
            · have hf := ifn hc hf
              refine lv_aload_n hx hb dX6_accept_151 rfl (lv_at hl 0 rfl) ?_
              refine gfB (i0 := 0) (own := RX6) (T := TX6) (k := 4) (v := .ref (a_r 4)) hx hb htX6 hown hK hP rfl e6 rfl (by decide) (hW _ wd234) rfl dX6_accept_152 ?_
              refine lv_aload_n hx hb dX6_accept_155 rfl (lv_at hl 0 rfl) ?_
              refine gfB (i0 := 0) (own := RX6) (T := TX6) (k := 8) (v := .int (s13.1 8)) hx hb htX6 hown hK hP rfl e6 rfl (by decide) (hW _ wd238) rfl dX6_accept_156 ?_
              obtain ⟨q17, eq17, hf⟩ := bnd hf
              obtain ⟨gq17, eq17⟩ := ldO_e eq17
              refine bldB (i0 := 0) hx hb hK hP rfl a6_4 gq17 dX6_accept_159 ?_
              refine lv_nm eq17 ?_
              refine lv_goto (tgt := 164) hx hb dX6_accept_160 (by decide) ?_
              exact Jq16 _ (Option.some.inj hf).symm _ _ _ hP hD hS (lv_sub hl [] rfl)
          · have hf := ifn hc hf
            refine lv_aload_n hx hb dX6_accept_118 rfl (lv_at hl 0 rfl) ?_
            obtain ⟨q19, eq19, hf⟩ := bnd hf
            refine mcVv (rest := []) (Bn := [w6 cs o_r a_r q19]) (isR := []) (isC := [0]) (i0 := 0) ⟨hx, hb, hml, hown, hts⟩ hK hP hD hS hA hG (c6_readNumber l D cs o_r a_r s7 H.size _ eq19) (cwV 0 hts (gV wd788 wd790 wd9 wd106 wd791) rfl rfl rfl (by decide +kernel) ⟨by rw [hR]; exact Nat.le_of_ble_eq_true rfl, by rw [hR]; exact Nat.le_of_ble_eq_true rfl⟩) 1 (by decide) rfl rfl rfl rfl rfl rfl rfl e6 rfl rfl rfl hl.1 rfl (Nat.le_of_ble_eq_true rfl) ⟨Nat.zero_le _, Nat.zero_le _⟩ dX6_accept_119 (fun H locs hP hD hS => ?_)
            refine lv_goto (tgt := 167) hx hb dX6_accept_122 (by decide) ?_
            exact Jq8 _ (Option.some.inj hf).symm _ _ _ hP hD hS (lv_sub hl [] rfl)
        · have hf := ifn hc hf
          refine lv_aload_n hx hb dX6_accept_96 rfl (lv_at hl 0 rfl) ?_
          obtain ⟨q20, eq20, hf⟩ := bnd hf
          refine mcVv (rest := []) (Bn := [w6 cs o_r a_r q20]) (isR := []) (isC := [0]) (i0 := 0) ⟨hx, hb, hml, hown, hts⟩ hK hP hD hS hA hG (c6_readWord l D cs o_r a_r s7 H.size _ eq20) (cwV 0 hts (gV wd710 wd712 wd7 wd106 wd713) rfl rfl rfl (by decide +kernel) ⟨by rw [hR]; exact Nat.le_of_ble_eq_true rfl, by rw [hR]; exact Nat.le_of_ble_eq_true rfl⟩) 1 (by decide) rfl rfl rfl rfl rfl rfl rfl e6 rfl rfl rfl hl.1 rfl (Nat.le_of_ble_eq_true rfl) ⟨Nat.zero_le _, Nat.zero_le _⟩ dX6_accept_97 (fun H locs hP hD hS => ?_)
          refine lv_goto (tgt := 167) hx hb dX6_accept_100 (by decide) ?_
          exact Jq8 _ (Option.some.inj hf).symm _ _ _ hP hD hS (lv_sub hl [] rfl)
      · have hf := ifn hc hf
        refine lv_aload_n hx hb dX6_accept_73 rfl (lv_at hl 0 rfl) ?_
        refine lv_iconst (v := 0) hx hb dX6_accept_74 (by decide) ?_
        obtain ⟨s21, es21, hf⟩ := bnd hf
        replace es21 := Option.some.inj es21
        refine pfB (i0 := 0) (own := RX6) (T := TX6) (k := 7) (Bn := [w6 cs o_r a_r s21]) tyX6 tyX6_ok nmX6 hx hb htX6 hown hK hP hD hS rfl e6 rfl (by decide) (hW _ wd237) rfl rfl rfl (Nat.le_of_ble_eq_true rfl) dX6_accept_75 (by rw [← es21]; exact u6_7) rfl (fun H locs hP hD hS => ?_)
        refine lv_goto (tgt := 167) hx hb dX6_accept_78 (by decide) ?_
        exact Jq8 _ (Option.some.inj hf).symm _ _ _ hP hD hS (lv_sub hl [] rfl)
    clear hf
    have L2 : ∀ n2, ∀ v3 : Int32 × St, lp n2 (f6_accept_L2) v3 = some q2 → ∀ (H : Heap) (locs : List Loc) (ls : Array Slot), va_P D vwCl (List.flatten [w6 cs o_r a_r v3.2]) H → va_D A (List.flatten [w6 cs o_r a_r v3.2]) → va_S A s.heap H locs → lv_has ls 2 [(0, .ref o_r), (1, .int v3.1)] → W p l e R s m args below meth c H locs 0 0 Q (F0 m 21 ls []) := by
      intro n2
      induction n2 with
      | zero => intro v3 hn; cases hn
      | succ n2 ih2 =>
        intro v3 hn2 H locs ls hP hD hS hl
        obtain ⟨y2, hf, hn2⟩ := lp_succ hn2
        unfold f6_accept_L2 at hf
        refine lv_iload_n hx hb dX6_accept_21 rfl (lv_at hl 1 rfl) ?_
        refine lv_aload_n hx hb dX6_accept_22 rfl (lv_at hl 0 rfl) ?_
        refine gfB (i0 := 0) (own := RX6) (T := TX6) (k := 5) (v := .int (v3.2.1 5)) hx hb htX6 hown hK hP rfl e6 rfl (by decide) (hW _ wd235) rfl dX6_accept_23 ?_
        refine lv_icmp_ge (tgt := 54) hx hb dX6_accept_26 (by decide) (fun hc => ?_) (fun hc => ?_)
        · have hf := ifp hc hf
          cases hf
          exact Jq2_0 _ (Option.some.inj hn2).symm _ _ _ hP hD hS (lv_sub hl [0] rfl)
        · have hf := ifn hc hf
          refine lv_aload_n hx hb dX6_accept_29 rfl (lv_at hl 0 rfl) ?_
          refine gfB (i0 := 0) (own := RX6) (T := TX6) (k := 4) (v := .ref (a_r 4)) hx hb htX6 hown hK hP rfl e6 rfl (by decide) (hW _ wd234) rfl dX6_accept_30 ?_
          refine lv_iload_n hx hb dX6_accept_33 rfl (lv_at hl 1 rfl) ?_
          obtain ⟨q4, eq4, hf⟩ := bnd hf
          obtain ⟨gq4, eq4⟩ := ldO_e eq4
          refine bldB (i0 := 0) hx hb hK hP rfl a6_4 gq4 dX6_accept_34 ?_
          refine lv_nm eq4 ?_
          obtain ⟨q5, eq5, hf⟩ := bnd hf
          refine mcSi0 (v := (zB q5)) (As := [.int q4]) (rest := []) ⟨hx, hb, hml, hown, hts⟩ hK hP hS hA hG (c6_isBlank l D cs H.size q4 _ eq5) (va_cwS 1 hts (gS wd704 wd705 wd106 wd706) rfl rfl rfl (by decide +kernel) ⟨by rw [hR]; exact Nat.le_of_ble_eq_true rfl, by rw [hR]; exact Nat.le_of_ble_eq_true rfl⟩) rfl hl.1 rfl (Nat.le_of_ble_eq_true rfl) ⟨Nat.zero_le _, Nat.zero_le _⟩ dX6_accept_35 (fun H locs hP hS => ?_)
          refine lv_if_eq (tgt := 54) hx hb dX6_accept_38 (by decide) (fun hc => ?_) (fun hc => ?_)
          · have hf := ifp hc hf
            cases hf
            exact Jq2_0 _ (Option.some.inj hn2).symm _ _ _ hP hD hS (lv_sub hl [0] rfl)
          · have hf := ifn hc hf
            refine lv_aload_n hx hb dX6_accept_41 rfl (lv_at hl 0 rfl) ?_
            refine lv_iload_n hx hb dX6_accept_42 rfl (lv_at hl 1 rfl) ?_
            refine lv_iconst (v := 1) hx hb dX6_accept_43 (by decide) ?_
            refine lv_iadd hx hb dX6_accept_44 ?_
            obtain ⟨s6, es6, hf⟩ := bnd hf
            replace es6 := Option.some.inj es6
            refine pfB (i0 := 0) (own := RX6) (T := TX6) (k := 8) (Bn := [w6 cs o_r a_r s6]) tyX6 tyX6_ok nmX6 hx hb htX6 hown hK hP hD hS rfl e6 rfl (by decide) (hW _ wd238) rfl rfl rfl (Nat.le_of_ble_eq_true rfl) dX6_accept_45 (by rw [← es6]; exact u6_8) rfl (fun H locs hP hD hS => ?_)
            refine lv_iinc (v := (v3.1 + 1)) (lv' := [(1, .int (v3.1 + 1)), (0, .ref o_r)]) hx hb dX6_accept_48 hl (k := 1) rfl rfl (by decide) rfl (fun ls hl => ?_)
            refine lv_goto (tgt := 21) hx hb dX6_accept_51 (by decide) ?_
            cases hf
            exact ih2 _ hn2 _ _ _ hP hD hS (lv_sub hl [1, 0] rfl)
    exact L2 _ _ hq2 _ _ _ hP hD hS (lv_sub hl [1, 0] rfl)
  · have hf := ifn hc hf
    obtain rfl := Option.some.inj hf
    exact mretV hx hb hr hlocks hK hP hD hS hQ dX6_accept_7
/-! TwinLamps$Reader.fail -/
noncomputable def f6_fail (s_r : St) (x1 : Int32) : Option (St) :=
  ((if (s_r.1 6) = 0 then ((some (sS s_r 6 x1)).bind fun s2 =>
  (some (sS s2 3 (s2.1 8))).bind fun s3 =>
  some s3)
  else some s_r : Option (St))).bind fun q1 =>
  some q1
set_option maxHeartbeats 4000000 in
set_option maxRecDepth 100000 in
theorem c6_fail (l : Launch) (D : va_G) (cs : xE) (o_r : Nat) (a_r : Nat → Nat) (s_r : St) (sz : Nat) (x1 : Int32) (res : St) (hf : f6_fail s_r x1 = some res) : Met l yX6_fail (Cond.code yX6_fail cX6_fail 2 none :: WG) { frames := 0, cells := 0, slots := 0, locals := 0 } (va_Pc [.ref o_r, .int x1] (mP D cs (List.flatten [w6 cs o_r a_r s_r]) sz)) (qV D cs (List.flatten [w6 cs o_r a_r res]) (va_A (List.flatten [w6 cs o_r a_r s_r]) sz)) 0 0 (va_A (List.flatten [w6 cs o_r a_r s_r]) sz) := by
  refine mgo (Qc := qV D cs (List.flatten [w6 cs o_r a_r res])) (cc := cX6_fail) (maxL := 2) (ret := none) (by decide) rfl (Nat.le_of_ble_eq_true rfl) ?_
  intro p e s m below meth c ls A R Q args H hR hQ hx hb hml hr hlocks hown hts hP hK hD hA hS hG hl
  have hown : s.vm.findClass RX6 = some m.cls := hown
  have hl : lv_has ls 2 [(0, .ref o_r), (1, .int x1)] := hl
  have hW : ∀ w ∈ WG, w.before args s = true := fun w h => hts w (List.mem_cons_of_mem _ h)
  have htX6 : ∀ w ∈ u_ws RX6 TX6 12, w.before args s = true := fun w h => hW w (inW_X6 w h)
  unfold f6_fail at hf
  refine lv_aload_n hx hb dX6_fail_0 rfl (lv_at hl 0 rfl) ?_
  refine gfB (i0 := 0) (own := RX6) (T := TX6) (k := 6) (v := .int (s_r.1 6)) hx hb htX6 hown hK hP rfl e6 rfl (by decide) (hW _ wd236) rfl dX6_fail_1 ?_
  obtain ⟨q1, hq1, hf⟩ := bnd hf
  have Jq1 : ∀ r1 : St, q1 = r1 → ∀ (H : Heap) (locs : List Loc) (ls : Array Slot), va_P D vwCl (List.flatten [w6 cs o_r a_r r1]) H → va_D A (List.flatten [w6 cs o_r a_r r1]) → va_S A s.heap H locs → lv_has ls 2 [] → W p l e R s m args below meth c H locs 0 0 Q (F0 m 20 ls []) := by
    intro r1 eq1 H locs ls hP hD hS hl
    subst eq1
    obtain rfl := Option.some.inj hf
    exact mretV hx hb hr hlocks hK hP hD hS hQ dX6_fail_20
  clear hf
  have hf := hq1
  refine lv_if_ne (tgt := 20) hx hb dX6_fail_4 (by decide) (fun hc => ?_) (fun hc => ?_)
  · have hf := ifn hc hf
    exact Jq1 _ (Option.some.inj hf).symm _ _ _ hP hD hS (lv_sub hl [] rfl)
  · have hf := ifp hc hf
    refine lv_aload_n hx hb dX6_fail_7 rfl (lv_at hl 0 rfl) ?_
    refine lv_iload_n hx hb dX6_fail_8 rfl (lv_at hl 1 rfl) ?_
    obtain ⟨s2, es2, hf⟩ := bnd hf
    replace es2 := Option.some.inj es2
    refine pfB (i0 := 0) (own := RX6) (T := TX6) (k := 6) (Bn := [w6 cs o_r a_r s2]) tyX6 tyX6_ok nmX6 hx hb htX6 hown hK hP hD hS rfl e6 rfl (by decide) (hW _ wd236) rfl rfl rfl (Nat.le_of_ble_eq_true rfl) dX6_fail_9 (by rw [← es2]; exact u6_6) rfl (fun H locs hP hD hS => ?_)
    refine lv_aload_n hx hb dX6_fail_12 rfl (lv_at hl 0 rfl) ?_
    refine lv_aload_n hx hb dX6_fail_13 rfl (lv_at hl 0 rfl) ?_
    refine gfB (i0 := 0) (own := RX6) (T := TX6) (k := 8) (v := .int (s2.1 8)) hx hb htX6 hown hK hP rfl e6 rfl (by decide) (hW _ wd238) rfl dX6_fail_14 ?_
    obtain ⟨s3, es3, hf⟩ := bnd hf
    replace es3 := Option.some.inj es3
    refine pfB (i0 := 0) (own := RX6) (T := TX6) (k := 3) (Bn := [w6 cs o_r a_r s3]) tyX6 tyX6_ok nmX6 hx hb htX6 hown hK hP hD hS rfl e6 rfl (by decide) (hW _ wd232) rfl rfl rfl (Nat.le_of_ble_eq_true rfl) dX6_fail_17 (by rw [← es3]; exact u6_3) rfl (fun H locs hP hD hS => ?_)
    exact Jq1 _ (Option.some.inj hf).symm _ _ _ hP hD hS (lv_sub hl [] rfl)
/-! TwinLamps$Reader.expect -/
noncomputable def f6_expect (s_r : St) (x1 : Int32) : Option (St) :=
  ((if (s_r.1 7) = x1 then some s_r else (f6_fail s_r (1 : Int32)).bind fun q2 =>
  some q2 : Option (St))).bind fun q1 =>
  (f6_accept q1).bind fun q3 =>
  some q3
set_option maxHeartbeats 4000000 in
set_option maxRecDepth 100000 in
theorem c6_expect (l : Launch) (D : va_G) (cs : xE) (o_r : Nat) (a_r : Nat → Nat) (s_r : St) (sz : Nat) (x1 : Int32) (res : St) (hf : f6_expect s_r x1 = some res) : Met l yX6_expect (Cond.code yX6_expect cX6_expect 2 none :: WG) { frames := 8, cells := 0, slots := 0, locals := 214 } (va_Pc [.ref o_r, .int x1] (mP D cs (List.flatten [w6 cs o_r a_r s_r]) sz)) (qV D cs (List.flatten [w6 cs o_r a_r res]) (va_A (List.flatten [w6 cs o_r a_r s_r]) sz)) 0 0 (va_A (List.flatten [w6 cs o_r a_r s_r]) sz) := by
  refine mgo (Qc := qV D cs (List.flatten [w6 cs o_r a_r res])) (cc := cX6_expect) (maxL := 2) (ret := none) (by decide) rfl (Nat.le_of_ble_eq_true rfl) ?_
  intro p e s m below meth c ls A R Q args H hR hQ hx hb hml hr hlocks hown hts hP hK hD hA hS hG hl
  have hown : s.vm.findClass RX6 = some m.cls := hown
  have hl : lv_has ls 2 [(0, .ref o_r), (1, .int x1)] := hl
  have hW : ∀ w ∈ WG, w.before args s = true := fun w h => hts w (List.mem_cons_of_mem _ h)
  have htX6 : ∀ w ∈ u_ws RX6 TX6 12, w.before args s = true := fun w h => hW w (inW_X6 w h)
  unfold f6_expect at hf
  refine lv_aload_n hx hb dX6_expect_0 rfl (lv_at hl 0 rfl) ?_
  refine gfB (i0 := 0) (own := RX6) (T := TX6) (k := 7) (v := .int (s_r.1 7)) hx hb htX6 hown hK hP rfl e6 rfl (by decide) (hW _ wd237) rfl dX6_expect_1 ?_
  refine lv_iload_n hx hb dX6_expect_4 rfl (lv_at hl 1 rfl) ?_
  obtain ⟨q1, hq1, hf⟩ := bnd hf
  have Jq1 : ∀ r1 : St, q1 = r1 → ∀ (H : Heap) (locs : List Loc) (ls : Array Slot), va_P D vwCl (List.flatten [w6 cs o_r a_r r1]) H → va_D A (List.flatten [w6 cs o_r a_r r1]) → va_S A s.heap H locs → lv_has ls 2 [(0, .ref o_r)] → W p l e R s m args below meth c H locs 0 0 Q (F0 m 13 ls []) := by
    intro r1 eq1 H locs ls hP hD hS hl
    subst eq1
    refine lv_aload_n hx hb dX6_expect_13 rfl (lv_at hl 0 rfl) ?_
    obtain ⟨q3, eq3, hf⟩ := bnd hf
    refine mcVv (rest := []) (Bn := [w6 cs o_r a_r q3]) (isR := []) (isC := [0]) (i0 := 0) ⟨hx, hb, hml, hown, hts⟩ hK hP hD hS hA hG (c6_accept l D cs o_r a_r q1 H.size _ eq3) (cwV 0 hts (gV wd700 wd702 wd6 wd106 wd703) rfl rfl rfl (by decide +kernel) ⟨by rw [hR]; exact Nat.le_of_ble_eq_true rfl, by rw [hR]; exact Nat.le_of_ble_eq_true rfl⟩) 1 (by decide) rfl rfl rfl rfl rfl rfl rfl e6 rfl rfl rfl hl.1 rfl (Nat.le_of_ble_eq_true rfl) ⟨Nat.zero_le _, Nat.zero_le _⟩ dX6_expect_14 (fun H locs hP hD hS => ?_)
    obtain rfl := Option.some.inj hf
    exact mretV hx hb hr hlocks hK hP hD hS hQ dX6_expect_17
  clear hf
  have hf := hq1
  refine lv_icmp_eq (tgt := 13) hx hb dX6_expect_5 (by decide) (fun hc => ?_) (fun hc => ?_)
  · have hf := ifp hc hf
    exact Jq1 _ (Option.some.inj hf).symm _ _ _ hP hD hS (lv_sub hl [0] rfl)
  · have hf := ifn hc hf
    refine lv_aload_n hx hb dX6_expect_8 rfl (lv_at hl 0 rfl) ?_
    refine lv_iconst (v := 1) hx hb dX6_expect_9 (by decide) ?_
    obtain ⟨q2, eq2, hf⟩ := bnd hf
    refine mcVv (rest := []) (Bn := [w6 cs o_r a_r q2]) (isR := []) (isC := [0]) (i0 := 0) ⟨hx, hb, hml, hown, hts⟩ hK hP hD hS hA hG (c6_fail l D cs o_r a_r s_r H.size (1 : Int32) _ eq2) (cwV 1 hts (gV wd803 wd805 wd12 wd106 wd806) rfl rfl rfl (by decide +kernel) ⟨by rw [hR]; exact Nat.le_of_ble_eq_true rfl, by rw [hR]; exact Nat.le_of_ble_eq_true rfl⟩) 1 (by decide) rfl rfl rfl rfl rfl rfl rfl e6 rfl rfl rfl hl.1 rfl (Nat.le_of_ble_eq_true rfl) ⟨Nat.zero_le _, Nat.zero_le _⟩ dX6_expect_10 (fun H locs hP hD hS => ?_)
    exact Jq1 _ (Option.some.inj hf).symm _ _ _ hP hD hS (lv_sub hl [0] rfl)
/-! TwinLamps$Reader.part -/
noncomputable def f6_part (rec : St → St → Int32 → Option (St × St)) (s_r : St) (s_g : St) (x1 : Int32) : Option (St × St) :=
  ((if (s_r.1 7) = 2 then (((if (s_r.1 10) ≤ 4 then some s_r else (f6_fail s_r (2 : Int32)).bind fun q15 =>
  some q15 : Option (St))).bind fun q14 =>
  (f7_add s_g (q14.1 11)).bind fun q16 =>
  (f6_accept q14).bind fun q17 =>
  some (q17, q16))
  else if (s_r.1 7) < 310 then (if (s_r.1 7) = 40 then ((f6_accept s_r).bind fun q4 =>
  (rec q4 s_g (x1 + 1)).bind fun q5 =>
  (f6_expect q5.1 (41 : Int32)).bind fun q6 =>
  some (q6, q5.2))
  else ((if (s_r.1 7) < 300 then some 1 else some 3 : Option (Int32))).bind fun q2 =>
  (f6_fail s_r q2).bind fun q3 =>
  some (q3, s_g))
  else if (315 : Int32) < (s_r.1 7) then (if (s_r.1 7) = 40 then ((f6_accept s_r).bind fun q9 =>
  (rec q9 s_g (x1 + 1)).bind fun q10 =>
  (f6_expect q10.1 (41 : Int32)).bind fun q11 =>
  some (q11, q10.2))
  else ((if (s_r.1 7) < 300 then some 1 else some 3 : Option (Int32))).bind fun q7 =>
  (f6_fail s_r q7).bind fun q8 =>
  some (q8, s_g))
  else (f7_add s_g (-(s_r.1 7))).bind fun q12 =>
  (f6_accept s_r).bind fun q13 =>
  some (q13, q12) : Option (St × St))).bind fun q1 =>
  some (q1.1, q1.2)
set_option maxHeartbeats 4000000 in
set_option maxRecDepth 100000 in
theorem c6_part (l : Launch) (D : va_G) (cs : xE) (o_r : Nat) (a_r : Nat → Nat) (a_g : Nat → Nat) (F Lo : Nat) (rec : St → St → Int32 → Option (St × St)) (hrec : ∀ (s_r : St) (s_g : St) (sz : Nat) (x1 : Int32) (res : St × St) (_ : rec s_r s_g x1 = some res), Met l yX6_expression (Cond.code yX6_expression cX6_expression 3 none :: WG) { frames := F, cells := 0, slots := 0, locals := Lo } (va_Pc [.ref o_r, .int x1] (mP D cs (List.flatten [w6 cs o_r a_r s_r, w7 cs (a_r 1) a_g s_g]) sz)) (qV D cs (List.flatten [w6 cs o_r a_r res.1, w7 cs (a_r 1) a_g res.2]) (va_A (List.flatten [w6 cs o_r a_r s_r, w7 cs (a_r 1) a_g s_g]) sz)) 0 0 (va_A (List.flatten [w6 cs o_r a_r s_r, w7 cs (a_r 1) a_g s_g]) sz)) (s_r : St) (s_g : St) (sz : Nat) (x1 : Int32) (res : St × St) (hf : f6_part rec s_r s_g x1 = some res) : Met l yX6_part (Cond.code yX6_part cX6_part 2 none :: WG) { frames := F + 9, cells := 0, slots := 0, locals := Lo + 235 } (va_Pc [.ref o_r, .int x1] (mP D cs (List.flatten [w6 cs o_r a_r s_r, w7 cs (a_r 1) a_g s_g]) sz)) (qV D cs (List.flatten [w6 cs o_r a_r res.1, w7 cs (a_r 1) a_g res.2]) (va_A (List.flatten [w6 cs o_r a_r s_r, w7 cs (a_r 1) a_g s_g]) sz)) 0 0 (va_A (List.flatten [w6 cs o_r a_r s_r, w7 cs (a_r 1) a_g s_g]) sz) := by
  refine mgo (Qc := qV D cs (List.flatten [w6 cs o_r a_r res.1, w7 cs (a_r 1) a_g res.2])) (cc := cX6_part) (maxL := 2) (ret := none) (by decide) rfl (Nat.le_of_ble_eq_true rfl) ?_
  intro p e s m below meth c ls A R Q args H hR hQ hx hb hml hr hlocks hown hts hP hK hD hA hS hG hl
  have hown : s.vm.findClass RX6 = some m.cls := hown
  have hl : lv_has ls 2 [(0, .ref o_r), (1, .int x1)] := hl
  have hW : ∀ w ∈ WG, w.before args s = true := fun w h => hts w (List.mem_cons_of_mem _ h)
  have htX6 : ∀ w ∈ u_ws RX6 TX6 12, w.before args s = true := fun w h => hW w (inW_X6 w h)
  unfold f6_part at hf
  refine lv_aload_n hx hb dX6_part_0 rfl (lv_at hl 0 rfl) ?_
  refine gfB (i0 := 0) (own := RX6) (T := TX6) (k := 7) (v := .int (s_r.1 7)) hx hb htX6 hown hK hP rfl e6 rfl (by decide) (hW _ wd237) rfl dX6_part_1 ?_
  refine lv_iconst (v := 2) hx hb dX6_part_4 (by decide) ?_
  obtain ⟨q1, hq1, hf⟩ := bnd hf
  have Jq1 : ∀ r1 : St × St, q1 = r1 → ∀ (H : Heap) (locs : List Loc) (ls : Array Slot), va_P D vwCl (List.flatten [w6 cs o_r a_r r1.1, w7 cs (a_r 1) a_g r1.2]) H → va_D A (List.flatten [w6 cs o_r a_r r1.1, w7 cs (a_r 1) a_g r1.2]) → va_S A s.heap H locs → lv_has ls 2 [] → W p l e R s m args below meth c H locs 0 0 Q (F0 m 126 ls []) := by
    intro r1 eq1 H locs ls hP hD hS hl
    subst eq1
    obtain rfl := Option.some.inj hf
    exact mretV hx hb hr hlocks hK hP hD hS hQ dX6_part_126
  clear hf
  have hf := hq1
  refine lv_icmp_ne (tgt := 39) hx hb dX6_part_5 (by decide) (fun hc => ?_) (fun hc => ?_)
  · have hf := ifn hc hf
    refine lv_aload_n hx hb dX6_part_39 rfl (lv_at hl 0 rfl) ?_
    refine gfB (i0 := 0) (own := RX6) (T := TX6) (k := 7) (v := .int (s_r.1 7)) hx hb htX6 hown hK hP rfl e6 rfl (by decide) (hW _ wd237) rfl dX6_part_40 ?_
    refine lv_sipush (v := 310) hx hb dX6_part_43 (by decide) ?_
    refine lv_icmp_lt (tgt := 78) hx hb dX6_part_46 (by decide) (fun hc => ?_) (fun hc => ?_)
    · have hf := ifp hc hf
      refine lv_aload_n hx hb dX6_part_78 rfl (lv_at hl 0 rfl) ?_
      refine gfB (i0 := 0) (own := RX6) (T := TX6) (k := 7) (v := .int (s_r.1 7)) hx hb htX6 hown hK hP rfl e6 rfl (by decide) (hW _ wd237) rfl dX6_part_79 ?_
      refine lv_bipush (v := 40) hx hb dX6_part_82 (by decide) ?_
      refine lv_icmp_ne (tgt := 107) hx hb dX6_part_84 (by decide) (fun hc => ?_) (fun hc => ?_)
      · have hf := ifn hc hf
        refine lv_aload_n hx hb dX6_part_107 rfl (lv_at hl 0 rfl) ?_
        refine lv_aload_n hx hb dX6_part_108 rfl (lv_at hl 0 rfl) ?_
        refine gfB (i0 := 0) (own := RX6) (T := TX6) (k := 7) (v := .int (s_r.1 7)) hx hb htX6 hown hK hP rfl e6 rfl (by decide) (hW _ wd237) rfl dX6_part_109 ?_
        refine lv_sipush (v := 300) hx hb dX6_part_112 (by decide) ?_
        obtain ⟨q2, hq2, hf⟩ := bnd hf
        have Jq2 : ∀ r2 : Int32, q2 = r2 → ∀ (H : Heap) (locs : List Loc) (ls : Array Slot), va_P D vwCl (List.flatten [w6 cs o_r a_r s_r, w7 cs (a_r 1) a_g s_g]) H → va_D A (List.flatten [w6 cs o_r a_r s_r, w7 cs (a_r 1) a_g s_g]) → va_S A s.heap H locs → lv_has ls 2 [] → W p l e R s m args below meth c H locs 0 0 Q (F0 m 123 ls [.int r2, .ref o_r]) := by
          intro r2 eq2 H locs ls hP hD hS hl
          subst eq2
          obtain ⟨q3, eq3, hf⟩ := bnd hf
          refine mcVv (rest := []) (Bn := [w6 cs o_r a_r q3, w7 cs (a_r 1) a_g s_g]) (isR := [1]) (isC := [0]) (i0 := 0) ⟨hx, hb, hml, hown, hts⟩ hK hP hD hS hA hG (c6_fail l D cs o_r a_r s_r H.size q2 _ eq3) (cwV 1 hts (gV wd803 wd805 wd12 wd106 wd806) rfl rfl rfl (by decide +kernel) ⟨by rw [hR]; dsimp only; omega, by rw [hR]; dsimp only; omega⟩) 2 (by decide) rfl rfl rfl rfl rfl rfl rfl e6 rfl rfl rfl hl.1 rfl (Nat.le_of_ble_eq_true rfl) ⟨Nat.zero_le _, Nat.zero_le _⟩ dX6_part_123 (fun H locs hP hD hS => ?_)
          exact Jq1 _ (Option.some.inj hf).symm _ _ _ hP hD hS (lv_sub hl [] rfl)
        clear hf
        have hf := hq2
        refine lv_icmp_lt (tgt := 122) hx hb dX6_part_115 (by decide) (fun hc => ?_) (fun hc => ?_)
        · have hf := ifp hc hf
          refine lv_iconst (v := 1) hx hb dX6_part_122 (by decide) ?_
          exact Jq2 _ (Option.some.inj hf).symm _ _ _ hP hD hS (lv_sub hl [] rfl)
        · have hf := ifn hc hf
          refine lv_iconst (v := 3) hx hb dX6_part_118 (by decide) ?_
          refine lv_goto (tgt := 123) hx hb dX6_part_119 (by decide) ?_
          exact Jq2 _ (Option.some.inj hf).symm _ _ _ hP hD hS (lv_sub hl [] rfl)
      · have hf := ifp hc hf
        refine lv_aload_n hx hb dX6_part_87 rfl (lv_at hl 0 rfl) ?_
        obtain ⟨q4, eq4, hf⟩ := bnd hf
        refine mcVv (rest := []) (Bn := [w6 cs o_r a_r q4, w7 cs (a_r 1) a_g s_g]) (isR := [1]) (isC := [0]) (i0 := 0) ⟨hx, hb, hml, hown, hts⟩ hK hP hD hS hA hG (c6_accept l D cs o_r a_r s_r H.size _ eq4) (cwV 0 hts (gV wd700 wd702 wd6 wd106 wd703) rfl rfl rfl (by decide +kernel) ⟨by rw [hR]; dsimp only; omega, by rw [hR]; dsimp only; omega⟩) 2 (by decide) rfl rfl rfl rfl rfl rfl rfl e6 rfl rfl rfl hl.1 rfl (Nat.le_of_ble_eq_true rfl) ⟨Nat.zero_le _, Nat.zero_le _⟩ dX6_part_88 (fun H locs hP hD hS => ?_)
        refine lv_aload_n hx hb dX6_part_91 rfl (lv_at hl 0 rfl) ?_
        refine lv_iload_n hx hb dX6_part_92 rfl (lv_at hl 1 rfl) ?_
        refine lv_iconst (v := 1) hx hb dX6_part_93 (by decide) ?_
        refine lv_iadd hx hb dX6_part_94 ?_
        obtain ⟨q5, eq5, hf⟩ := bnd hf
        refine mcVv (rest := []) (Bn := [w6 cs o_r a_r q5.1, w7 cs (a_r 1) a_g q5.2]) (isR := []) (isC := [0, 1]) (i0 := 0) ⟨hx, hb, hml, hown, hts⟩ hK hP hD hS hA hG (hrec q4 s_g H.size (x1 + 1) _ eq5) (cwV 1 hts (gV wd828 wd830 wd16 wd106 wd831) rfl rfl rfl (by decide +kernel) ⟨by rw [hR]; dsimp only; omega, by rw [hR]; dsimp only; omega⟩) 2 (by decide) rfl rfl rfl rfl rfl rfl rfl e6 rfl rfl rfl hl.1 rfl (Nat.le_of_ble_eq_true rfl) ⟨Nat.zero_le _, Nat.zero_le _⟩ dX6_part_95 (fun H locs hP hD hS => ?_)
        refine lv_aload_n hx hb dX6_part_98 rfl (lv_at hl 0 rfl) ?_
        refine lv_bipush (v := 41) hx hb dX6_part_99 (by decide) ?_
        obtain ⟨q6, eq6, hf⟩ := bnd hf
        refine mcVv (rest := []) (Bn := [w6 cs o_r a_r q6, w7 cs (a_r 1) a_g q5.2]) (isR := [1]) (isC := [0]) (i0 := 0) ⟨hx, hb, hml, hown, hts⟩ hK hP hD hS hA hG (c6_expect l D cs o_r a_r q5.1 H.size (41 : Int32) _ eq6) (cwV 1 hts (gV wd860 wd862 wd23 wd106 wd863) rfl rfl rfl (by decide +kernel) ⟨by rw [hR]; dsimp only; omega, by rw [hR]; dsimp only; omega⟩) 2 (by decide) rfl rfl rfl rfl rfl rfl rfl e6 rfl rfl rfl hl.1 rfl (Nat.le_of_ble_eq_true rfl) ⟨Nat.zero_le _, Nat.zero_le _⟩ dX6_part_101 (fun H locs hP hD hS => ?_)
        refine lv_goto (tgt := 126) hx hb dX6_part_104 (by decide) ?_
        exact Jq1 _ (Option.some.inj hf).symm _ _ _ hP hD hS (lv_sub hl [] rfl)
    · have hf := ifn hc hf
      refine lv_aload_n hx hb dX6_part_49 rfl (lv_at hl 0 rfl) ?_
      refine gfB (i0 := 0) (own := RX6) (T := TX6) (k := 7) (v := .int (s_r.1 7)) hx hb htX6 hown hK hP rfl e6 rfl (by decide) (hW _ wd237) rfl dX6_part_50 ?_
      refine lv_sipush (v := 315) hx hb dX6_part_53 (by decide) ?_
      refine lv_icmp_gt (tgt := 78) hx hb dX6_part_56 (by decide) (fun hc => ?_) (fun hc => ?_)
      · have hf := ifp hc hf
        refine lv_aload_n hx hb dX6_part_78 rfl (lv_at hl 0 rfl) ?_
        refine gfB (i0 := 0) (own := RX6) (T := TX6) (k := 7) (v := .int (s_r.1 7)) hx hb htX6 hown hK hP rfl e6 rfl (by decide) (hW _ wd237) rfl dX6_part_79 ?_
        refine lv_bipush (v := 40) hx hb dX6_part_82 (by decide) ?_
        refine lv_icmp_ne (tgt := 107) hx hb dX6_part_84 (by decide) (fun hc => ?_) (fun hc => ?_)
        · have hf := ifn hc hf
          refine lv_aload_n hx hb dX6_part_107 rfl (lv_at hl 0 rfl) ?_
          refine lv_aload_n hx hb dX6_part_108 rfl (lv_at hl 0 rfl) ?_
          refine gfB (i0 := 0) (own := RX6) (T := TX6) (k := 7) (v := .int (s_r.1 7)) hx hb htX6 hown hK hP rfl e6 rfl (by decide) (hW _ wd237) rfl dX6_part_109 ?_
          refine lv_sipush (v := 300) hx hb dX6_part_112 (by decide) ?_
          obtain ⟨q7, hq7, hf⟩ := bnd hf
          have Jq7 : ∀ r7 : Int32, q7 = r7 → ∀ (H : Heap) (locs : List Loc) (ls : Array Slot), va_P D vwCl (List.flatten [w6 cs o_r a_r s_r, w7 cs (a_r 1) a_g s_g]) H → va_D A (List.flatten [w6 cs o_r a_r s_r, w7 cs (a_r 1) a_g s_g]) → va_S A s.heap H locs → lv_has ls 2 [] → W p l e R s m args below meth c H locs 0 0 Q (F0 m 123 ls [.int r7, .ref o_r]) := by
            intro r7 eq7 H locs ls hP hD hS hl
            subst eq7
            obtain ⟨q8, eq8, hf⟩ := bnd hf
            refine mcVv (rest := []) (Bn := [w6 cs o_r a_r q8, w7 cs (a_r 1) a_g s_g]) (isR := [1]) (isC := [0]) (i0 := 0) ⟨hx, hb, hml, hown, hts⟩ hK hP hD hS hA hG (c6_fail l D cs o_r a_r s_r H.size q7 _ eq8) (cwV 1 hts (gV wd803 wd805 wd12 wd106 wd806) rfl rfl rfl (by decide +kernel) ⟨by rw [hR]; dsimp only; omega, by rw [hR]; dsimp only; omega⟩) 2 (by decide) rfl rfl rfl rfl rfl rfl rfl e6 rfl rfl rfl hl.1 rfl (Nat.le_of_ble_eq_true rfl) ⟨Nat.zero_le _, Nat.zero_le _⟩ dX6_part_123 (fun H locs hP hD hS => ?_)
            exact Jq1 _ (Option.some.inj hf).symm _ _ _ hP hD hS (lv_sub hl [] rfl)
          clear hf
          have hf := hq7
          refine lv_icmp_lt (tgt := 122) hx hb dX6_part_115 (by decide) (fun hc => ?_) (fun hc => ?_)
          · have hf := ifp hc hf
            refine lv_iconst (v := 1) hx hb dX6_part_122 (by decide) ?_
            exact Jq7 _ (Option.some.inj hf).symm _ _ _ hP hD hS (lv_sub hl [] rfl)
          · have hf := ifn hc hf
            refine lv_iconst (v := 3) hx hb dX6_part_118 (by decide) ?_
            refine lv_goto (tgt := 123) hx hb dX6_part_119 (by decide) ?_
            exact Jq7 _ (Option.some.inj hf).symm _ _ _ hP hD hS (lv_sub hl [] rfl)
        · have hf := ifp hc hf
          refine lv_aload_n hx hb dX6_part_87 rfl (lv_at hl 0 rfl) ?_
          obtain ⟨q9, eq9, hf⟩ := bnd hf
          refine mcVv (rest := []) (Bn := [w6 cs o_r a_r q9, w7 cs (a_r 1) a_g s_g]) (isR := [1]) (isC := [0]) (i0 := 0) ⟨hx, hb, hml, hown, hts⟩ hK hP hD hS hA hG (c6_accept l D cs o_r a_r s_r H.size _ eq9) (cwV 0 hts (gV wd700 wd702 wd6 wd106 wd703) rfl rfl rfl (by decide +kernel) ⟨by rw [hR]; dsimp only; omega, by rw [hR]; dsimp only; omega⟩) 2 (by decide) rfl rfl rfl rfl rfl rfl rfl e6 rfl rfl rfl hl.1 rfl (Nat.le_of_ble_eq_true rfl) ⟨Nat.zero_le _, Nat.zero_le _⟩ dX6_part_88 (fun H locs hP hD hS => ?_)
          refine lv_aload_n hx hb dX6_part_91 rfl (lv_at hl 0 rfl) ?_
          refine lv_iload_n hx hb dX6_part_92 rfl (lv_at hl 1 rfl) ?_
          refine lv_iconst (v := 1) hx hb dX6_part_93 (by decide) ?_
          refine lv_iadd hx hb dX6_part_94 ?_
          obtain ⟨q10, eq10, hf⟩ := bnd hf
          refine mcVv (rest := []) (Bn := [w6 cs o_r a_r q10.1, w7 cs (a_r 1) a_g q10.2]) (isR := []) (isC := [0, 1]) (i0 := 0) ⟨hx, hb, hml, hown, hts⟩ hK hP hD hS hA hG (hrec q9 s_g H.size (x1 + 1) _ eq10) (cwV 1 hts (gV wd828 wd830 wd16 wd106 wd831) rfl rfl rfl (by decide +kernel) ⟨by rw [hR]; dsimp only; omega, by rw [hR]; dsimp only; omega⟩) 2 (by decide) rfl rfl rfl rfl rfl rfl rfl e6 rfl rfl rfl hl.1 rfl (Nat.le_of_ble_eq_true rfl) ⟨Nat.zero_le _, Nat.zero_le _⟩ dX6_part_95 (fun H locs hP hD hS => ?_)
          refine lv_aload_n hx hb dX6_part_98 rfl (lv_at hl 0 rfl) ?_
          refine lv_bipush (v := 41) hx hb dX6_part_99 (by decide) ?_
          obtain ⟨q11, eq11, hf⟩ := bnd hf
          refine mcVv (rest := []) (Bn := [w6 cs o_r a_r q11, w7 cs (a_r 1) a_g q10.2]) (isR := [1]) (isC := [0]) (i0 := 0) ⟨hx, hb, hml, hown, hts⟩ hK hP hD hS hA hG (c6_expect l D cs o_r a_r q10.1 H.size (41 : Int32) _ eq11) (cwV 1 hts (gV wd860 wd862 wd23 wd106 wd863) rfl rfl rfl (by decide +kernel) ⟨by rw [hR]; dsimp only; omega, by rw [hR]; dsimp only; omega⟩) 2 (by decide) rfl rfl rfl rfl rfl rfl rfl e6 rfl rfl rfl hl.1 rfl (Nat.le_of_ble_eq_true rfl) ⟨Nat.zero_le _, Nat.zero_le _⟩ dX6_part_101 (fun H locs hP hD hS => ?_)
          refine lv_goto (tgt := 126) hx hb dX6_part_104 (by decide) ?_
          exact Jq1 _ (Option.some.inj hf).symm _ _ _ hP hD hS (lv_sub hl [] rfl)
      · have hf := ifn hc hf
        refine lv_aload_n hx hb dX6_part_59 rfl (lv_at hl 0 rfl) ?_
        refine gfB (i0 := 0) (own := RX6) (T := TX6) (k := 1) (v := .ref (a_r 1)) hx hb htX6 hown hK hP rfl e6 rfl (by decide) (hW _ wd228) rfl dX6_part_60 ?_
        refine lv_aload_n hx hb dX6_part_63 rfl (lv_at hl 0 rfl) ?_
        refine gfB (i0 := 0) (own := RX6) (T := TX6) (k := 7) (v := .int (s_r.1 7)) hx hb htX6 hown hK hP rfl e6 rfl (by decide) (hW _ wd237) rfl dX6_part_64 ?_
        refine lv_ineg hx hb dX6_part_67 ?_
        obtain ⟨q12, eq12, hf⟩ := bnd hf
        refine mcVv (rest := []) (Bn := [w6 cs o_r a_r s_r, w7 cs (a_r 1) a_g q12]) (isR := [0]) (isC := [1]) (i0 := 1) ⟨hx, hb, hml, hown, hts⟩ hK hP hD hS hA hG (c7_add l D cs (a_r 1) a_g s_g H.size (-(s_r.1 7)) _ eq12) (cwV 1 hts (gV wd856 wd857 wd858 wd108 wd859) rfl rfl rfl (by decide +kernel) ⟨by rw [hR]; dsimp only; omega, by rw [hR]; dsimp only; omega⟩) 2 (by decide) rfl rfl rfl rfl rfl rfl rfl e7 rfl rfl rfl hl.1 rfl (Nat.le_of_ble_eq_true rfl) ⟨Nat.zero_le _, Nat.zero_le _⟩ dX6_part_68 (fun H locs hP hD hS => ?_)
        refine lv_aload_n hx hb dX6_part_71 rfl (lv_at hl 0 rfl) ?_
        obtain ⟨q13, eq13, hf⟩ := bnd hf
        refine mcVv (rest := []) (Bn := [w6 cs o_r a_r q13, w7 cs (a_r 1) a_g q12]) (isR := [1]) (isC := [0]) (i0 := 0) ⟨hx, hb, hml, hown, hts⟩ hK hP hD hS hA hG (c6_accept l D cs o_r a_r s_r H.size _ eq13) (cwV 0 hts (gV wd700 wd702 wd6 wd106 wd703) rfl rfl rfl (by decide +kernel) ⟨by rw [hR]; dsimp only; omega, by rw [hR]; dsimp only; omega⟩) 2 (by decide) rfl rfl rfl rfl rfl rfl rfl e6 rfl rfl rfl hl.1 rfl (Nat.le_of_ble_eq_true rfl) ⟨Nat.zero_le _, Nat.zero_le _⟩ dX6_part_72 (fun H locs hP hD hS => ?_)
        refine lv_goto (tgt := 126) hx hb dX6_part_75 (by decide) ?_
        exact Jq1 _ (Option.some.inj hf).symm _ _ _ hP hD hS (lv_sub hl [] rfl)
  · have hf := ifp hc hf
    refine lv_aload_n hx hb dX6_part_8 rfl (lv_at hl 0 rfl) ?_
    refine gfB (i0 := 0) (own := RX6) (T := TX6) (k := 10) (v := .int (s_r.1 10)) hx hb htX6 hown hK hP rfl e6 rfl (by decide) (hW _ wd240) rfl dX6_part_9 ?_
    refine lv_iconst (v := 4) hx hb dX6_part_12 (by decide) ?_
    obtain ⟨q14, hq14, hf⟩ := bnd hf
    have Jq14 : ∀ r14 : St, q14 = r14 → ∀ (H : Heap) (locs : List Loc) (ls : Array Slot), va_P D vwCl (List.flatten [w6 cs o_r a_r r14, w7 cs (a_r 1) a_g s_g]) H → va_D A (List.flatten [w6 cs o_r a_r r14, w7 cs (a_r 1) a_g s_g]) → va_S A s.heap H locs → lv_has ls 2 [(0, .ref o_r)] → W p l e R s m args below meth c H locs 0 0 Q (F0 m 21 ls []) := by
      intro r14 eq14 H locs ls hP hD hS hl
      subst eq14
      refine lv_aload_n hx hb dX6_part_21 rfl (lv_at hl 0 rfl) ?_
      refine gfB (i0 := 0) (own := RX6) (T := TX6) (k := 1) (v := .ref (a_r 1)) hx hb htX6 hown hK hP rfl e6 rfl (by decide) (hW _ wd228) rfl dX6_part_22 ?_
      refine lv_aload_n hx hb dX6_part_25 rfl (lv_at hl 0 rfl) ?_
      refine gfB (i0 := 0) (own := RX6) (T := TX6) (k := 11) (v := .int (q14.1 11)) hx hb htX6 hown hK hP rfl e6 rfl (by decide) (hW _ wd241) rfl dX6_part_26 ?_
      obtain ⟨q16, eq16, hf⟩ := bnd hf
      refine mcVv (rest := []) (Bn := [w6 cs o_r a_r q14, w7 cs (a_r 1) a_g q16]) (isR := [0]) (isC := [1]) (i0 := 1) ⟨hx, hb, hml, hown, hts⟩ hK hP hD hS hA hG (c7_add l D cs (a_r 1) a_g s_g H.size (q14.1 11) _ eq16) (cwV 1 hts (gV wd856 wd857 wd858 wd108 wd859) rfl rfl rfl (by decide +kernel) ⟨by rw [hR]; dsimp only; omega, by rw [hR]; dsimp only; omega⟩) 2 (by decide) rfl rfl rfl rfl rfl rfl rfl e7 rfl rfl rfl hl.1 rfl (Nat.le_of_ble_eq_true rfl) ⟨Nat.zero_le _, Nat.zero_le _⟩ dX6_part_29 (fun H locs hP hD hS => ?_)
      refine lv_aload_n hx hb dX6_part_32 rfl (lv_at hl 0 rfl) ?_
      obtain ⟨q17, eq17, hf⟩ := bnd hf
      refine mcVv (rest := []) (Bn := [w6 cs o_r a_r q17, w7 cs (a_r 1) a_g q16]) (isR := [1]) (isC := [0]) (i0 := 0) ⟨hx, hb, hml, hown, hts⟩ hK hP hD hS hA hG (c6_accept l D cs o_r a_r q14 H.size _ eq17) (cwV 0 hts (gV wd700 wd702 wd6 wd106 wd703) rfl rfl rfl (by decide +kernel) ⟨by rw [hR]; dsimp only; omega, by rw [hR]; dsimp only; omega⟩) 2 (by decide) rfl rfl rfl rfl rfl rfl rfl e6 rfl rfl rfl hl.1 rfl (Nat.le_of_ble_eq_true rfl) ⟨Nat.zero_le _, Nat.zero_le _⟩ dX6_part_33 (fun H locs hP hD hS => ?_)
      refine lv_goto (tgt := 126) hx hb dX6_part_36 (by decide) ?_
      exact Jq1 _ (Option.some.inj hf).symm _ _ _ hP hD hS (lv_sub hl [] rfl)
    clear hf
    have hf := hq14
    refine lv_icmp_le (tgt := 21) hx hb dX6_part_13 (by decide) (fun hc => ?_) (fun hc => ?_)
    · have hf := ifp hc hf
      exact Jq14 _ (Option.some.inj hf).symm _ _ _ hP hD hS (lv_sub hl [0] rfl)
    · have hf := ifn hc hf
      refine lv_aload_n hx hb dX6_part_16 rfl (lv_at hl 0 rfl) ?_
      refine lv_iconst (v := 2) hx hb dX6_part_17 (by decide) ?_
      obtain ⟨q15, eq15, hf⟩ := bnd hf
      refine mcVv (rest := []) (Bn := [w6 cs o_r a_r q15, w7 cs (a_r 1) a_g s_g]) (isR := [1]) (isC := [0]) (i0 := 0) ⟨hx, hb, hml, hown, hts⟩ hK hP hD hS hA hG (c6_fail l D cs o_r a_r s_r H.size (2 : Int32) _ eq15) (cwV 1 hts (gV wd803 wd805 wd12 wd106 wd806) rfl rfl rfl (by decide +kernel) ⟨by rw [hR]; dsimp only; omega, by rw [hR]; dsimp only; omega⟩) 2 (by decide) rfl rfl rfl rfl rfl rfl rfl e6 rfl rfl rfl hl.1 rfl (Nat.le_of_ble_eq_true rfl) ⟨Nat.zero_le _, Nat.zero_le _⟩ dX6_part_18 (fun H locs hP hD hS => ?_)
      exact Jq14 _ (Option.some.inj hf).symm _ _ _ hP hD hS (lv_sub hl [0] rfl)
/-! TwinLamps$Reader.product -/
noncomputable def f6_product_L2 (rec : St → St → Int32 → Option (St × St)) (x1 : Int32) (v3 : Int32 × St × St) : Option ((Int32 × St × St) ⊕ (St × St)) :=
  if (600 : Int32) ≤ v3.1 then some (.inr (v3.2.1, v3.2.2)) else if (v3.2.1.1 6) = 0 then (if (v3.2.1.1 7) = 42 then ((f6_accept v3.2.1).bind fun q4 =>
  (f6_part rec q4 v3.2.2 x1).bind fun q5 =>
  (f7_add q5.2 (-(v3.2.1.1 7))).bind fun q6 =>
  some (.inl ((v3.1 + 1), q5.1, q6)))
  else if (v3.2.1.1 7) = 47 then ((f6_accept v3.2.1).bind fun q7 =>
  (f6_part rec q7 v3.2.2 x1).bind fun q8 =>
  (f7_add q8.2 (-(v3.2.1.1 7))).bind fun q9 =>
  some (.inl ((v3.1 + 1), q8.1, q9)))
  else some (.inr (v3.2.1, v3.2.2)))
  else some (.inr (v3.2.1, v3.2.2))
noncomputable def f6_product (rec : St → St → Int32 → Option (St × St)) (s_r : St) (s_g : St) (x1 : Int32) : Option (St × St) :=
  (f6_part rec s_r s_g x1).bind fun q1 =>
  (lpw (f6_product_L2 rec x1) (0, q1.1, q1.2)).bind fun q2 =>
  some (q2.1, q2.2)
set_option maxHeartbeats 4000000 in
set_option maxRecDepth 100000 in
theorem c6_product (l : Launch) (D : va_G) (cs : xE) (o_r : Nat) (a_r : Nat → Nat) (a_g : Nat → Nat) (F Lo : Nat) (rec : St → St → Int32 → Option (St × St)) (hrec : ∀ (s_r : St) (s_g : St) (sz : Nat) (x1 : Int32) (res : St × St) (_ : rec s_r s_g x1 = some res), Met l yX6_expression (Cond.code yX6_expression cX6_expression 3 none :: WG) { frames := F, cells := 0, slots := 0, locals := Lo } (va_Pc [.ref o_r, .int x1] (mP D cs (List.flatten [w6 cs o_r a_r s_r, w7 cs (a_r 1) a_g s_g]) sz)) (qV D cs (List.flatten [w6 cs o_r a_r res.1, w7 cs (a_r 1) a_g res.2]) (va_A (List.flatten [w6 cs o_r a_r s_r, w7 cs (a_r 1) a_g s_g]) sz)) 0 0 (va_A (List.flatten [w6 cs o_r a_r s_r, w7 cs (a_r 1) a_g s_g]) sz)) (s_r : St) (s_g : St) (sz : Nat) (x1 : Int32) (res : St × St) (hf : f6_product rec s_r s_g x1 = some res) : Met l yX6_product (Cond.code yX6_product cX6_product 4 none :: WG) { frames := F + 10, cells := 0, slots := 0, locals := Lo + 256 } (va_Pc [.ref o_r, .int x1] (mP D cs (List.flatten [w6 cs o_r a_r s_r, w7 cs (a_r 1) a_g s_g]) sz)) (qV D cs (List.flatten [w6 cs o_r a_r res.1, w7 cs (a_r 1) a_g res.2]) (va_A (List.flatten [w6 cs o_r a_r s_r, w7 cs (a_r 1) a_g s_g]) sz)) 0 0 (va_A (List.flatten [w6 cs o_r a_r s_r, w7 cs (a_r 1) a_g s_g]) sz) := by
  refine mgo (Qc := qV D cs (List.flatten [w6 cs o_r a_r res.1, w7 cs (a_r 1) a_g res.2])) (cc := cX6_product) (maxL := 4) (ret := none) (by decide) rfl (Nat.le_of_ble_eq_true rfl) ?_
  intro p e s m below meth c ls A R Q args H hR hQ hx hb hml hr hlocks hown hts hP hK hD hA hS hG hl
  have hown : s.vm.findClass RX6 = some m.cls := hown
  have hl : lv_has ls 4 [(0, .ref o_r), (1, .int x1)] := hl
  have hW : ∀ w ∈ WG, w.before args s = true := fun w h => hts w (List.mem_cons_of_mem _ h)
  have htX6 : ∀ w ∈ u_ws RX6 TX6 12, w.before args s = true := fun w h => hW w (inW_X6 w h)
  unfold f6_product at hf
  refine lv_aload_n hx hb dX6_product_0 rfl (lv_at hl 0 rfl) ?_
  refine lv_iload_n hx hb dX6_product_1 rfl (lv_at hl 1 rfl) ?_
  obtain ⟨q1, eq1, hf⟩ := bnd hf
  refine mcVv (rest := []) (Bn := [w6 cs o_r a_r q1.1, w7 cs (a_r 1) a_g q1.2]) (isR := []) (isC := [0, 1]) (i0 := 0) ⟨hx, hb, hml, hown, hts⟩ hK hP hD hS hA hG (c6_part l D cs o_r a_r a_g F Lo rec hrec s_r s_g H.size x1 _ eq1) (cwV 1 hts (gV wd852 wd854 wd22 wd106 wd855) rfl rfl rfl (by decide +kernel) ⟨by rw [hR]; dsimp only; omega, by rw [hR]; dsimp only; omega⟩) 2 (by decide) rfl rfl rfl rfl rfl rfl rfl e6 rfl rfl rfl hl.1 rfl (Nat.le_of_ble_eq_true rfl) ⟨Nat.zero_le _, Nat.zero_le _⟩ dX6_product_2 (fun H locs hP hD hS => ?_)
  refine lv_iconst (v := 0) hx hb dX6_product_5 (by decide) ?_
  refine lv_istore_n (lv' := [(2, .int 0), (0, .ref o_r), (1, .int x1)]) hx hb dX6_product_6 rfl hl (by decide) rfl (fun ls hl => ?_)
  obtain ⟨q2, hq2, hf⟩ := bnd hf
  obtain ⟨n2, hq2⟩ := lpw_ex hq2
  have Jq2_0 : ∀ rr2_0 : St × St, q2 = rr2_0 → ∀ (H : Heap) (locs : List Loc) (ls : Array Slot), va_P D vwCl (List.flatten [w6 cs o_r a_r rr2_0.1, w7 cs (a_r 1) a_g rr2_0.2]) H → va_D A (List.flatten [w6 cs o_r a_r rr2_0.1, w7 cs (a_r 1) a_g rr2_0.2]) → va_S A s.heap H locs → lv_has ls 4 [] → W p l e R s m args below meth c H locs 0 0 Q (F0 m 68 ls []) := by
    intro rr2_0 eq2 H locs ls hP hD hS hl
    subst eq2
    obtain rfl := Option.some.inj hf
    exact mretV hx hb hr hlocks hK hP hD hS hQ dX6_product_68
  clear hf
  have L2 : ∀ n2, ∀ v3 : Int32 × St × St, lp n2 (f6_product_L2 rec x1) v3 = some q2 → ∀ (H : Heap) (locs : List Loc) (ls : Array Slot), va_P D vwCl (List.flatten [w6 cs o_r a_r v3.2.1, w7 cs (a_r 1) a_g v3.2.2]) H → va_D A (List.flatten [w6 cs o_r a_r v3.2.1, w7 cs (a_r 1) a_g v3.2.2]) → va_S A s.heap H locs → lv_has ls 4 [(0, .ref o_r), (1, .int x1), (2, .int v3.1)] → W p l e R s m args below meth c H locs 0 0 Q (F0 m 7 ls []) := by
    intro n2
    induction n2 with
    | zero => intro v3 hn; cases hn
    | succ n2 ih2 =>
      intro v3 hn2 H locs ls hP hD hS hl
      obtain ⟨y2, hf, hn2⟩ := lp_succ hn2
      unfold f6_product_L2 at hf
      refine lv_iload_n hx hb dX6_product_7 rfl (lv_at hl 2 rfl) ?_
      refine lv_sipush (v := 600) hx hb dX6_product_8 (by decide) ?_
      refine lv_icmp_ge (tgt := 68) hx hb dX6_product_11 (by decide) (fun hc => ?_) (fun hc => ?_)
      · have hf := ifp hc hf
        cases hf
        exact Jq2_0 _ (Option.some.inj hn2).symm _ _ _ hP hD hS (lv_sub hl [] rfl)
      · have hf := ifn hc hf
        refine lv_aload_n hx hb dX6_product_14 rfl (lv_at hl 0 rfl) ?_
        refine gfB (i0 := 0) (own := RX6) (T := TX6) (k := 6) (v := .int (v3.2.1.1 6)) hx hb htX6 hown hK hP rfl e6 rfl (by decide) (hW _ wd236) rfl dX6_product_15 ?_
        refine lv_if_ne (tgt := 68) hx hb dX6_product_18 (by decide) (fun hc => ?_) (fun hc => ?_)
        · have hf := ifn hc hf
          cases hf
          exact Jq2_0 _ (Option.some.inj hn2).symm _ _ _ hP hD hS (lv_sub hl [] rfl)
        · have hf := ifp hc hf
          refine lv_aload_n hx hb dX6_product_21 rfl (lv_at hl 0 rfl) ?_
          refine gfB (i0 := 0) (own := RX6) (T := TX6) (k := 7) (v := .int (v3.2.1.1 7)) hx hb htX6 hown hK hP rfl e6 rfl (by decide) (hW _ wd237) rfl dX6_product_22 ?_
          refine lv_bipush (v := 42) hx hb dX6_product_25 (by decide) ?_
          refine lv_icmp_eq (tgt := 39) hx hb dX6_product_27 (by decide) (fun hc => ?_) (fun hc => ?_)
          · have hf := ifp hc hf
            refine lv_aload_n hx hb dX6_product_39 rfl (lv_at hl 0 rfl) ?_
            refine gfB (i0 := 0) (own := RX6) (T := TX6) (k := 7) (v := .int (v3.2.1.1 7)) hx hb htX6 hown hK hP rfl e6 rfl (by decide) (hW _ wd237) rfl dX6_product_40 ?_
            refine lv_istore_n (lv' := [(3, .int (v3.2.1.1 7)), (0, .ref o_r), (1, .int x1), (2, .int v3.1)]) hx hb dX6_product_43 rfl hl (by decide) rfl (fun ls hl => ?_)
            refine lv_aload_n hx hb dX6_product_44 rfl (lv_at hl 1 rfl) ?_
            obtain ⟨q4, eq4, hf⟩ := bnd hf
            refine mcVv (rest := []) (Bn := [w6 cs o_r a_r q4, w7 cs (a_r 1) a_g v3.2.2]) (isR := [1]) (isC := [0]) (i0 := 0) ⟨hx, hb, hml, hown, hts⟩ hK hP hD hS hA hG (c6_accept l D cs o_r a_r v3.2.1 H.size _ eq4) (cwV 0 hts (gV wd700 wd702 wd6 wd106 wd703) rfl rfl rfl (by decide +kernel) ⟨by rw [hR]; dsimp only; omega, by rw [hR]; dsimp only; omega⟩) 2 (by decide) rfl rfl rfl rfl rfl rfl rfl e6 rfl rfl rfl hl.1 rfl (Nat.le_of_ble_eq_true rfl) ⟨Nat.zero_le _, Nat.zero_le _⟩ dX6_product_45 (fun H locs hP hD hS => ?_)
            refine lv_aload_n hx hb dX6_product_48 rfl (lv_at hl 1 rfl) ?_
            refine lv_iload_n hx hb dX6_product_49 rfl (lv_at hl 2 rfl) ?_
            obtain ⟨q5, eq5, hf⟩ := bnd hf
            refine mcVv (rest := []) (Bn := [w6 cs o_r a_r q5.1, w7 cs (a_r 1) a_g q5.2]) (isR := []) (isC := [0, 1]) (i0 := 0) ⟨hx, hb, hml, hown, hts⟩ hK hP hD hS hA hG (c6_part l D cs o_r a_r a_g F Lo rec hrec q4 v3.2.2 H.size x1 _ eq5) (cwV 1 hts (gV wd852 wd854 wd22 wd106 wd855) rfl rfl rfl (by decide +kernel) ⟨by rw [hR]; dsimp only; omega, by rw [hR]; dsimp only; omega⟩) 2 (by decide) rfl rfl rfl rfl rfl rfl rfl e6 rfl rfl rfl hl.1 rfl (Nat.le_of_ble_eq_true rfl) ⟨Nat.zero_le _, Nat.zero_le _⟩ dX6_product_50 (fun H locs hP hD hS => ?_)
            refine lv_aload_n hx hb dX6_product_53 rfl (lv_at hl 1 rfl) ?_
            refine gfB (i0 := 0) (own := RX6) (T := TX6) (k := 1) (v := .ref (a_r 1)) hx hb htX6 hown hK hP rfl e6 rfl (by decide) (hW _ wd228) rfl dX6_product_54 ?_
            refine lv_iload_n hx hb dX6_product_57 rfl (lv_at hl 0 rfl) ?_
            refine lv_ineg hx hb dX6_product_58 ?_
            obtain ⟨q6, eq6, hf⟩ := bnd hf
            refine mcVv (rest := []) (Bn := [w6 cs o_r a_r q5.1, w7 cs (a_r 1) a_g q6]) (isR := [0]) (isC := [1]) (i0 := 1) ⟨hx, hb, hml, hown, hts⟩ hK hP hD hS hA hG (c7_add l D cs (a_r 1) a_g q5.2 H.size (-(v3.2.1.1 7)) _ eq6) (cwV 1 hts (gV wd856 wd857 wd858 wd108 wd859) rfl rfl rfl (by decide +kernel) ⟨by rw [hR]; dsimp only; omega, by rw [hR]; dsimp only; omega⟩) 2 (by decide) rfl rfl rfl rfl rfl rfl rfl e7 rfl rfl rfl hl.1 rfl (Nat.le_of_ble_eq_true rfl) ⟨Nat.zero_le _, Nat.zero_le _⟩ dX6_product_59 (fun H locs hP hD hS => ?_)
            refine lv_iinc (v := (v3.1 + 1)) (lv' := [(2, .int (v3.1 + 1)), (3, .int (v3.2.1.1 7)), (0, .ref o_r), (1, .int x1)]) hx hb dX6_product_62 hl (k := 3) rfl rfl (by decide) rfl (fun ls hl => ?_)
            refine lv_goto (tgt := 7) hx hb dX6_product_65 (by decide) ?_
            cases hf
            exact ih2 _ hn2 _ _ _ hP hD hS (lv_sub hl [2, 3, 0] rfl)
          · have hf := ifn hc hf
            refine lv_aload_n hx hb dX6_product_30 rfl (lv_at hl 0 rfl) ?_
            refine gfB (i0 := 0) (own := RX6) (T := TX6) (k := 7) (v := .int (v3.2.1.1 7)) hx hb htX6 hown hK hP rfl e6 rfl (by decide) (hW _ wd237) rfl dX6_product_31 ?_
            refine lv_bipush (v := 47) hx hb dX6_product_34 (by decide) ?_
            refine lv_icmp_ne (tgt := 68) hx hb dX6_product_36 (by decide) (fun hc => ?_) (fun hc => ?_)
            · have hf := ifn hc hf
              cases hf
              exact Jq2_0 _ (Option.some.inj hn2).symm _ _ _ hP hD hS (lv_sub hl [] rfl)
            · have hf := ifp hc hf
              refine lv_aload_n hx hb dX6_product_39 rfl (lv_at hl 0 rfl) ?_
              refine gfB (i0 := 0) (own := RX6) (T := TX6) (k := 7) (v := .int (v3.2.1.1 7)) hx hb htX6 hown hK hP rfl e6 rfl (by decide) (hW _ wd237) rfl dX6_product_40 ?_
              refine lv_istore_n (lv' := [(3, .int (v3.2.1.1 7)), (0, .ref o_r), (1, .int x1), (2, .int v3.1)]) hx hb dX6_product_43 rfl hl (by decide) rfl (fun ls hl => ?_)
              refine lv_aload_n hx hb dX6_product_44 rfl (lv_at hl 1 rfl) ?_
              obtain ⟨q7, eq7, hf⟩ := bnd hf
              refine mcVv (rest := []) (Bn := [w6 cs o_r a_r q7, w7 cs (a_r 1) a_g v3.2.2]) (isR := [1]) (isC := [0]) (i0 := 0) ⟨hx, hb, hml, hown, hts⟩ hK hP hD hS hA hG (c6_accept l D cs o_r a_r v3.2.1 H.size _ eq7) (cwV 0 hts (gV wd700 wd702 wd6 wd106 wd703) rfl rfl rfl (by decide +kernel) ⟨by rw [hR]; dsimp only; omega, by rw [hR]; dsimp only; omega⟩) 2 (by decide) rfl rfl rfl rfl rfl rfl rfl e6 rfl rfl rfl hl.1 rfl (Nat.le_of_ble_eq_true rfl) ⟨Nat.zero_le _, Nat.zero_le _⟩ dX6_product_45 (fun H locs hP hD hS => ?_)
              refine lv_aload_n hx hb dX6_product_48 rfl (lv_at hl 1 rfl) ?_
              refine lv_iload_n hx hb dX6_product_49 rfl (lv_at hl 2 rfl) ?_
              obtain ⟨q8, eq8, hf⟩ := bnd hf
              refine mcVv (rest := []) (Bn := [w6 cs o_r a_r q8.1, w7 cs (a_r 1) a_g q8.2]) (isR := []) (isC := [0, 1]) (i0 := 0) ⟨hx, hb, hml, hown, hts⟩ hK hP hD hS hA hG (c6_part l D cs o_r a_r a_g F Lo rec hrec q7 v3.2.2 H.size x1 _ eq8) (cwV 1 hts (gV wd852 wd854 wd22 wd106 wd855) rfl rfl rfl (by decide +kernel) ⟨by rw [hR]; dsimp only; omega, by rw [hR]; dsimp only; omega⟩) 2 (by decide) rfl rfl rfl rfl rfl rfl rfl e6 rfl rfl rfl hl.1 rfl (Nat.le_of_ble_eq_true rfl) ⟨Nat.zero_le _, Nat.zero_le _⟩ dX6_product_50 (fun H locs hP hD hS => ?_)
              refine lv_aload_n hx hb dX6_product_53 rfl (lv_at hl 1 rfl) ?_
              refine gfB (i0 := 0) (own := RX6) (T := TX6) (k := 1) (v := .ref (a_r 1)) hx hb htX6 hown hK hP rfl e6 rfl (by decide) (hW _ wd228) rfl dX6_product_54 ?_
              refine lv_iload_n hx hb dX6_product_57 rfl (lv_at hl 0 rfl) ?_
              refine lv_ineg hx hb dX6_product_58 ?_
              obtain ⟨q9, eq9, hf⟩ := bnd hf
              refine mcVv (rest := []) (Bn := [w6 cs o_r a_r q8.1, w7 cs (a_r 1) a_g q9]) (isR := [0]) (isC := [1]) (i0 := 1) ⟨hx, hb, hml, hown, hts⟩ hK hP hD hS hA hG (c7_add l D cs (a_r 1) a_g q8.2 H.size (-(v3.2.1.1 7)) _ eq9) (cwV 1 hts (gV wd856 wd857 wd858 wd108 wd859) rfl rfl rfl (by decide +kernel) ⟨by rw [hR]; dsimp only; omega, by rw [hR]; dsimp only; omega⟩) 2 (by decide) rfl rfl rfl rfl rfl rfl rfl e7 rfl rfl rfl hl.1 rfl (Nat.le_of_ble_eq_true rfl) ⟨Nat.zero_le _, Nat.zero_le _⟩ dX6_product_59 (fun H locs hP hD hS => ?_)
              refine lv_iinc (v := (v3.1 + 1)) (lv' := [(2, .int (v3.1 + 1)), (3, .int (v3.2.1.1 7)), (0, .ref o_r), (1, .int x1)]) hx hb dX6_product_62 hl (k := 3) rfl rfl (by decide) rfl (fun ls hl => ?_)
              refine lv_goto (tgt := 7) hx hb dX6_product_65 (by decide) ?_
              cases hf
              exact ih2 _ hn2 _ _ _ hP hD hS (lv_sub hl [2, 3, 0] rfl)
  exact L2 _ _ hq2 _ _ _ hP hD hS (lv_sub hl [1, 2, 0] rfl)
/-! TwinLamps$Reader.sum -/
noncomputable def f6_sum_L2 (rec : St → St → Int32 → Option (St × St)) (x1 : Int32) (v3 : Int32 × St × St) : Option ((Int32 × St × St) ⊕ (St × St)) :=
  if (600 : Int32) ≤ v3.1 then some (.inr (v3.2.1, v3.2.2)) else if (v3.2.1.1 6) = 0 then (if (v3.2.1.1 7) = 43 then ((f6_accept v3.2.1).bind fun q4 =>
  (f6_product rec q4 v3.2.2 x1).bind fun q5 =>
  (f7_add q5.2 (-(v3.2.1.1 7))).bind fun q6 =>
  some (.inl ((v3.1 + 1), q5.1, q6)))
  else if (v3.2.1.1 7) = 45 then ((f6_accept v3.2.1).bind fun q7 =>
  (f6_product rec q7 v3.2.2 x1).bind fun q8 =>
  (f7_add q8.2 (-(v3.2.1.1 7))).bind fun q9 =>
  some (.inl ((v3.1 + 1), q8.1, q9)))
  else some (.inr (v3.2.1, v3.2.2)))
  else some (.inr (v3.2.1, v3.2.2))
noncomputable def f6_sum (rec : St → St → Int32 → Option (St × St)) (s_r : St) (s_g : St) (x1 : Int32) : Option (St × St) :=
  (f6_product rec s_r s_g x1).bind fun q1 =>
  (lpw (f6_sum_L2 rec x1) (0, q1.1, q1.2)).bind fun q2 =>
  some (q2.1, q2.2)
set_option maxHeartbeats 4000000 in
set_option maxRecDepth 100000 in
theorem c6_sum (l : Launch) (D : va_G) (cs : xE) (o_r : Nat) (a_r : Nat → Nat) (a_g : Nat → Nat) (F Lo : Nat) (rec : St → St → Int32 → Option (St × St)) (hrec : ∀ (s_r : St) (s_g : St) (sz : Nat) (x1 : Int32) (res : St × St) (_ : rec s_r s_g x1 = some res), Met l yX6_expression (Cond.code yX6_expression cX6_expression 3 none :: WG) { frames := F, cells := 0, slots := 0, locals := Lo } (va_Pc [.ref o_r, .int x1] (mP D cs (List.flatten [w6 cs o_r a_r s_r, w7 cs (a_r 1) a_g s_g]) sz)) (qV D cs (List.flatten [w6 cs o_r a_r res.1, w7 cs (a_r 1) a_g res.2]) (va_A (List.flatten [w6 cs o_r a_r s_r, w7 cs (a_r 1) a_g s_g]) sz)) 0 0 (va_A (List.flatten [w6 cs o_r a_r s_r, w7 cs (a_r 1) a_g s_g]) sz)) (s_r : St) (s_g : St) (sz : Nat) (x1 : Int32) (res : St × St) (hf : f6_sum rec s_r s_g x1 = some res) : Met l yX6_sum (Cond.code yX6_sum cX6_sum 4 none :: WG) { frames := F + 11, cells := 0, slots := 0, locals := Lo + 279 } (va_Pc [.ref o_r, .int x1] (mP D cs (List.flatten [w6 cs o_r a_r s_r, w7 cs (a_r 1) a_g s_g]) sz)) (qV D cs (List.flatten [w6 cs o_r a_r res.1, w7 cs (a_r 1) a_g res.2]) (va_A (List.flatten [w6 cs o_r a_r s_r, w7 cs (a_r 1) a_g s_g]) sz)) 0 0 (va_A (List.flatten [w6 cs o_r a_r s_r, w7 cs (a_r 1) a_g s_g]) sz) := by
  refine mgo (Qc := qV D cs (List.flatten [w6 cs o_r a_r res.1, w7 cs (a_r 1) a_g res.2])) (cc := cX6_sum) (maxL := 4) (ret := none) (by decide) rfl (Nat.le_of_ble_eq_true rfl) ?_
  intro p e s m below meth c ls A R Q args H hR hQ hx hb hml hr hlocks hown hts hP hK hD hA hS hG hl
  have hown : s.vm.findClass RX6 = some m.cls := hown
  have hl : lv_has ls 4 [(0, .ref o_r), (1, .int x1)] := hl
  have hW : ∀ w ∈ WG, w.before args s = true := fun w h => hts w (List.mem_cons_of_mem _ h)
  have htX6 : ∀ w ∈ u_ws RX6 TX6 12, w.before args s = true := fun w h => hW w (inW_X6 w h)
  unfold f6_sum at hf
  refine lv_aload_n hx hb dX6_sum_0 rfl (lv_at hl 0 rfl) ?_
  refine lv_iload_n hx hb dX6_sum_1 rfl (lv_at hl 1 rfl) ?_
  obtain ⟨q1, eq1, hf⟩ := bnd hf
  refine mcVv (rest := []) (Bn := [w6 cs o_r a_r q1.1, w7 cs (a_r 1) a_g q1.2]) (isR := []) (isC := [0, 1]) (i0 := 0) ⟨hx, hb, hml, hown, hts⟩ hK hP hD hS hA hG (c6_product l D cs o_r a_r a_g F Lo rec hrec s_r s_g H.size x1 _ eq1) (cwV 1 hts (gV wd848 wd850 wd21 wd106 wd851) rfl rfl rfl (by decide +kernel) ⟨by rw [hR]; dsimp only; omega, by rw [hR]; dsimp only; omega⟩) 2 (by decide) rfl rfl rfl rfl rfl rfl rfl e6 rfl rfl rfl hl.1 rfl (Nat.le_of_ble_eq_true rfl) ⟨Nat.zero_le _, Nat.zero_le _⟩ dX6_sum_2 (fun H locs hP hD hS => ?_)
  refine lv_iconst (v := 0) hx hb dX6_sum_5 (by decide) ?_
  refine lv_istore_n (lv' := [(2, .int 0), (0, .ref o_r), (1, .int x1)]) hx hb dX6_sum_6 rfl hl (by decide) rfl (fun ls hl => ?_)
  obtain ⟨q2, hq2, hf⟩ := bnd hf
  obtain ⟨n2, hq2⟩ := lpw_ex hq2
  have Jq2_0 : ∀ rr2_0 : St × St, q2 = rr2_0 → ∀ (H : Heap) (locs : List Loc) (ls : Array Slot), va_P D vwCl (List.flatten [w6 cs o_r a_r rr2_0.1, w7 cs (a_r 1) a_g rr2_0.2]) H → va_D A (List.flatten [w6 cs o_r a_r rr2_0.1, w7 cs (a_r 1) a_g rr2_0.2]) → va_S A s.heap H locs → lv_has ls 4 [] → W p l e R s m args below meth c H locs 0 0 Q (F0 m 68 ls []) := by
    intro rr2_0 eq2 H locs ls hP hD hS hl
    subst eq2
    obtain rfl := Option.some.inj hf
    exact mretV hx hb hr hlocks hK hP hD hS hQ dX6_sum_68
  clear hf
  have L2 : ∀ n2, ∀ v3 : Int32 × St × St, lp n2 (f6_sum_L2 rec x1) v3 = some q2 → ∀ (H : Heap) (locs : List Loc) (ls : Array Slot), va_P D vwCl (List.flatten [w6 cs o_r a_r v3.2.1, w7 cs (a_r 1) a_g v3.2.2]) H → va_D A (List.flatten [w6 cs o_r a_r v3.2.1, w7 cs (a_r 1) a_g v3.2.2]) → va_S A s.heap H locs → lv_has ls 4 [(0, .ref o_r), (1, .int x1), (2, .int v3.1)] → W p l e R s m args below meth c H locs 0 0 Q (F0 m 7 ls []) := by
    intro n2
    induction n2 with
    | zero => intro v3 hn; cases hn
    | succ n2 ih2 =>
      intro v3 hn2 H locs ls hP hD hS hl
      obtain ⟨y2, hf, hn2⟩ := lp_succ hn2
      unfold f6_sum_L2 at hf
      refine lv_iload_n hx hb dX6_sum_7 rfl (lv_at hl 2 rfl) ?_
      refine lv_sipush (v := 600) hx hb dX6_sum_8 (by decide) ?_
      refine lv_icmp_ge (tgt := 68) hx hb dX6_sum_11 (by decide) (fun hc => ?_) (fun hc => ?_)
      · have hf := ifp hc hf
        cases hf
        exact Jq2_0 _ (Option.some.inj hn2).symm _ _ _ hP hD hS (lv_sub hl [] rfl)
      · have hf := ifn hc hf
        refine lv_aload_n hx hb dX6_sum_14 rfl (lv_at hl 0 rfl) ?_
        refine gfB (i0 := 0) (own := RX6) (T := TX6) (k := 6) (v := .int (v3.2.1.1 6)) hx hb htX6 hown hK hP rfl e6 rfl (by decide) (hW _ wd236) rfl dX6_sum_15 ?_
        refine lv_if_ne (tgt := 68) hx hb dX6_sum_18 (by decide) (fun hc => ?_) (fun hc => ?_)
        · have hf := ifn hc hf
          cases hf
          exact Jq2_0 _ (Option.some.inj hn2).symm _ _ _ hP hD hS (lv_sub hl [] rfl)
        · have hf := ifp hc hf
          refine lv_aload_n hx hb dX6_sum_21 rfl (lv_at hl 0 rfl) ?_
          refine gfB (i0 := 0) (own := RX6) (T := TX6) (k := 7) (v := .int (v3.2.1.1 7)) hx hb htX6 hown hK hP rfl e6 rfl (by decide) (hW _ wd237) rfl dX6_sum_22 ?_
          refine lv_bipush (v := 43) hx hb dX6_sum_25 (by decide) ?_
          refine lv_icmp_eq (tgt := 39) hx hb dX6_sum_27 (by decide) (fun hc => ?_) (fun hc => ?_)
          · have hf := ifp hc hf
            refine lv_aload_n hx hb dX6_sum_39 rfl (lv_at hl 0 rfl) ?_
            refine gfB (i0 := 0) (own := RX6) (T := TX6) (k := 7) (v := .int (v3.2.1.1 7)) hx hb htX6 hown hK hP rfl e6 rfl (by decide) (hW _ wd237) rfl dX6_sum_40 ?_
            refine lv_istore_n (lv' := [(3, .int (v3.2.1.1 7)), (0, .ref o_r), (1, .int x1), (2, .int v3.1)]) hx hb dX6_sum_43 rfl hl (by decide) rfl (fun ls hl => ?_)
            refine lv_aload_n hx hb dX6_sum_44 rfl (lv_at hl 1 rfl) ?_
            obtain ⟨q4, eq4, hf⟩ := bnd hf
            refine mcVv (rest := []) (Bn := [w6 cs o_r a_r q4, w7 cs (a_r 1) a_g v3.2.2]) (isR := [1]) (isC := [0]) (i0 := 0) ⟨hx, hb, hml, hown, hts⟩ hK hP hD hS hA hG (c6_accept l D cs o_r a_r v3.2.1 H.size _ eq4) (cwV 0 hts (gV wd700 wd702 wd6 wd106 wd703) rfl rfl rfl (by decide +kernel) ⟨by rw [hR]; dsimp only; omega, by rw [hR]; dsimp only; omega⟩) 2 (by decide) rfl rfl rfl rfl rfl rfl rfl e6 rfl rfl rfl hl.1 rfl (Nat.le_of_ble_eq_true rfl) ⟨Nat.zero_le _, Nat.zero_le _⟩ dX6_sum_45 (fun H locs hP hD hS => ?_)
            refine lv_aload_n hx hb dX6_sum_48 rfl (lv_at hl 1 rfl) ?_
            refine lv_iload_n hx hb dX6_sum_49 rfl (lv_at hl 2 rfl) ?_
            obtain ⟨q5, eq5, hf⟩ := bnd hf
            refine mcVv (rest := []) (Bn := [w6 cs o_r a_r q5.1, w7 cs (a_r 1) a_g q5.2]) (isR := []) (isC := [0, 1]) (i0 := 0) ⟨hx, hb, hml, hown, hts⟩ hK hP hD hS hA hG (c6_product l D cs o_r a_r a_g F Lo rec hrec q4 v3.2.2 H.size x1 _ eq5) (cwV 1 hts (gV wd848 wd850 wd21 wd106 wd851) rfl rfl rfl (by decide +kernel) ⟨by rw [hR]; dsimp only; omega, by rw [hR]; dsimp only; omega⟩) 2 (by decide) rfl rfl rfl rfl rfl rfl rfl e6 rfl rfl rfl hl.1 rfl (Nat.le_of_ble_eq_true rfl) ⟨Nat.zero_le _, Nat.zero_le _⟩ dX6_sum_50 (fun H locs hP hD hS => ?_)
            refine lv_aload_n hx hb dX6_sum_53 rfl (lv_at hl 1 rfl) ?_
            refine gfB (i0 := 0) (own := RX6) (T := TX6) (k := 1) (v := .ref (a_r 1)) hx hb htX6 hown hK hP rfl e6 rfl (by decide) (hW _ wd228) rfl dX6_sum_54 ?_
            refine lv_iload_n hx hb dX6_sum_57 rfl (lv_at hl 0 rfl) ?_
            refine lv_ineg hx hb dX6_sum_58 ?_
            obtain ⟨q6, eq6, hf⟩ := bnd hf
            refine mcVv (rest := []) (Bn := [w6 cs o_r a_r q5.1, w7 cs (a_r 1) a_g q6]) (isR := [0]) (isC := [1]) (i0 := 1) ⟨hx, hb, hml, hown, hts⟩ hK hP hD hS hA hG (c7_add l D cs (a_r 1) a_g q5.2 H.size (-(v3.2.1.1 7)) _ eq6) (cwV 1 hts (gV wd856 wd857 wd858 wd108 wd859) rfl rfl rfl (by decide +kernel) ⟨by rw [hR]; dsimp only; omega, by rw [hR]; dsimp only; omega⟩) 2 (by decide) rfl rfl rfl rfl rfl rfl rfl e7 rfl rfl rfl hl.1 rfl (Nat.le_of_ble_eq_true rfl) ⟨Nat.zero_le _, Nat.zero_le _⟩ dX6_sum_59 (fun H locs hP hD hS => ?_)
            refine lv_iinc (v := (v3.1 + 1)) (lv' := [(2, .int (v3.1 + 1)), (3, .int (v3.2.1.1 7)), (0, .ref o_r), (1, .int x1)]) hx hb dX6_sum_62 hl (k := 3) rfl rfl (by decide) rfl (fun ls hl => ?_)
            refine lv_goto (tgt := 7) hx hb dX6_sum_65 (by decide) ?_
            cases hf
            exact ih2 _ hn2 _ _ _ hP hD hS (lv_sub hl [2, 3, 0] rfl)
          · have hf := ifn hc hf
            refine lv_aload_n hx hb dX6_sum_30 rfl (lv_at hl 0 rfl) ?_
            refine gfB (i0 := 0) (own := RX6) (T := TX6) (k := 7) (v := .int (v3.2.1.1 7)) hx hb htX6 hown hK hP rfl e6 rfl (by decide) (hW _ wd237) rfl dX6_sum_31 ?_
            refine lv_bipush (v := 45) hx hb dX6_sum_34 (by decide) ?_
            refine lv_icmp_ne (tgt := 68) hx hb dX6_sum_36 (by decide) (fun hc => ?_) (fun hc => ?_)
            · have hf := ifn hc hf
              cases hf
              exact Jq2_0 _ (Option.some.inj hn2).symm _ _ _ hP hD hS (lv_sub hl [] rfl)
            · have hf := ifp hc hf
              refine lv_aload_n hx hb dX6_sum_39 rfl (lv_at hl 0 rfl) ?_
              refine gfB (i0 := 0) (own := RX6) (T := TX6) (k := 7) (v := .int (v3.2.1.1 7)) hx hb htX6 hown hK hP rfl e6 rfl (by decide) (hW _ wd237) rfl dX6_sum_40 ?_
              refine lv_istore_n (lv' := [(3, .int (v3.2.1.1 7)), (0, .ref o_r), (1, .int x1), (2, .int v3.1)]) hx hb dX6_sum_43 rfl hl (by decide) rfl (fun ls hl => ?_)
              refine lv_aload_n hx hb dX6_sum_44 rfl (lv_at hl 1 rfl) ?_
              obtain ⟨q7, eq7, hf⟩ := bnd hf
              refine mcVv (rest := []) (Bn := [w6 cs o_r a_r q7, w7 cs (a_r 1) a_g v3.2.2]) (isR := [1]) (isC := [0]) (i0 := 0) ⟨hx, hb, hml, hown, hts⟩ hK hP hD hS hA hG (c6_accept l D cs o_r a_r v3.2.1 H.size _ eq7) (cwV 0 hts (gV wd700 wd702 wd6 wd106 wd703) rfl rfl rfl (by decide +kernel) ⟨by rw [hR]; dsimp only; omega, by rw [hR]; dsimp only; omega⟩) 2 (by decide) rfl rfl rfl rfl rfl rfl rfl e6 rfl rfl rfl hl.1 rfl (Nat.le_of_ble_eq_true rfl) ⟨Nat.zero_le _, Nat.zero_le _⟩ dX6_sum_45 (fun H locs hP hD hS => ?_)
              refine lv_aload_n hx hb dX6_sum_48 rfl (lv_at hl 1 rfl) ?_
              refine lv_iload_n hx hb dX6_sum_49 rfl (lv_at hl 2 rfl) ?_
              obtain ⟨q8, eq8, hf⟩ := bnd hf
              refine mcVv (rest := []) (Bn := [w6 cs o_r a_r q8.1, w7 cs (a_r 1) a_g q8.2]) (isR := []) (isC := [0, 1]) (i0 := 0) ⟨hx, hb, hml, hown, hts⟩ hK hP hD hS hA hG (c6_product l D cs o_r a_r a_g F Lo rec hrec q7 v3.2.2 H.size x1 _ eq8) (cwV 1 hts (gV wd848 wd850 wd21 wd106 wd851) rfl rfl rfl (by decide +kernel) ⟨by rw [hR]; dsimp only; omega, by rw [hR]; dsimp only; omega⟩) 2 (by decide) rfl rfl rfl rfl rfl rfl rfl e6 rfl rfl rfl hl.1 rfl (Nat.le_of_ble_eq_true rfl) ⟨Nat.zero_le _, Nat.zero_le _⟩ dX6_sum_50 (fun H locs hP hD hS => ?_)
              refine lv_aload_n hx hb dX6_sum_53 rfl (lv_at hl 1 rfl) ?_
              refine gfB (i0 := 0) (own := RX6) (T := TX6) (k := 1) (v := .ref (a_r 1)) hx hb htX6 hown hK hP rfl e6 rfl (by decide) (hW _ wd228) rfl dX6_sum_54 ?_
              refine lv_iload_n hx hb dX6_sum_57 rfl (lv_at hl 0 rfl) ?_
              refine lv_ineg hx hb dX6_sum_58 ?_
              obtain ⟨q9, eq9, hf⟩ := bnd hf
              refine mcVv (rest := []) (Bn := [w6 cs o_r a_r q8.1, w7 cs (a_r 1) a_g q9]) (isR := [0]) (isC := [1]) (i0 := 1) ⟨hx, hb, hml, hown, hts⟩ hK hP hD hS hA hG (c7_add l D cs (a_r 1) a_g q8.2 H.size (-(v3.2.1.1 7)) _ eq9) (cwV 1 hts (gV wd856 wd857 wd858 wd108 wd859) rfl rfl rfl (by decide +kernel) ⟨by rw [hR]; dsimp only; omega, by rw [hR]; dsimp only; omega⟩) 2 (by decide) rfl rfl rfl rfl rfl rfl rfl e7 rfl rfl rfl hl.1 rfl (Nat.le_of_ble_eq_true rfl) ⟨Nat.zero_le _, Nat.zero_le _⟩ dX6_sum_59 (fun H locs hP hD hS => ?_)
              refine lv_iinc (v := (v3.1 + 1)) (lv' := [(2, .int (v3.1 + 1)), (3, .int (v3.2.1.1 7)), (0, .ref o_r), (1, .int x1)]) hx hb dX6_sum_62 hl (k := 3) rfl rfl (by decide) rfl (fun ls hl => ?_)
              refine lv_goto (tgt := 7) hx hb dX6_sum_65 (by decide) ?_
              cases hf
              exact ih2 _ hn2 _ _ _ hP hD hS (lv_sub hl [2, 3, 0] rfl)
  exact L2 _ _ hq2 _ _ _ hP hD hS (lv_sub hl [1, 2, 0] rfl)
/-! TwinLamps$Reader.comparison -/
noncomputable def f6_comparison (rec : St → St → Int32 → Option (St × St)) (s_r : St) (s_g : St) (x1 : Int32) : Option (St × St) :=
  (f6_sum rec s_r s_g x1).bind fun q1 =>
  ((if (q1.1.1 6) = 0 then (if (q1.1.1 7) = 60 then ((f6_accept q1.1).bind fun q3 =>
  (f6_sum rec q3 q1.2 x1).bind fun q4 =>
  (f7_add q4.2 (-(q1.1.1 7))).bind fun q5 =>
  some (q4.1, q5))
  else if (q1.1.1 7) = 61 then ((f6_accept q1.1).bind fun q6 =>
  (f6_sum rec q6 q1.2 x1).bind fun q7 =>
  (f7_add q7.2 (-(q1.1.1 7))).bind fun q8 =>
  some (q7.1, q8))
  else some (q1.1, q1.2))
  else some (q1.1, q1.2) : Option (St × St))).bind fun q2 =>
  some (q2.1, q2.2)
set_option maxHeartbeats 4000000 in
set_option maxRecDepth 100000 in
theorem c6_comparison (l : Launch) (D : va_G) (cs : xE) (o_r : Nat) (a_r : Nat → Nat) (a_g : Nat → Nat) (F Lo : Nat) (rec : St → St → Int32 → Option (St × St)) (hrec : ∀ (s_r : St) (s_g : St) (sz : Nat) (x1 : Int32) (res : St × St) (_ : rec s_r s_g x1 = some res), Met l yX6_expression (Cond.code yX6_expression cX6_expression 3 none :: WG) { frames := F, cells := 0, slots := 0, locals := Lo } (va_Pc [.ref o_r, .int x1] (mP D cs (List.flatten [w6 cs o_r a_r s_r, w7 cs (a_r 1) a_g s_g]) sz)) (qV D cs (List.flatten [w6 cs o_r a_r res.1, w7 cs (a_r 1) a_g res.2]) (va_A (List.flatten [w6 cs o_r a_r s_r, w7 cs (a_r 1) a_g s_g]) sz)) 0 0 (va_A (List.flatten [w6 cs o_r a_r s_r, w7 cs (a_r 1) a_g s_g]) sz)) (s_r : St) (s_g : St) (sz : Nat) (x1 : Int32) (res : St × St) (hf : f6_comparison rec s_r s_g x1 = some res) : Met l yX6_comparison (Cond.code yX6_comparison cX6_comparison 3 none :: WG) { frames := F + 12, cells := 0, slots := 0, locals := Lo + 302 } (va_Pc [.ref o_r, .int x1] (mP D cs (List.flatten [w6 cs o_r a_r s_r, w7 cs (a_r 1) a_g s_g]) sz)) (qV D cs (List.flatten [w6 cs o_r a_r res.1, w7 cs (a_r 1) a_g res.2]) (va_A (List.flatten [w6 cs o_r a_r s_r, w7 cs (a_r 1) a_g s_g]) sz)) 0 0 (va_A (List.flatten [w6 cs o_r a_r s_r, w7 cs (a_r 1) a_g s_g]) sz) := by
  refine mgo (Qc := qV D cs (List.flatten [w6 cs o_r a_r res.1, w7 cs (a_r 1) a_g res.2])) (cc := cX6_comparison) (maxL := 3) (ret := none) (by decide) rfl (Nat.le_of_ble_eq_true rfl) ?_
  intro p e s m below meth c ls A R Q args H hR hQ hx hb hml hr hlocks hown hts hP hK hD hA hS hG hl
  have hown : s.vm.findClass RX6 = some m.cls := hown
  have hl : lv_has ls 3 [(0, .ref o_r), (1, .int x1)] := hl
  have hW : ∀ w ∈ WG, w.before args s = true := fun w h => hts w (List.mem_cons_of_mem _ h)
  have htX6 : ∀ w ∈ u_ws RX6 TX6 12, w.before args s = true := fun w h => hW w (inW_X6 w h)
  unfold f6_comparison at hf
  refine lv_aload_n hx hb dX6_comparison_0 rfl (lv_at hl 0 rfl) ?_
  refine lv_iload_n hx hb dX6_comparison_1 rfl (lv_at hl 1 rfl) ?_
  obtain ⟨q1, eq1, hf⟩ := bnd hf
  refine mcVv (rest := []) (Bn := [w6 cs o_r a_r q1.1, w7 cs (a_r 1) a_g q1.2]) (isR := []) (isC := [0, 1]) (i0 := 0) ⟨hx, hb, hml, hown, hts⟩ hK hP hD hS hA hG (c6_sum l D cs o_r a_r a_g F Lo rec hrec s_r s_g H.size x1 _ eq1) (cwV 1 hts (gV wd844 wd846 wd20 wd106 wd847) rfl rfl rfl (by decide +kernel) ⟨by rw [hR]; dsimp only; omega, by rw [hR]; dsimp only; omega⟩) 2 (by decide) rfl rfl rfl rfl rfl rfl rfl e6 rfl rfl rfl hl.1 rfl (Nat.le_of_ble_eq_true rfl) ⟨Nat.zero_le _, Nat.zero_le _⟩ dX6_comparison_2 (fun H locs hP hD hS => ?_)
  refine lv_aload_n hx hb dX6_comparison_5 rfl (lv_at hl 0 rfl) ?_
  refine gfB (i0 := 0) (own := RX6) (T := TX6) (k := 6) (v := .int (q1.1.1 6)) hx hb htX6 hown hK hP rfl e6 rfl (by decide) (hW _ wd236) rfl dX6_comparison_6 ?_
  obtain ⟨q2, hq2, hf⟩ := bnd hf
  have Jq2 : ∀ r2 : St × St, q2 = r2 → ∀ (H : Heap) (locs : List Loc) (ls : Array Slot), va_P D vwCl (List.flatten [w6 cs o_r a_r r2.1, w7 cs (a_r 1) a_g r2.2]) H → va_D A (List.flatten [w6 cs o_r a_r r2.1, w7 cs (a_r 1) a_g r2.2]) → va_S A s.heap H locs → lv_has ls 3 [] → W p l e R s m args below meth c H locs 0 0 Q (F0 m 53 ls []) := by
    intro r2 eq2 H locs ls hP hD hS hl
    subst eq2
    obtain rfl := Option.some.inj hf
    exact mretV hx hb hr hlocks hK hP hD hS hQ dX6_comparison_53
  clear hf
  have hf := hq2
  refine lv_if_ne (tgt := 53) hx hb dX6_comparison_9 (by decide) (fun hc => ?_) (fun hc => ?_)
  · have hf := ifn hc hf
    exact Jq2 _ (Option.some.inj hf).symm _ _ _ hP hD hS (lv_sub hl [] rfl)
  · have hf := ifp hc hf
    refine lv_aload_n hx hb dX6_comparison_12 rfl (lv_at hl 0 rfl) ?_
    refine gfB (i0 := 0) (own := RX6) (T := TX6) (k := 7) (v := .int (q1.1.1 7)) hx hb htX6 hown hK hP rfl e6 rfl (by decide) (hW _ wd237) rfl dX6_comparison_13 ?_
    refine lv_bipush (v := 60) hx hb dX6_comparison_16 (by decide) ?_
    refine lv_icmp_eq (tgt := 30) hx hb dX6_comparison_18 (by decide) (fun hc => ?_) (fun hc => ?_)
    · have hf := ifp hc hf
      refine lv_aload_n hx hb dX6_comparison_30 rfl (lv_at hl 0 rfl) ?_
      refine gfB (i0 := 0) (own := RX6) (T := TX6) (k := 7) (v := .int (q1.1.1 7)) hx hb htX6 hown hK hP rfl e6 rfl (by decide) (hW _ wd237) rfl dX6_comparison_31 ?_
      refine lv_istore_n (lv' := [(2, .int (q1.1.1 7)), (0, .ref o_r), (1, .int x1)]) hx hb dX6_comparison_34 rfl hl (by decide) rfl (fun ls hl => ?_)
      refine lv_aload_n hx hb dX6_comparison_35 rfl (lv_at hl 1 rfl) ?_
      obtain ⟨q3, eq3, hf⟩ := bnd hf
      refine mcVv (rest := []) (Bn := [w6 cs o_r a_r q3, w7 cs (a_r 1) a_g q1.2]) (isR := [1]) (isC := [0]) (i0 := 0) ⟨hx, hb, hml, hown, hts⟩ hK hP hD hS hA hG (c6_accept l D cs o_r a_r q1.1 H.size _ eq3) (cwV 0 hts (gV wd700 wd702 wd6 wd106 wd703) rfl rfl rfl (by decide +kernel) ⟨by rw [hR]; dsimp only; omega, by rw [hR]; dsimp only; omega⟩) 2 (by decide) rfl rfl rfl rfl rfl rfl rfl e6 rfl rfl rfl hl.1 rfl (Nat.le_of_ble_eq_true rfl) ⟨Nat.zero_le _, Nat.zero_le _⟩ dX6_comparison_36 (fun H locs hP hD hS => ?_)
      refine lv_aload_n hx hb dX6_comparison_39 rfl (lv_at hl 1 rfl) ?_
      refine lv_iload_n hx hb dX6_comparison_40 rfl (lv_at hl 2 rfl) ?_
      obtain ⟨q4, eq4, hf⟩ := bnd hf
      refine mcVv (rest := []) (Bn := [w6 cs o_r a_r q4.1, w7 cs (a_r 1) a_g q4.2]) (isR := []) (isC := [0, 1]) (i0 := 0) ⟨hx, hb, hml, hown, hts⟩ hK hP hD hS hA hG (c6_sum l D cs o_r a_r a_g F Lo rec hrec q3 q1.2 H.size x1 _ eq4) (cwV 1 hts (gV wd844 wd846 wd20 wd106 wd847) rfl rfl rfl (by decide +kernel) ⟨by rw [hR]; dsimp only; omega, by rw [hR]; dsimp only; omega⟩) 2 (by decide) rfl rfl rfl rfl rfl rfl rfl e6 rfl rfl rfl hl.1 rfl (Nat.le_of_ble_eq_true rfl) ⟨Nat.zero_le _, Nat.zero_le _⟩ dX6_comparison_41 (fun H locs hP hD hS => ?_)
      refine lv_aload_n hx hb dX6_comparison_44 rfl (lv_at hl 1 rfl) ?_
      refine gfB (i0 := 0) (own := RX6) (T := TX6) (k := 1) (v := .ref (a_r 1)) hx hb htX6 hown hK hP rfl e6 rfl (by decide) (hW _ wd228) rfl dX6_comparison_45 ?_
      refine lv_iload_n hx hb dX6_comparison_48 rfl (lv_at hl 0 rfl) ?_
      refine lv_ineg hx hb dX6_comparison_49 ?_
      obtain ⟨q5, eq5, hf⟩ := bnd hf
      refine mcVv (rest := []) (Bn := [w6 cs o_r a_r q4.1, w7 cs (a_r 1) a_g q5]) (isR := [0]) (isC := [1]) (i0 := 1) ⟨hx, hb, hml, hown, hts⟩ hK hP hD hS hA hG (c7_add l D cs (a_r 1) a_g q4.2 H.size (-(q1.1.1 7)) _ eq5) (cwV 1 hts (gV wd856 wd857 wd858 wd108 wd859) rfl rfl rfl (by decide +kernel) ⟨by rw [hR]; dsimp only; omega, by rw [hR]; dsimp only; omega⟩) 2 (by decide) rfl rfl rfl rfl rfl rfl rfl e7 rfl rfl rfl hl.1 rfl (Nat.le_of_ble_eq_true rfl) ⟨Nat.zero_le _, Nat.zero_le _⟩ dX6_comparison_50 (fun H locs hP hD hS => ?_)
      exact Jq2 _ (Option.some.inj hf).symm _ _ _ hP hD hS (lv_sub hl [] rfl)
    · have hf := ifn hc hf
      refine lv_aload_n hx hb dX6_comparison_21 rfl (lv_at hl 0 rfl) ?_
      refine gfB (i0 := 0) (own := RX6) (T := TX6) (k := 7) (v := .int (q1.1.1 7)) hx hb htX6 hown hK hP rfl e6 rfl (by decide) (hW _ wd237) rfl dX6_comparison_22 ?_
      refine lv_bipush (v := 61) hx hb dX6_comparison_25 (by decide) ?_
      refine lv_icmp_ne (tgt := 53) hx hb dX6_comparison_27 (by decide) (fun hc => ?_) (fun hc => ?_)
      · have hf := ifn hc hf
        exact Jq2 _ (Option.some.inj hf).symm _ _ _ hP hD hS (lv_sub hl [] rfl)
      · have hf := ifp hc hf
        refine lv_aload_n hx hb dX6_comparison_30 rfl (lv_at hl 0 rfl) ?_
        refine gfB (i0 := 0) (own := RX6) (T := TX6) (k := 7) (v := .int (q1.1.1 7)) hx hb htX6 hown hK hP rfl e6 rfl (by decide) (hW _ wd237) rfl dX6_comparison_31 ?_
        refine lv_istore_n (lv' := [(2, .int (q1.1.1 7)), (0, .ref o_r), (1, .int x1)]) hx hb dX6_comparison_34 rfl hl (by decide) rfl (fun ls hl => ?_)
        refine lv_aload_n hx hb dX6_comparison_35 rfl (lv_at hl 1 rfl) ?_
        obtain ⟨q6, eq6, hf⟩ := bnd hf
        refine mcVv (rest := []) (Bn := [w6 cs o_r a_r q6, w7 cs (a_r 1) a_g q1.2]) (isR := [1]) (isC := [0]) (i0 := 0) ⟨hx, hb, hml, hown, hts⟩ hK hP hD hS hA hG (c6_accept l D cs o_r a_r q1.1 H.size _ eq6) (cwV 0 hts (gV wd700 wd702 wd6 wd106 wd703) rfl rfl rfl (by decide +kernel) ⟨by rw [hR]; dsimp only; omega, by rw [hR]; dsimp only; omega⟩) 2 (by decide) rfl rfl rfl rfl rfl rfl rfl e6 rfl rfl rfl hl.1 rfl (Nat.le_of_ble_eq_true rfl) ⟨Nat.zero_le _, Nat.zero_le _⟩ dX6_comparison_36 (fun H locs hP hD hS => ?_)
        refine lv_aload_n hx hb dX6_comparison_39 rfl (lv_at hl 1 rfl) ?_
        refine lv_iload_n hx hb dX6_comparison_40 rfl (lv_at hl 2 rfl) ?_
        obtain ⟨q7, eq7, hf⟩ := bnd hf
        refine mcVv (rest := []) (Bn := [w6 cs o_r a_r q7.1, w7 cs (a_r 1) a_g q7.2]) (isR := []) (isC := [0, 1]) (i0 := 0) ⟨hx, hb, hml, hown, hts⟩ hK hP hD hS hA hG (c6_sum l D cs o_r a_r a_g F Lo rec hrec q6 q1.2 H.size x1 _ eq7) (cwV 1 hts (gV wd844 wd846 wd20 wd106 wd847) rfl rfl rfl (by decide +kernel) ⟨by rw [hR]; dsimp only; omega, by rw [hR]; dsimp only; omega⟩) 2 (by decide) rfl rfl rfl rfl rfl rfl rfl e6 rfl rfl rfl hl.1 rfl (Nat.le_of_ble_eq_true rfl) ⟨Nat.zero_le _, Nat.zero_le _⟩ dX6_comparison_41 (fun H locs hP hD hS => ?_)
        refine lv_aload_n hx hb dX6_comparison_44 rfl (lv_at hl 1 rfl) ?_
        refine gfB (i0 := 0) (own := RX6) (T := TX6) (k := 1) (v := .ref (a_r 1)) hx hb htX6 hown hK hP rfl e6 rfl (by decide) (hW _ wd228) rfl dX6_comparison_45 ?_
        refine lv_iload_n hx hb dX6_comparison_48 rfl (lv_at hl 0 rfl) ?_
        refine lv_ineg hx hb dX6_comparison_49 ?_
        obtain ⟨q8, eq8, hf⟩ := bnd hf
        refine mcVv (rest := []) (Bn := [w6 cs o_r a_r q7.1, w7 cs (a_r 1) a_g q8]) (isR := [0]) (isC := [1]) (i0 := 1) ⟨hx, hb, hml, hown, hts⟩ hK hP hD hS hA hG (c7_add l D cs (a_r 1) a_g q7.2 H.size (-(q1.1.1 7)) _ eq8) (cwV 1 hts (gV wd856 wd857 wd858 wd108 wd859) rfl rfl rfl (by decide +kernel) ⟨by rw [hR]; dsimp only; omega, by rw [hR]; dsimp only; omega⟩) 2 (by decide) rfl rfl rfl rfl rfl rfl rfl e7 rfl rfl rfl hl.1 rfl (Nat.le_of_ble_eq_true rfl) ⟨Nat.zero_le _, Nat.zero_le _⟩ dX6_comparison_50 (fun H locs hP hD hS => ?_)
        exact Jq2 _ (Option.some.inj hf).symm _ _ _ hP hD hS (lv_sub hl [] rfl)
/-! TwinLamps$Reader.negation -/
noncomputable def f6_negation_L1  (v2 : Int32 × Int32 × St) : Option ((Int32 × Int32 × St) ⊕ (Int32 × St)) :=
  if (6 : Int32) ≤ v2.2.1 then some (.inr (v2.1, v2.2.2)) else if (v2.2.2.1 7) = 309 then ((f6_accept v2.2.2).bind fun q3 =>
  some (.inl ((v2.1 + 1), (v2.2.1 + 1), q3)))
  else some (.inr (v2.1, v2.2.2))
noncomputable def f6_negation_L5 (q1 : Int32 × St) (v6 : Int32 × St) : Option ((Int32 × St) ⊕ (St)) :=
  if q1.1 ≤ v6.1 then some (.inr v6.2) else (f7_add v6.2 ((-309) : Int32)).bind fun q7 =>
  some (.inl ((v6.1 + 1), q7))
noncomputable def f6_negation_L9 (q1 : Int32 × St) (v10 : Int32 × St) : Option ((Int32 × St) ⊕ (St)) :=
  if q1.1 ≤ v10.1 then some (.inr v10.2) else (f7_add v10.2 ((-309) : Int32)).bind fun q11 =>
  some (.inl ((v10.1 + 1), q11))
noncomputable def f6_negation (rec : St → St → Int32 → Option (St × St)) (s_r : St) (s_g : St) (x1 : Int32) : Option (St × St) :=
  (lpw (f6_negation_L1) (0, 0, s_r)).bind fun q1 =>
  if (q1.2.1 7) = 309 then (if q1.1 = 6 then ((f6_fail q1.2 (2 : Int32)).bind fun q12 =>
  some (q12, s_g))
  else (f6_comparison rec q1.2 s_g x1).bind fun q8 =>
  (lpw (f6_negation_L9 q1) (0, q8.2)).bind fun q9 =>
  some (q8.1, q9))
  else (f6_comparison rec q1.2 s_g x1).bind fun q4 =>
  (lpw (f6_negation_L5 q1) (0, q4.2)).bind fun q5 =>
  some (q4.1, q5)
set_option maxHeartbeats 4000000 in
set_option maxRecDepth 100000 in
theorem c6_negation (l : Launch) (D : va_G) (cs : xE) (o_r : Nat) (a_r : Nat → Nat) (a_g : Nat → Nat) (F Lo : Nat) (rec : St → St → Int32 → Option (St × St)) (hrec : ∀ (s_r : St) (s_g : St) (sz : Nat) (x1 : Int32) (res : St × St) (_ : rec s_r s_g x1 = some res), Met l yX6_expression (Cond.code yX6_expression cX6_expression 3 none :: WG) { frames := F, cells := 0, slots := 0, locals := Lo } (va_Pc [.ref o_r, .int x1] (mP D cs (List.flatten [w6 cs o_r a_r s_r, w7 cs (a_r 1) a_g s_g]) sz)) (qV D cs (List.flatten [w6 cs o_r a_r res.1, w7 cs (a_r 1) a_g res.2]) (va_A (List.flatten [w6 cs o_r a_r s_r, w7 cs (a_r 1) a_g s_g]) sz)) 0 0 (va_A (List.flatten [w6 cs o_r a_r s_r, w7 cs (a_r 1) a_g s_g]) sz)) (s_r : St) (s_g : St) (sz : Nat) (x1 : Int32) (res : St × St) (hf : f6_negation rec s_r s_g x1 = some res) : Met l yX6_negation (Cond.code yX6_negation cX6_negation 4 none :: WG) { frames := F + 13, cells := 0, slots := 0, locals := Lo + 324 } (va_Pc [.ref o_r, .int x1] (mP D cs (List.flatten [w6 cs o_r a_r s_r, w7 cs (a_r 1) a_g s_g]) sz)) (qV D cs (List.flatten [w6 cs o_r a_r res.1, w7 cs (a_r 1) a_g res.2]) (va_A (List.flatten [w6 cs o_r a_r s_r, w7 cs (a_r 1) a_g s_g]) sz)) 0 0 (va_A (List.flatten [w6 cs o_r a_r s_r, w7 cs (a_r 1) a_g s_g]) sz) := by
  refine mgo (Qc := qV D cs (List.flatten [w6 cs o_r a_r res.1, w7 cs (a_r 1) a_g res.2])) (cc := cX6_negation) (maxL := 4) (ret := none) (by decide) rfl (Nat.le_of_ble_eq_true rfl) ?_
  intro p e s m below meth c ls A R Q args H hR hQ hx hb hml hr hlocks hown hts hP hK hD hA hS hG hl
  have hown : s.vm.findClass RX6 = some m.cls := hown
  have hl : lv_has ls 4 [(0, .ref o_r), (1, .int x1)] := hl
  have hW : ∀ w ∈ WG, w.before args s = true := fun w h => hts w (List.mem_cons_of_mem _ h)
  have htX6 : ∀ w ∈ u_ws RX6 TX6 12, w.before args s = true := fun w h => hW w (inW_X6 w h)
  unfold f6_negation at hf
  refine lv_iconst (v := 0) hx hb dX6_negation_0 (by decide) ?_
  refine lv_istore_n (lv' := [(2, .int 0), (0, .ref o_r), (1, .int x1)]) hx hb dX6_negation_1 rfl hl (by decide) rfl (fun ls hl => ?_)
  refine lv_iconst (v := 0) hx hb dX6_negation_2 (by decide) ?_
  refine lv_istore_n (lv' := [(3, .int 0), (2, .int 0), (0, .ref o_r), (1, .int x1)]) hx hb dX6_negation_3 rfl hl (by decide) rfl (fun ls hl => ?_)
  obtain ⟨q1, hq1, hf⟩ := bnd hf
  obtain ⟨n1, hq1⟩ := lpw_ex hq1
  have Jq1_0 : ∀ rr1_0 : Int32 × St, q1 = rr1_0 → ∀ (H : Heap) (locs : List Loc) (ls : Array Slot), va_P D vwCl (List.flatten [w6 cs o_r a_r rr1_0.2, w7 cs (a_r 1) a_g s_g]) H → va_D A (List.flatten [w6 cs o_r a_r rr1_0.2, w7 cs (a_r 1) a_g s_g]) → va_S A s.heap H locs → lv_has ls 4 [(0, .ref o_r), (1, .int x1), (2, .int rr1_0.1)] → W p l e R s m args below meth c H locs 0 0 Q (F0 m 33 ls []) := by
    intro rr1_0 eq1 H locs ls hP hD hS hl
    subst eq1
    refine lv_aload_n hx hb dX6_negation_33 rfl (lv_at hl 0 rfl) ?_
    refine gfB (i0 := 0) (own := RX6) (T := TX6) (k := 7) (v := .int (q1.2.1 7)) hx hb htX6 hown hK hP rfl e6 rfl (by decide) (hW _ wd237) rfl dX6_negation_34 ?_
    refine lv_sipush (v := 309) hx hb dX6_negation_37 (by decide) ?_
    refine lv_icmp_ne (tgt := 55) hx hb dX6_negation_40 (by decide) (fun hc => ?_) (fun hc => ?_)
    · have hf := ifn hc hf
      refine lv_aload_n hx hb dX6_negation_55 rfl (lv_at hl 0 rfl) ?_
      refine lv_iload_n hx hb dX6_negation_56 rfl (lv_at hl 1 rfl) ?_
      obtain ⟨q4, eq4, hf⟩ := bnd hf
      refine mcVv (rest := []) (Bn := [w6 cs o_r a_r q4.1, w7 cs (a_r 1) a_g q4.2]) (isR := []) (isC := [0, 1]) (i0 := 0) ⟨hx, hb, hml, hown, hts⟩ hK hP hD hS hA hG (c6_comparison l D cs o_r a_r a_g F Lo rec hrec q1.2 s_g H.size x1 _ eq4) (cwV 1 hts (gV wd840 wd842 wd19 wd106 wd843) rfl rfl rfl (by decide +kernel) ⟨by rw [hR]; dsimp only; omega, by rw [hR]; dsimp only; omega⟩) 2 (by decide) rfl rfl rfl rfl rfl rfl rfl e6 rfl rfl rfl hl.1 rfl (Nat.le_of_ble_eq_true rfl) ⟨Nat.zero_le _, Nat.zero_le _⟩ dX6_negation_57 (fun H locs hP hD hS => ?_)
      refine lv_iconst (v := 0) hx hb dX6_negation_60 (by decide) ?_
      refine lv_istore_n (lv' := [(3, .int 0), (0, .ref o_r), (1, .int x1), (2, .int q1.1)]) hx hb dX6_negation_61 rfl hl (by decide) rfl (fun ls hl => ?_)
      obtain ⟨q5, hq5, hf⟩ := bnd hf
      obtain ⟨n5, hq5⟩ := lpw_ex hq5
      have Jq5_0 : ∀ rr5_0 : St, q5 = rr5_0 → ∀ (H : Heap) (locs : List Loc) (ls : Array Slot), va_P D vwCl (List.flatten [w6 cs o_r a_r q4.1, w7 cs (a_r 1) a_g rr5_0]) H → va_D A (List.flatten [w6 cs o_r a_r q4.1, w7 cs (a_r 1) a_g rr5_0]) → va_S A s.heap H locs → lv_has ls 4 [] → W p l e R s m args below meth c H locs 0 0 Q (F0 m 83 ls []) := by
        intro rr5_0 eq5 H locs ls hP hD hS hl
        subst eq5
        obtain rfl := Option.some.inj hf
        exact mretV hx hb hr hlocks hK hP hD hS hQ dX6_negation_83
      clear hf
      have L5 : ∀ n5, ∀ v6 : Int32 × St, lp n5 (f6_negation_L5 q1) v6 = some q5 → ∀ (H : Heap) (locs : List Loc) (ls : Array Slot), va_P D vwCl (List.flatten [w6 cs o_r a_r q4.1, w7 cs (a_r 1) a_g v6.2]) H → va_D A (List.flatten [w6 cs o_r a_r q4.1, w7 cs (a_r 1) a_g v6.2]) → va_S A s.heap H locs → lv_has ls 4 [(0, .ref o_r), (2, .int q1.1), (3, .int v6.1)] → W p l e R s m args below meth c H locs 0 0 Q (F0 m 62 ls []) := by
        intro n5
        induction n5 with
        | zero => intro v6 hn; cases hn
        | succ n5 ih5 =>
          intro v6 hn5 H locs ls hP hD hS hl
          obtain ⟨y5, hf, hn5⟩ := lp_succ hn5
          unfold f6_negation_L5 at hf
          refine lv_iload_n hx hb dX6_negation_62 rfl (lv_at hl 2 rfl) ?_
          refine lv_iload_n hx hb dX6_negation_63 rfl (lv_at hl 1 rfl) ?_
          refine lv_icmp_ge (tgt := 83) hx hb dX6_negation_64 (by decide) (fun hc => ?_) (fun hc => ?_)
          · have hf := ifp hc hf
            cases hf
            exact Jq5_0 _ (Option.some.inj hn5).symm _ _ _ hP hD hS (lv_sub hl [] rfl)
          · have hf := ifn hc hf
            refine lv_aload_n hx hb dX6_negation_67 rfl (lv_at hl 0 rfl) ?_
            refine gfB (i0 := 0) (own := RX6) (T := TX6) (k := 1) (v := .ref (a_r 1)) hx hb htX6 hown hK hP rfl e6 rfl (by decide) (hW _ wd228) rfl dX6_negation_68 ?_
            refine lv_sipush (v := (-309)) hx hb dX6_negation_71 (by decide) ?_
            obtain ⟨q7, eq7, hf⟩ := bnd hf
            refine mcVv (rest := []) (Bn := [w6 cs o_r a_r q4.1, w7 cs (a_r 1) a_g q7]) (isR := [0]) (isC := [1]) (i0 := 1) ⟨hx, hb, hml, hown, hts⟩ hK hP hD hS hA hG (c7_add l D cs (a_r 1) a_g v6.2 H.size ((-309) : Int32) _ eq7) (cwV 1 hts (gV wd856 wd857 wd858 wd108 wd859) rfl rfl rfl (by decide +kernel) ⟨by rw [hR]; dsimp only; omega, by rw [hR]; dsimp only; omega⟩) 2 (by decide) rfl rfl rfl rfl rfl rfl rfl e7 rfl rfl rfl hl.1 rfl (Nat.le_of_ble_eq_true rfl) ⟨Nat.zero_le _, Nat.zero_le _⟩ dX6_negation_74 (fun H locs hP hD hS => ?_)
            refine lv_iinc (v := (v6.1 + 1)) (lv' := [(3, .int (v6.1 + 1)), (0, .ref o_r), (2, .int q1.1)]) hx hb dX6_negation_77 hl (k := 2) rfl rfl (by decide) rfl (fun ls hl => ?_)
            refine lv_goto (tgt := 62) hx hb dX6_negation_80 (by decide) ?_
            cases hf
            exact ih5 _ hn5 _ _ _ hP hD hS (lv_sub hl [1, 2, 0] rfl)
      exact L5 _ _ hq5 _ _ _ hP hD hS (lv_sub hl [1, 3, 0] rfl)
    · have hf := ifp hc hf
      refine lv_iload_n hx hb dX6_negation_43 rfl (lv_at hl 2 rfl) ?_
      refine lv_bipush (v := 6) hx hb dX6_negation_44 (by decide) ?_
      refine lv_icmp_ne (tgt := 55) hx hb dX6_negation_46 (by decide) (fun hc => ?_) (fun hc => ?_)
      · have hf := ifn hc hf
        refine lv_aload_n hx hb dX6_negation_55 rfl (lv_at hl 0 rfl) ?_
        refine lv_iload_n hx hb dX6_negation_56 rfl (lv_at hl 1 rfl) ?_
        obtain ⟨q8, eq8, hf⟩ := bnd hf
        refine mcVv (rest := []) (Bn := [w6 cs o_r a_r q8.1, w7 cs (a_r 1) a_g q8.2]) (isR := []) (isC := [0, 1]) (i0 := 0) ⟨hx, hb, hml, hown, hts⟩ hK hP hD hS hA hG (c6_comparison l D cs o_r a_r a_g F Lo rec hrec q1.2 s_g H.size x1 _ eq8) (cwV 1 hts (gV wd840 wd842 wd19 wd106 wd843) rfl rfl rfl (by decide +kernel) ⟨by rw [hR]; dsimp only; omega, by rw [hR]; dsimp only; omega⟩) 2 (by decide) rfl rfl rfl rfl rfl rfl rfl e6 rfl rfl rfl hl.1 rfl (Nat.le_of_ble_eq_true rfl) ⟨Nat.zero_le _, Nat.zero_le _⟩ dX6_negation_57 (fun H locs hP hD hS => ?_)
        refine lv_iconst (v := 0) hx hb dX6_negation_60 (by decide) ?_
        refine lv_istore_n (lv' := [(3, .int 0), (0, .ref o_r), (1, .int x1), (2, .int q1.1)]) hx hb dX6_negation_61 rfl hl (by decide) rfl (fun ls hl => ?_)
        obtain ⟨q9, hq9, hf⟩ := bnd hf
        obtain ⟨n9, hq9⟩ := lpw_ex hq9
        have Jq9_0 : ∀ rr9_0 : St, q9 = rr9_0 → ∀ (H : Heap) (locs : List Loc) (ls : Array Slot), va_P D vwCl (List.flatten [w6 cs o_r a_r q8.1, w7 cs (a_r 1) a_g rr9_0]) H → va_D A (List.flatten [w6 cs o_r a_r q8.1, w7 cs (a_r 1) a_g rr9_0]) → va_S A s.heap H locs → lv_has ls 4 [] → W p l e R s m args below meth c H locs 0 0 Q (F0 m 83 ls []) := by
          intro rr9_0 eq9 H locs ls hP hD hS hl
          subst eq9
          obtain rfl := Option.some.inj hf
          exact mretV hx hb hr hlocks hK hP hD hS hQ dX6_negation_83
        clear hf
        have L9 : ∀ n9, ∀ v10 : Int32 × St, lp n9 (f6_negation_L9 q1) v10 = some q9 → ∀ (H : Heap) (locs : List Loc) (ls : Array Slot), va_P D vwCl (List.flatten [w6 cs o_r a_r q8.1, w7 cs (a_r 1) a_g v10.2]) H → va_D A (List.flatten [w6 cs o_r a_r q8.1, w7 cs (a_r 1) a_g v10.2]) → va_S A s.heap H locs → lv_has ls 4 [(0, .ref o_r), (2, .int q1.1), (3, .int v10.1)] → W p l e R s m args below meth c H locs 0 0 Q (F0 m 62 ls []) := by
          intro n9
          induction n9 with
          | zero => intro v10 hn; cases hn
          | succ n9 ih9 =>
            intro v10 hn9 H locs ls hP hD hS hl
            obtain ⟨y9, hf, hn9⟩ := lp_succ hn9
            unfold f6_negation_L9 at hf
            refine lv_iload_n hx hb dX6_negation_62 rfl (lv_at hl 2 rfl) ?_
            refine lv_iload_n hx hb dX6_negation_63 rfl (lv_at hl 1 rfl) ?_
            refine lv_icmp_ge (tgt := 83) hx hb dX6_negation_64 (by decide) (fun hc => ?_) (fun hc => ?_)
            · have hf := ifp hc hf
              cases hf
              exact Jq9_0 _ (Option.some.inj hn9).symm _ _ _ hP hD hS (lv_sub hl [] rfl)
            · have hf := ifn hc hf
              refine lv_aload_n hx hb dX6_negation_67 rfl (lv_at hl 0 rfl) ?_
              refine gfB (i0 := 0) (own := RX6) (T := TX6) (k := 1) (v := .ref (a_r 1)) hx hb htX6 hown hK hP rfl e6 rfl (by decide) (hW _ wd228) rfl dX6_negation_68 ?_
              refine lv_sipush (v := (-309)) hx hb dX6_negation_71 (by decide) ?_
              obtain ⟨q11, eq11, hf⟩ := bnd hf
              refine mcVv (rest := []) (Bn := [w6 cs o_r a_r q8.1, w7 cs (a_r 1) a_g q11]) (isR := [0]) (isC := [1]) (i0 := 1) ⟨hx, hb, hml, hown, hts⟩ hK hP hD hS hA hG (c7_add l D cs (a_r 1) a_g v10.2 H.size ((-309) : Int32) _ eq11) (cwV 1 hts (gV wd856 wd857 wd858 wd108 wd859) rfl rfl rfl (by decide +kernel) ⟨by rw [hR]; dsimp only; omega, by rw [hR]; dsimp only; omega⟩) 2 (by decide) rfl rfl rfl rfl rfl rfl rfl e7 rfl rfl rfl hl.1 rfl (Nat.le_of_ble_eq_true rfl) ⟨Nat.zero_le _, Nat.zero_le _⟩ dX6_negation_74 (fun H locs hP hD hS => ?_)
              refine lv_iinc (v := (v10.1 + 1)) (lv' := [(3, .int (v10.1 + 1)), (0, .ref o_r), (2, .int q1.1)]) hx hb dX6_negation_77 hl (k := 2) rfl rfl (by decide) rfl (fun ls hl => ?_)
              refine lv_goto (tgt := 62) hx hb dX6_negation_80 (by decide) ?_
              cases hf
              exact ih9 _ hn9 _ _ _ hP hD hS (lv_sub hl [1, 2, 0] rfl)
        exact L9 _ _ hq9 _ _ _ hP hD hS (lv_sub hl [1, 3, 0] rfl)
      · have hf := ifp hc hf
        refine lv_aload_n hx hb dX6_negation_49 rfl (lv_at hl 0 rfl) ?_
        refine lv_iconst (v := 2) hx hb dX6_negation_50 (by decide) ?_
        obtain ⟨q12, eq12, hf⟩ := bnd hf
        refine mcVv (rest := []) (Bn := [w6 cs o_r a_r q12, w7 cs (a_r 1) a_g s_g]) (isR := [1]) (isC := [0]) (i0 := 0) ⟨hx, hb, hml, hown, hts⟩ hK hP hD hS hA hG (c6_fail l D cs o_r a_r q1.2 H.size (2 : Int32) _ eq12) (cwV 1 hts (gV wd803 wd805 wd12 wd106 wd806) rfl rfl rfl (by decide +kernel) ⟨by rw [hR]; dsimp only; omega, by rw [hR]; dsimp only; omega⟩) 2 (by decide) rfl rfl rfl rfl rfl rfl rfl e6 rfl rfl rfl hl.1 rfl (Nat.le_of_ble_eq_true rfl) ⟨Nat.zero_le _, Nat.zero_le _⟩ dX6_negation_51 (fun H locs hP hD hS => ?_)
        obtain rfl := Option.some.inj hf
        exact mretV hx hb hr hlocks hK hP hD hS hQ dX6_negation_54
  clear hf
  have L1 : ∀ n1, ∀ v2 : Int32 × Int32 × St, lp n1 (f6_negation_L1) v2 = some q1 → ∀ (H : Heap) (locs : List Loc) (ls : Array Slot), va_P D vwCl (List.flatten [w6 cs o_r a_r v2.2.2, w7 cs (a_r 1) a_g s_g]) H → va_D A (List.flatten [w6 cs o_r a_r v2.2.2, w7 cs (a_r 1) a_g s_g]) → va_S A s.heap H locs → lv_has ls 4 [(0, .ref o_r), (1, .int x1), (2, .int v2.1), (3, .int v2.2.1)] → W p l e R s m args below meth c H locs 0 0 Q (F0 m 4 ls []) := by
    intro n1
    induction n1 with
    | zero => intro v2 hn; cases hn
    | succ n1 ih1 =>
      intro v2 hn1 H locs ls hP hD hS hl
      obtain ⟨y1, hf, hn1⟩ := lp_succ hn1
      unfold f6_negation_L1 at hf
      refine lv_iload_n hx hb dX6_negation_4 rfl (lv_at hl 3 rfl) ?_
      refine lv_bipush (v := 6) hx hb dX6_negation_5 (by decide) ?_
      refine lv_icmp_ge (tgt := 33) hx hb dX6_negation_7 (by decide) (fun hc => ?_) (fun hc => ?_)
      · have hf := ifp hc hf
        cases hf
        exact Jq1_0 _ (Option.some.inj hn1).symm _ _ _ hP hD hS (lv_sub hl [0, 1, 2] rfl)
      · have hf := ifn hc hf
        refine lv_aload_n hx hb dX6_negation_10 rfl (lv_at hl 0 rfl) ?_
        refine gfB (i0 := 0) (own := RX6) (T := TX6) (k := 7) (v := .int (v2.2.2.1 7)) hx hb htX6 hown hK hP rfl e6 rfl (by decide) (hW _ wd237) rfl dX6_negation_11 ?_
        refine lv_sipush (v := 309) hx hb dX6_negation_14 (by decide) ?_
        refine lv_icmp_ne (tgt := 33) hx hb dX6_negation_17 (by decide) (fun hc => ?_) (fun hc => ?_)
        · have hf := ifn hc hf
          cases hf
          exact Jq1_0 _ (Option.some.inj hn1).symm _ _ _ hP hD hS (lv_sub hl [0, 1, 2] rfl)
        · have hf := ifp hc hf
          refine lv_aload_n hx hb dX6_negation_20 rfl (lv_at hl 0 rfl) ?_
          obtain ⟨q3, eq3, hf⟩ := bnd hf
          refine mcVv (rest := []) (Bn := [w6 cs o_r a_r q3, w7 cs (a_r 1) a_g s_g]) (isR := [1]) (isC := [0]) (i0 := 0) ⟨hx, hb, hml, hown, hts⟩ hK hP hD hS hA hG (c6_accept l D cs o_r a_r v2.2.2 H.size _ eq3) (cwV 0 hts (gV wd700 wd702 wd6 wd106 wd703) rfl rfl rfl (by decide +kernel) ⟨by rw [hR]; dsimp only; omega, by rw [hR]; dsimp only; omega⟩) 2 (by decide) rfl rfl rfl rfl rfl rfl rfl e6 rfl rfl rfl hl.1 rfl (Nat.le_of_ble_eq_true rfl) ⟨Nat.zero_le _, Nat.zero_le _⟩ dX6_negation_21 (fun H locs hP hD hS => ?_)
          refine lv_iinc (v := (v2.1 + 1)) (lv' := [(2, .int (v2.1 + 1)), (0, .ref o_r), (1, .int x1), (3, .int v2.2.1)]) hx hb dX6_negation_24 hl (k := 2) rfl rfl (by decide) rfl (fun ls hl => ?_)
          refine lv_iinc (v := (v2.2.1 + 1)) (lv' := [(3, .int (v2.2.1 + 1)), (2, .int (v2.1 + 1)), (0, .ref o_r), (1, .int x1)]) hx hb dX6_negation_27 hl (k := 3) rfl rfl (by decide) rfl (fun ls hl => ?_)
          refine lv_goto (tgt := 4) hx hb dX6_negation_30 (by decide) ?_
          cases hf
          exact ih1 _ hn1 _ _ _ hP hD hS (lv_sub hl [2, 3, 1, 0] rfl)
  exact L1 _ _ hq1 _ _ _ hP hD hS (lv_sub hl [2, 3, 1, 0] rfl)
/-! TwinLamps$Reader.conjunction -/
noncomputable def f6_conjunction_L2 (rec : St → St → Int32 → Option (St × St)) (x1 : Int32) (v3 : Int32 × St × St) : Option ((Int32 × St × St) ⊕ (St × St)) :=
  if (600 : Int32) ≤ v3.1 then some (.inr (v3.2.1, v3.2.2)) else if (v3.2.1.1 6) = 0 then (if (v3.2.1.1 7) = 308 then ((f6_accept v3.2.1).bind fun q4 =>
  (f6_negation rec q4 v3.2.2 x1).bind fun q5 =>
  (f7_add q5.2 ((-308) : Int32)).bind fun q6 =>
  some (.inl ((v3.1 + 1), q5.1, q6)))
  else some (.inr (v3.2.1, v3.2.2)))
  else some (.inr (v3.2.1, v3.2.2))
noncomputable def f6_conjunction (rec : St → St → Int32 → Option (St × St)) (s_r : St) (s_g : St) (x1 : Int32) : Option (St × St) :=
  (f6_negation rec s_r s_g x1).bind fun q1 =>
  (lpw (f6_conjunction_L2 rec x1) (0, q1.1, q1.2)).bind fun q2 =>
  some (q2.1, q2.2)
set_option maxHeartbeats 4000000 in
set_option maxRecDepth 100000 in
theorem c6_conjunction (l : Launch) (D : va_G) (cs : xE) (o_r : Nat) (a_r : Nat → Nat) (a_g : Nat → Nat) (F Lo : Nat) (rec : St → St → Int32 → Option (St × St)) (hrec : ∀ (s_r : St) (s_g : St) (sz : Nat) (x1 : Int32) (res : St × St) (_ : rec s_r s_g x1 = some res), Met l yX6_expression (Cond.code yX6_expression cX6_expression 3 none :: WG) { frames := F, cells := 0, slots := 0, locals := Lo } (va_Pc [.ref o_r, .int x1] (mP D cs (List.flatten [w6 cs o_r a_r s_r, w7 cs (a_r 1) a_g s_g]) sz)) (qV D cs (List.flatten [w6 cs o_r a_r res.1, w7 cs (a_r 1) a_g res.2]) (va_A (List.flatten [w6 cs o_r a_r s_r, w7 cs (a_r 1) a_g s_g]) sz)) 0 0 (va_A (List.flatten [w6 cs o_r a_r s_r, w7 cs (a_r 1) a_g s_g]) sz)) (s_r : St) (s_g : St) (sz : Nat) (x1 : Int32) (res : St × St) (hf : f6_conjunction rec s_r s_g x1 = some res) : Met l yX6_conjunction (Cond.code yX6_conjunction cX6_conjunction 3 none :: WG) { frames := F + 14, cells := 0, slots := 0, locals := Lo + 347 } (va_Pc [.ref o_r, .int x1] (mP D cs (List.flatten [w6 cs o_r a_r s_r, w7 cs (a_r 1) a_g s_g]) sz)) (qV D cs (List.flatten [w6 cs o_r a_r res.1, w7 cs (a_r 1) a_g res.2]) (va_A (List.flatten [w6 cs o_r a_r s_r, w7 cs (a_r 1) a_g s_g]) sz)) 0 0 (va_A (List.flatten [w6 cs o_r a_r s_r, w7 cs (a_r 1) a_g s_g]) sz) := by
  refine mgo (Qc := qV D cs (List.flatten [w6 cs o_r a_r res.1, w7 cs (a_r 1) a_g res.2])) (cc := cX6_conjunction) (maxL := 3) (ret := none) (by decide) rfl (Nat.le_of_ble_eq_true rfl) ?_
  intro p e s m below meth c ls A R Q args H hR hQ hx hb hml hr hlocks hown hts hP hK hD hA hS hG hl
  have hown : s.vm.findClass RX6 = some m.cls := hown
  have hl : lv_has ls 3 [(0, .ref o_r), (1, .int x1)] := hl
  have hW : ∀ w ∈ WG, w.before args s = true := fun w h => hts w (List.mem_cons_of_mem _ h)
  have htX6 : ∀ w ∈ u_ws RX6 TX6 12, w.before args s = true := fun w h => hW w (inW_X6 w h)
  unfold f6_conjunction at hf
  refine lv_aload_n hx hb dX6_conjunction_0 rfl (lv_at hl 0 rfl) ?_
  refine lv_iload_n hx hb dX6_conjunction_1 rfl (lv_at hl 1 rfl) ?_
  obtain ⟨q1, eq1, hf⟩ := bnd hf
  refine mcVv (rest := []) (Bn := [w6 cs o_r a_r q1.1, w7 cs (a_r 1) a_g q1.2]) (isR := []) (isC := [0, 1]) (i0 := 0) ⟨hx, hb, hml, hown, hts⟩ hK hP hD hS hA hG (c6_negation l D cs o_r a_r a_g F Lo rec hrec s_r s_g H.size x1 _ eq1) (cwV 1 hts (gV wd836 wd838 wd18 wd106 wd839) rfl rfl rfl (by decide +kernel) ⟨by rw [hR]; dsimp only; omega, by rw [hR]; dsimp only; omega⟩) 2 (by decide) rfl rfl rfl rfl rfl rfl rfl e6 rfl rfl rfl hl.1 rfl (Nat.le_of_ble_eq_true rfl) ⟨Nat.zero_le _, Nat.zero_le _⟩ dX6_conjunction_2 (fun H locs hP hD hS => ?_)
  refine lv_iconst (v := 0) hx hb dX6_conjunction_5 (by decide) ?_
  refine lv_istore_n (lv' := [(2, .int 0), (0, .ref o_r), (1, .int x1)]) hx hb dX6_conjunction_6 rfl hl (by decide) rfl (fun ls hl => ?_)
  obtain ⟨q2, hq2, hf⟩ := bnd hf
  obtain ⟨n2, hq2⟩ := lpw_ex hq2
  have Jq2_0 : ∀ rr2_0 : St × St, q2 = rr2_0 → ∀ (H : Heap) (locs : List Loc) (ls : Array Slot), va_P D vwCl (List.flatten [w6 cs o_r a_r rr2_0.1, w7 cs (a_r 1) a_g rr2_0.2]) H → va_D A (List.flatten [w6 cs o_r a_r rr2_0.1, w7 cs (a_r 1) a_g rr2_0.2]) → va_S A s.heap H locs → lv_has ls 3 [] → W p l e R s m args below meth c H locs 0 0 Q (F0 m 56 ls []) := by
    intro rr2_0 eq2 H locs ls hP hD hS hl
    subst eq2
    obtain rfl := Option.some.inj hf
    exact mretV hx hb hr hlocks hK hP hD hS hQ dX6_conjunction_56
  clear hf
  have L2 : ∀ n2, ∀ v3 : Int32 × St × St, lp n2 (f6_conjunction_L2 rec x1) v3 = some q2 → ∀ (H : Heap) (locs : List Loc) (ls : Array Slot), va_P D vwCl (List.flatten [w6 cs o_r a_r v3.2.1, w7 cs (a_r 1) a_g v3.2.2]) H → va_D A (List.flatten [w6 cs o_r a_r v3.2.1, w7 cs (a_r 1) a_g v3.2.2]) → va_S A s.heap H locs → lv_has ls 3 [(0, .ref o_r), (1, .int x1), (2, .int v3.1)] → W p l e R s m args below meth c H locs 0 0 Q (F0 m 7 ls []) := by
    intro n2
    induction n2 with
    | zero => intro v3 hn; cases hn
    | succ n2 ih2 =>
      intro v3 hn2 H locs ls hP hD hS hl
      obtain ⟨y2, hf, hn2⟩ := lp_succ hn2
      unfold f6_conjunction_L2 at hf
      refine lv_iload_n hx hb dX6_conjunction_7 rfl (lv_at hl 2 rfl) ?_
      refine lv_sipush (v := 600) hx hb dX6_conjunction_8 (by decide) ?_
      refine lv_icmp_ge (tgt := 56) hx hb dX6_conjunction_11 (by decide) (fun hc => ?_) (fun hc => ?_)
      · have hf := ifp hc hf
        cases hf
        exact Jq2_0 _ (Option.some.inj hn2).symm _ _ _ hP hD hS (lv_sub hl [] rfl)
      · have hf := ifn hc hf
        refine lv_aload_n hx hb dX6_conjunction_14 rfl (lv_at hl 0 rfl) ?_
        refine gfB (i0 := 0) (own := RX6) (T := TX6) (k := 6) (v := .int (v3.2.1.1 6)) hx hb htX6 hown hK hP rfl e6 rfl (by decide) (hW _ wd236) rfl dX6_conjunction_15 ?_
        refine lv_if_ne (tgt := 56) hx hb dX6_conjunction_18 (by decide) (fun hc => ?_) (fun hc => ?_)
        · have hf := ifn hc hf
          cases hf
          exact Jq2_0 _ (Option.some.inj hn2).symm _ _ _ hP hD hS (lv_sub hl [] rfl)
        · have hf := ifp hc hf
          refine lv_aload_n hx hb dX6_conjunction_21 rfl (lv_at hl 0 rfl) ?_
          refine gfB (i0 := 0) (own := RX6) (T := TX6) (k := 7) (v := .int (v3.2.1.1 7)) hx hb htX6 hown hK hP rfl e6 rfl (by decide) (hW _ wd237) rfl dX6_conjunction_22 ?_
          refine lv_sipush (v := 308) hx hb dX6_conjunction_25 (by decide) ?_
          refine lv_icmp_ne (tgt := 56) hx hb dX6_conjunction_28 (by decide) (fun hc => ?_) (fun hc => ?_)
          · have hf := ifn hc hf
            cases hf
            exact Jq2_0 _ (Option.some.inj hn2).symm _ _ _ hP hD hS (lv_sub hl [] rfl)
          · have hf := ifp hc hf
            refine lv_aload_n hx hb dX6_conjunction_31 rfl (lv_at hl 0 rfl) ?_
            obtain ⟨q4, eq4, hf⟩ := bnd hf
            refine mcVv (rest := []) (Bn := [w6 cs o_r a_r q4, w7 cs (a_r 1) a_g v3.2.2]) (isR := [1]) (isC := [0]) (i0 := 0) ⟨hx, hb, hml, hown, hts⟩ hK hP hD hS hA hG (c6_accept l D cs o_r a_r v3.2.1 H.size _ eq4) (cwV 0 hts (gV wd700 wd702 wd6 wd106 wd703) rfl rfl rfl (by decide +kernel) ⟨by rw [hR]; dsimp only; omega, by rw [hR]; dsimp only; omega⟩) 2 (by decide) rfl rfl rfl rfl rfl rfl rfl e6 rfl rfl rfl hl.1 rfl (Nat.le_of_ble_eq_true rfl) ⟨Nat.zero_le _, Nat.zero_le _⟩ dX6_conjunction_32 (fun H locs hP hD hS => ?_)
            refine lv_aload_n hx hb dX6_conjunction_35 rfl (lv_at hl 0 rfl) ?_
            refine lv_iload_n hx hb dX6_conjunction_36 rfl (lv_at hl 1 rfl) ?_
            obtain ⟨q5, eq5, hf⟩ := bnd hf
            refine mcVv (rest := []) (Bn := [w6 cs o_r a_r q5.1, w7 cs (a_r 1) a_g q5.2]) (isR := []) (isC := [0, 1]) (i0 := 0) ⟨hx, hb, hml, hown, hts⟩ hK hP hD hS hA hG (c6_negation l D cs o_r a_r a_g F Lo rec hrec q4 v3.2.2 H.size x1 _ eq5) (cwV 1 hts (gV wd836 wd838 wd18 wd106 wd839) rfl rfl rfl (by decide +kernel) ⟨by rw [hR]; dsimp only; omega, by rw [hR]; dsimp only; omega⟩) 2 (by decide) rfl rfl rfl rfl rfl rfl rfl e6 rfl rfl rfl hl.1 rfl (Nat.le_of_ble_eq_true rfl) ⟨Nat.zero_le _, Nat.zero_le _⟩ dX6_conjunction_37 (fun H locs hP hD hS => ?_)
            refine lv_aload_n hx hb dX6_conjunction_40 rfl (lv_at hl 0 rfl) ?_
            refine gfB (i0 := 0) (own := RX6) (T := TX6) (k := 1) (v := .ref (a_r 1)) hx hb htX6 hown hK hP rfl e6 rfl (by decide) (hW _ wd228) rfl dX6_conjunction_41 ?_
            refine lv_sipush (v := (-308)) hx hb dX6_conjunction_44 (by decide) ?_
            obtain ⟨q6, eq6, hf⟩ := bnd hf
            refine mcVv (rest := []) (Bn := [w6 cs o_r a_r q5.1, w7 cs (a_r 1) a_g q6]) (isR := [0]) (isC := [1]) (i0 := 1) ⟨hx, hb, hml, hown, hts⟩ hK hP hD hS hA hG (c7_add l D cs (a_r 1) a_g q5.2 H.size ((-308) : Int32) _ eq6) (cwV 1 hts (gV wd856 wd857 wd858 wd108 wd859) rfl rfl rfl (by decide +kernel) ⟨by rw [hR]; dsimp only; omega, by rw [hR]; dsimp only; omega⟩) 2 (by decide) rfl rfl rfl rfl rfl rfl rfl e7 rfl rfl rfl hl.1 rfl (Nat.le_of_ble_eq_true rfl) ⟨Nat.zero_le _, Nat.zero_le _⟩ dX6_conjunction_47 (fun H locs hP hD hS => ?_)
            refine lv_iinc (v := (v3.1 + 1)) (lv' := [(2, .int (v3.1 + 1)), (0, .ref o_r), (1, .int x1)]) hx hb dX6_conjunction_50 hl (k := 2) rfl rfl (by decide) rfl (fun ls hl => ?_)
            refine lv_goto (tgt := 7) hx hb dX6_conjunction_53 (by decide) ?_
            cases hf
            exact ih2 _ hn2 _ _ _ hP hD hS (lv_sub hl [1, 2, 0] rfl)
  exact L2 _ _ hq2 _ _ _ hP hD hS (lv_sub hl [1, 2, 0] rfl)
/-! TwinLamps$Reader.expression -/
noncomputable def f6_expression_b_L2 (rec : St → St → Int32 → Option (St × St)) (x1 : Int32) (v3 : Int32 × St × St) : Option ((Int32 × St × St) ⊕ (St × St)) :=
  if (600 : Int32) ≤ v3.1 then some (.inr (v3.2.1, v3.2.2)) else if (v3.2.1.1 6) = 0 then (if (v3.2.1.1 7) = 307 then ((f6_accept v3.2.1).bind fun q4 =>
  (f6_conjunction rec q4 v3.2.2 x1).bind fun q5 =>
  (f7_add q5.2 ((-307) : Int32)).bind fun q6 =>
  some (.inl ((v3.1 + 1), q5.1, q6)))
  else some (.inr (v3.2.1, v3.2.2)))
  else some (.inr (v3.2.1, v3.2.2))
noncomputable def f6_expression_b (rec : St → St → Int32 → Option (St × St)) (s_r : St) (s_g : St) (x1 : Int32) : Option (St × St) :=
  if (s_r.1 6) = 0 then (if x1 < 6 then ((f6_conjunction rec s_r s_g x1).bind fun q1 =>
  (lpw (f6_expression_b_L2 rec x1) (0, q1.1, q1.2)).bind fun q2 =>
  some (q2.1, q2.2))
  else ((if (s_r.1 7) = 2 then some 2 else if (300 : Int32) ≤ (s_r.1 7) then some 2 else if (s_r.1 7) = 40 then some 2 else some 1 : Option (Int32))).bind fun q7 =>
  (f6_fail s_r q7).bind fun q8 =>
  some (q8, s_g))
  else some (s_r, s_g)
noncomputable def f6_expression : Nat → St → St → Int32 → Option (St × St)
  | 0 => fun _ _ _ => none
  | d + 1 => f6_expression_b (f6_expression d)
set_option maxHeartbeats 4000000 in
set_option maxRecDepth 100000 in
theorem c6_expression_b (l : Launch) (D : va_G) (cs : xE) (o_r : Nat) (a_r : Nat → Nat) (a_g : Nat → Nat) (F Lo : Nat) (rec : St → St → Int32 → Option (St × St)) (hrec : ∀ (s_r : St) (s_g : St) (sz : Nat) (x1 : Int32) (res : St × St) (_ : rec s_r s_g x1 = some res), Met l yX6_expression (Cond.code yX6_expression cX6_expression 3 none :: WG) { frames := F, cells := 0, slots := 0, locals := Lo } (va_Pc [.ref o_r, .int x1] (mP D cs (List.flatten [w6 cs o_r a_r s_r, w7 cs (a_r 1) a_g s_g]) sz)) (qV D cs (List.flatten [w6 cs o_r a_r res.1, w7 cs (a_r 1) a_g res.2]) (va_A (List.flatten [w6 cs o_r a_r s_r, w7 cs (a_r 1) a_g s_g]) sz)) 0 0 (va_A (List.flatten [w6 cs o_r a_r s_r, w7 cs (a_r 1) a_g s_g]) sz)) (s_r : St) (s_g : St) (sz : Nat) (x1 : Int32) (res : St × St) (hf : f6_expression_b rec s_r s_g x1 = some res) : Met l yX6_expression (Cond.code yX6_expression cX6_expression 3 none :: WG) { frames := F + 15, cells := 0, slots := 0, locals := Lo + 369 } (va_Pc [.ref o_r, .int x1] (mP D cs (List.flatten [w6 cs o_r a_r s_r, w7 cs (a_r 1) a_g s_g]) sz)) (qV D cs (List.flatten [w6 cs o_r a_r res.1, w7 cs (a_r 1) a_g res.2]) (va_A (List.flatten [w6 cs o_r a_r s_r, w7 cs (a_r 1) a_g s_g]) sz)) 0 0 (va_A (List.flatten [w6 cs o_r a_r s_r, w7 cs (a_r 1) a_g s_g]) sz) := by
  refine mgo (Qc := qV D cs (List.flatten [w6 cs o_r a_r res.1, w7 cs (a_r 1) a_g res.2])) (cc := cX6_expression) (maxL := 3) (ret := none) (by decide) rfl (Nat.le_of_ble_eq_true rfl) ?_
  intro p e s m below meth c ls A R Q args H hR hQ hx hb hml hr hlocks hown hts hP hK hD hA hS hG hl
  have hown : s.vm.findClass RX6 = some m.cls := hown
  have hl : lv_has ls 3 [(0, .ref o_r), (1, .int x1)] := hl
  have hW : ∀ w ∈ WG, w.before args s = true := fun w h => hts w (List.mem_cons_of_mem _ h)
  have htX6 : ∀ w ∈ u_ws RX6 TX6 12, w.before args s = true := fun w h => hW w (inW_X6 w h)
  unfold f6_expression_b at hf
  refine lv_aload_n hx hb dX6_expression_0 rfl (lv_at hl 0 rfl) ?_
  refine gfB (i0 := 0) (own := RX6) (T := TX6) (k := 6) (v := .int (s_r.1 6)) hx hb htX6 hown hK hP rfl e6 rfl (by decide) (hW _ wd236) rfl dX6_expression_1 ?_
  refine lv_if_eq (tgt := 8) hx hb dX6_expression_4 (by decide) (fun hc => ?_) (fun hc => ?_)
  · have hf := ifp hc hf
    refine lv_iload_n hx hb dX6_expression_8 rfl (lv_at hl 1 rfl) ?_
    refine lv_bipush (v := 6) hx hb dX6_expression_9 (by decide) ?_
    refine lv_icmp_lt (tgt := 51) hx hb dX6_expression_11 (by decide) (fun hc => ?_) (fun hc => ?_)
    · have hf := ifp hc hf
      refine lv_aload_n hx hb dX6_expression_51 rfl (lv_at hl 0 rfl) ?_
      refine lv_iload_n hx hb dX6_expression_52 rfl (lv_at hl 1 rfl) ?_
      obtain ⟨q1, eq1, hf⟩ := bnd hf
      refine mcVv (rest := []) (Bn := [w6 cs o_r a_r q1.1, w7 cs (a_r 1) a_g q1.2]) (isR := []) (isC := [0, 1]) (i0 := 0) ⟨hx, hb, hml, hown, hts⟩ hK hP hD hS hA hG (c6_conjunction l D cs o_r a_r a_g F Lo rec hrec s_r s_g H.size x1 _ eq1) (cwV 1 hts (gV wd832 wd834 wd17 wd106 wd835) rfl rfl rfl (by decide +kernel) ⟨by rw [hR]; dsimp only; omega, by rw [hR]; dsimp only; omega⟩) 2 (by decide) rfl rfl rfl rfl rfl rfl rfl e6 rfl rfl rfl hl.1 rfl (Nat.le_of_ble_eq_true rfl) ⟨Nat.zero_le _, Nat.zero_le _⟩ dX6_expression_53 (fun H locs hP hD hS => ?_)
      refine lv_iconst (v := 0) hx hb dX6_expression_56 (by decide) ?_
      refine lv_istore_n (lv' := [(2, .int 0), (0, .ref o_r), (1, .int x1)]) hx hb dX6_expression_57 rfl hl (by decide) rfl (fun ls hl => ?_)
      obtain ⟨q2, hq2, hf⟩ := bnd hf
      obtain ⟨n2, hq2⟩ := lpw_ex hq2
      have Jq2_0 : ∀ rr2_0 : St × St, q2 = rr2_0 → ∀ (H : Heap) (locs : List Loc) (ls : Array Slot), va_P D vwCl (List.flatten [w6 cs o_r a_r rr2_0.1, w7 cs (a_r 1) a_g rr2_0.2]) H → va_D A (List.flatten [w6 cs o_r a_r rr2_0.1, w7 cs (a_r 1) a_g rr2_0.2]) → va_S A s.heap H locs → lv_has ls 3 [] → W p l e R s m args below meth c H locs 0 0 Q (F0 m 107 ls []) := by
        intro rr2_0 eq2 H locs ls hP hD hS hl
        subst eq2
        obtain rfl := Option.some.inj hf
        exact mretV hx hb hr hlocks hK hP hD hS hQ dX6_expression_107
      clear hf
      have L2 : ∀ n2, ∀ v3 : Int32 × St × St, lp n2 (f6_expression_b_L2 rec x1) v3 = some q2 → ∀ (H : Heap) (locs : List Loc) (ls : Array Slot), va_P D vwCl (List.flatten [w6 cs o_r a_r v3.2.1, w7 cs (a_r 1) a_g v3.2.2]) H → va_D A (List.flatten [w6 cs o_r a_r v3.2.1, w7 cs (a_r 1) a_g v3.2.2]) → va_S A s.heap H locs → lv_has ls 3 [(0, .ref o_r), (1, .int x1), (2, .int v3.1)] → W p l e R s m args below meth c H locs 0 0 Q (F0 m 58 ls []) := by
        intro n2
        induction n2 with
        | zero => intro v3 hn; cases hn
        | succ n2 ih2 =>
          intro v3 hn2 H locs ls hP hD hS hl
          obtain ⟨y2, hf, hn2⟩ := lp_succ hn2
          unfold f6_expression_b_L2 at hf
          refine lv_iload_n hx hb dX6_expression_58 rfl (lv_at hl 2 rfl) ?_
          refine lv_sipush (v := 600) hx hb dX6_expression_59 (by decide) ?_
          refine lv_icmp_ge (tgt := 107) hx hb dX6_expression_62 (by decide) (fun hc => ?_) (fun hc => ?_)
          · have hf := ifp hc hf
            cases hf
            exact Jq2_0 _ (Option.some.inj hn2).symm _ _ _ hP hD hS (lv_sub hl [] rfl)
          · have hf := ifn hc hf
            refine lv_aload_n hx hb dX6_expression_65 rfl (lv_at hl 0 rfl) ?_
            refine gfB (i0 := 0) (own := RX6) (T := TX6) (k := 6) (v := .int (v3.2.1.1 6)) hx hb htX6 hown hK hP rfl e6 rfl (by decide) (hW _ wd236) rfl dX6_expression_66 ?_
            refine lv_if_ne (tgt := 107) hx hb dX6_expression_69 (by decide) (fun hc => ?_) (fun hc => ?_)
            · have hf := ifn hc hf
              cases hf
              exact Jq2_0 _ (Option.some.inj hn2).symm _ _ _ hP hD hS (lv_sub hl [] rfl)
            · have hf := ifp hc hf
              refine lv_aload_n hx hb dX6_expression_72 rfl (lv_at hl 0 rfl) ?_
              refine gfB (i0 := 0) (own := RX6) (T := TX6) (k := 7) (v := .int (v3.2.1.1 7)) hx hb htX6 hown hK hP rfl e6 rfl (by decide) (hW _ wd237) rfl dX6_expression_73 ?_
              refine lv_sipush (v := 307) hx hb dX6_expression_76 (by decide) ?_
              refine lv_icmp_ne (tgt := 107) hx hb dX6_expression_79 (by decide) (fun hc => ?_) (fun hc => ?_)
              · have hf := ifn hc hf
                cases hf
                exact Jq2_0 _ (Option.some.inj hn2).symm _ _ _ hP hD hS (lv_sub hl [] rfl)
              · have hf := ifp hc hf
                refine lv_aload_n hx hb dX6_expression_82 rfl (lv_at hl 0 rfl) ?_
                obtain ⟨q4, eq4, hf⟩ := bnd hf
                refine mcVv (rest := []) (Bn := [w6 cs o_r a_r q4, w7 cs (a_r 1) a_g v3.2.2]) (isR := [1]) (isC := [0]) (i0 := 0) ⟨hx, hb, hml, hown, hts⟩ hK hP hD hS hA hG (c6_accept l D cs o_r a_r v3.2.1 H.size _ eq4) (cwV 0 hts (gV wd700 wd702 wd6 wd106 wd703) rfl rfl rfl (by decide +kernel) ⟨by rw [hR]; dsimp only; omega, by rw [hR]; dsimp only; omega⟩) 2 (by decide) rfl rfl rfl rfl rfl rfl rfl e6 rfl rfl rfl hl.1 rfl (Nat.le_of_ble_eq_true rfl) ⟨Nat.zero_le _, Nat.zero_le _⟩ dX6_expression_83 (fun H locs hP hD hS => ?_)
                refine lv_aload_n hx hb dX6_expression_86 rfl (lv_at hl 0 rfl) ?_
                refine lv_iload_n hx hb dX6_expression_87 rfl (lv_at hl 1 rfl) ?_
                obtain ⟨q5, eq5, hf⟩ := bnd hf
                refine mcVv (rest := []) (Bn := [w6 cs o_r a_r q5.1, w7 cs (a_r 1) a_g q5.2]) (isR := []) (isC := [0, 1]) (i0 := 0) ⟨hx, hb, hml, hown, hts⟩ hK hP hD hS hA hG (c6_conjunction l D cs o_r a_r a_g F Lo rec hrec q4 v3.2.2 H.size x1 _ eq5) (cwV 1 hts (gV wd832 wd834 wd17 wd106 wd835) rfl rfl rfl (by decide +kernel) ⟨by rw [hR]; dsimp only; omega, by rw [hR]; dsimp only; omega⟩) 2 (by decide) rfl rfl rfl rfl rfl rfl rfl e6 rfl rfl rfl hl.1 rfl (Nat.le_of_ble_eq_true rfl) ⟨Nat.zero_le _, Nat.zero_le _⟩ dX6_expression_88 (fun H locs hP hD hS => ?_)
                refine lv_aload_n hx hb dX6_expression_91 rfl (lv_at hl 0 rfl) ?_
                refine gfB (i0 := 0) (own := RX6) (T := TX6) (k := 1) (v := .ref (a_r 1)) hx hb htX6 hown hK hP rfl e6 rfl (by decide) (hW _ wd228) rfl dX6_expression_92 ?_
                refine lv_sipush (v := (-307)) hx hb dX6_expression_95 (by decide) ?_
                obtain ⟨q6, eq6, hf⟩ := bnd hf
                refine mcVv (rest := []) (Bn := [w6 cs o_r a_r q5.1, w7 cs (a_r 1) a_g q6]) (isR := [0]) (isC := [1]) (i0 := 1) ⟨hx, hb, hml, hown, hts⟩ hK hP hD hS hA hG (c7_add l D cs (a_r 1) a_g q5.2 H.size ((-307) : Int32) _ eq6) (cwV 1 hts (gV wd856 wd857 wd858 wd108 wd859) rfl rfl rfl (by decide +kernel) ⟨by rw [hR]; dsimp only; omega, by rw [hR]; dsimp only; omega⟩) 2 (by decide) rfl rfl rfl rfl rfl rfl rfl e7 rfl rfl rfl hl.1 rfl (Nat.le_of_ble_eq_true rfl) ⟨Nat.zero_le _, Nat.zero_le _⟩ dX6_expression_98 (fun H locs hP hD hS => ?_)
                refine lv_iinc (v := (v3.1 + 1)) (lv' := [(2, .int (v3.1 + 1)), (0, .ref o_r), (1, .int x1)]) hx hb dX6_expression_101 hl (k := 2) rfl rfl (by decide) rfl (fun ls hl => ?_)
                refine lv_goto (tgt := 58) hx hb dX6_expression_104 (by decide) ?_
                cases hf
                exact ih2 _ hn2 _ _ _ hP hD hS (lv_sub hl [1, 2, 0] rfl)
      exact L2 _ _ hq2 _ _ _ hP hD hS (lv_sub hl [1, 2, 0] rfl)
    · have hf := ifn hc hf
      refine lv_aload_n hx hb dX6_expression_14 rfl (lv_at hl 0 rfl) ?_
      refine lv_aload_n hx hb dX6_expression_15 rfl (lv_at hl 0 rfl) ?_
      refine gfB (i0 := 0) (own := RX6) (T := TX6) (k := 7) (v := .int (s_r.1 7)) hx hb htX6 hown hK hP rfl e6 rfl (by decide) (hW _ wd237) rfl dX6_expression_16 ?_
      refine lv_iconst (v := 2) hx hb dX6_expression_19 (by decide) ?_
      obtain ⟨q7, hq7, hf⟩ := bnd hf
      have Jq7 : ∀ r7 : Int32, q7 = r7 → ∀ (H : Heap) (locs : List Loc) (ls : Array Slot), va_P D vwCl (List.flatten [w6 cs o_r a_r s_r, w7 cs (a_r 1) a_g s_g]) H → va_D A (List.flatten [w6 cs o_r a_r s_r, w7 cs (a_r 1) a_g s_g]) → va_S A s.heap H locs → lv_has ls 3 [] → W p l e R s m args below meth c H locs 0 0 Q (F0 m 47 ls [.int r7, .ref o_r]) := by
        intro r7 eq7 H locs ls hP hD hS hl
        subst eq7
        obtain ⟨q8, eq8, hf⟩ := bnd hf
        refine mcVv (rest := []) (Bn := [w6 cs o_r a_r q8, w7 cs (a_r 1) a_g s_g]) (isR := [1]) (isC := [0]) (i0 := 0) ⟨hx, hb, hml, hown, hts⟩ hK hP hD hS hA hG (c6_fail l D cs o_r a_r s_r H.size q7 _ eq8) (cwV 1 hts (gV wd803 wd805 wd12 wd106 wd806) rfl rfl rfl (by decide +kernel) ⟨by rw [hR]; dsimp only; omega, by rw [hR]; dsimp only; omega⟩) 2 (by decide) rfl rfl rfl rfl rfl rfl rfl e6 rfl rfl rfl hl.1 rfl (Nat.le_of_ble_eq_true rfl) ⟨Nat.zero_le _, Nat.zero_le _⟩ dX6_expression_47 (fun H locs hP hD hS => ?_)
        obtain rfl := Option.some.inj hf
        exact mretV hx hb hr hlocks hK hP hD hS hQ dX6_expression_50
      clear hf
      have hf := hq7
      refine lv_icmp_eq (tgt := 42) hx hb dX6_expression_20 (by decide) (fun hc => ?_) (fun hc => ?_)
      · have hf := ifp hc hf
        refine lv_iconst (v := 2) hx hb dX6_expression_42 (by decide) ?_
        refine lv_goto (tgt := 47) hx hb dX6_expression_43 (by decide) ?_
        exact Jq7 _ (Option.some.inj hf).symm _ _ _ hP hD hS (lv_sub hl [] rfl)
      · have hf := ifn hc hf
        refine lv_aload_n hx hb dX6_expression_23 rfl (lv_at hl 0 rfl) ?_
        refine gfB (i0 := 0) (own := RX6) (T := TX6) (k := 7) (v := .int (s_r.1 7)) hx hb htX6 hown hK hP rfl e6 rfl (by decide) (hW _ wd237) rfl dX6_expression_24 ?_
        refine lv_sipush (v := 300) hx hb dX6_expression_27 (by decide) ?_
        refine lv_icmp_ge (tgt := 42) hx hb dX6_expression_30 (by decide) (fun hc => ?_) (fun hc => ?_)
        · have hf := ifp hc hf
          refine lv_iconst (v := 2) hx hb dX6_expression_42 (by decide) ?_
          refine lv_goto (tgt := 47) hx hb dX6_expression_43 (by decide) ?_
          exact Jq7 _ (Option.some.inj hf).symm _ _ _ hP hD hS (lv_sub hl [] rfl)
        · have hf := ifn hc hf
          refine lv_aload_n hx hb dX6_expression_33 rfl (lv_at hl 0 rfl) ?_
          refine gfB (i0 := 0) (own := RX6) (T := TX6) (k := 7) (v := .int (s_r.1 7)) hx hb htX6 hown hK hP rfl e6 rfl (by decide) (hW _ wd237) rfl dX6_expression_34 ?_
          refine lv_bipush (v := 40) hx hb dX6_expression_37 (by decide) ?_
          refine lv_icmp_ne (tgt := 46) hx hb dX6_expression_39 (by decide) (fun hc => ?_) (fun hc => ?_)
          · have hf := ifn hc hf
            refine lv_iconst (v := 1) hx hb dX6_expression_46 (by decide) ?_
            exact Jq7 _ (Option.some.inj hf).symm _ _ _ hP hD hS (lv_sub hl [] rfl)
          · have hf := ifp hc hf
            refine lv_iconst (v := 2) hx hb dX6_expression_42 (by decide) ?_
            refine lv_goto (tgt := 47) hx hb dX6_expression_43 (by decide) ?_
            exact Jq7 _ (Option.some.inj hf).symm _ _ _ hP hD hS (lv_sub hl [] rfl)
  · have hf := ifn hc hf
    obtain rfl := Option.some.inj hf
    exact mretV hx hb hr hlocks hK hP hD hS hQ dX6_expression_7
theorem c6_expression (l : Launch) (D : va_G) (cs : xE) (o_r : Nat) (a_r : Nat → Nat) (a_g : Nat → Nat) : ∀ (d : Nat) (s_r : St) (s_g : St) (sz : Nat) (x1 : Int32) (res : St × St) (hf : f6_expression d s_r s_g x1 = some res), Met l yX6_expression (Cond.code yX6_expression cX6_expression 3 none :: WG) { frames := 15 * d, cells := 0, slots := 0, locals := 369 * d } (va_Pc [.ref o_r, .int x1] (mP D cs (List.flatten [w6 cs o_r a_r s_r, w7 cs (a_r 1) a_g s_g]) sz)) (qV D cs (List.flatten [w6 cs o_r a_r res.1, w7 cs (a_r 1) a_g res.2]) (va_A (List.flatten [w6 cs o_r a_r s_r, w7 cs (a_r 1) a_g s_g]) sz)) 0 0 (va_A (List.flatten [w6 cs o_r a_r s_r, w7 cs (a_r 1) a_g s_g]) sz) := by
  intro d
  induction d with
  | zero => intro _ _ _ _ _; intro hf; cases hf
  | succ d ih => intro s_r s_g sz x1 res hf; exact c6_expression_b l D cs o_r a_r a_g (15 * d) (369 * d) (f6_expression d) ih s_r s_g sz x1 res hf
/-! TwinLamps$Reader.append -/
noncomputable def f6_append_L1 (x1 : Int32) (v2 : Int32 × St) : Option ((Int32 × St) ⊕ (St)) :=
  if v2.1 < 0 then some (.inr v2.2) else ((if (600 : Int32) ≤ (v2.2.1 2) then some v2.2 else (stS 600 v2.2 4 (v2.2.1 2) (vp_nar .byte ((x1 >>> (v2.1 &&& 31))).toInt8.toInt32)).bind fun s4 =>
  (some (sS s4 2 ((s4.1 2) + 1))).bind fun s5 =>
  some s5 : Option (St))).bind fun q3 =>
  some (.inl ((v2.1 + (-8)), q3))
noncomputable def f6_append (s_r : St) (x1 : Int32) : Option (St) :=
  (lpw (f6_append_L1 x1) (24, s_r)).bind fun q1 =>
  some q1
set_option maxHeartbeats 4000000 in
set_option maxRecDepth 100000 in
theorem c6_append (l : Launch) (D : va_G) (cs : xE) (o_r : Nat) (a_r : Nat → Nat) (s_r : St) (sz : Nat) (x1 : Int32) (res : St) (hf : f6_append s_r x1 = some res) : Met l yX6_append (Cond.code yX6_append cX6_append 3 none :: WG) { frames := 0, cells := 0, slots := 0, locals := 0 } (va_Pc [.ref o_r, .int x1] (mP D cs (List.flatten [w6 cs o_r a_r s_r]) sz)) (qV D cs (List.flatten [w6 cs o_r a_r res]) (va_A (List.flatten [w6 cs o_r a_r s_r]) sz)) 0 0 (va_A (List.flatten [w6 cs o_r a_r s_r]) sz) := by
  refine mgo (Qc := qV D cs (List.flatten [w6 cs o_r a_r res])) (cc := cX6_append) (maxL := 3) (ret := none) (by decide) rfl (Nat.le_of_ble_eq_true rfl) ?_
  intro p e s m below meth c ls A R Q args H hR hQ hx hb hml hr hlocks hown hts hP hK hD hA hS hG hl
  have hown : s.vm.findClass RX6 = some m.cls := hown
  have hl : lv_has ls 3 [(0, .ref o_r), (1, .int x1)] := hl
  have hW : ∀ w ∈ WG, w.before args s = true := fun w h => hts w (List.mem_cons_of_mem _ h)
  have htX6 : ∀ w ∈ u_ws RX6 TX6 12, w.before args s = true := fun w h => hW w (inW_X6 w h)
  unfold f6_append at hf
  refine lv_bipush (v := 24) hx hb dX6_append_0 (by decide) ?_
  refine lv_istore_n (lv' := [(2, .int 24), (0, .ref o_r), (1, .int x1)]) hx hb dX6_append_2 rfl hl (by decide) rfl (fun ls hl => ?_)
  obtain ⟨q1, hq1, hf⟩ := bnd hf
  obtain ⟨n1, hq1⟩ := lpw_ex hq1
  have Jq1_0 : ∀ rr1_0 : St, q1 = rr1_0 → ∀ (H : Heap) (locs : List Loc) (ls : Array Slot), va_P D vwCl (List.flatten [w6 cs o_r a_r rr1_0]) H → va_D A (List.flatten [w6 cs o_r a_r rr1_0]) → va_S A s.heap H locs → lv_has ls 3 [] → W p l e R s m args below meth c H locs 0 0 Q (F0 m 48 ls []) := by
    intro rr1_0 eq1 H locs ls hP hD hS hl
    subst eq1
    obtain rfl := Option.some.inj hf
    exact mretV hx hb hr hlocks hK hP hD hS hQ dX6_append_48
  clear hf
  have L1 : ∀ n1, ∀ v2 : Int32 × St, lp n1 (f6_append_L1 x1) v2 = some q1 → ∀ (H : Heap) (locs : List Loc) (ls : Array Slot), va_P D vwCl (List.flatten [w6 cs o_r a_r v2.2]) H → va_D A (List.flatten [w6 cs o_r a_r v2.2]) → va_S A s.heap H locs → lv_has ls 3 [(0, .ref o_r), (1, .int x1), (2, .int v2.1)] → W p l e R s m args below meth c H locs 0 0 Q (F0 m 3 ls []) := by
    intro n1
    induction n1 with
    | zero => intro v2 hn; cases hn
    | succ n1 ih1 =>
      intro v2 hn1 H locs ls hP hD hS hl
      obtain ⟨y1, hf, hn1⟩ := lp_succ hn1
      unfold f6_append_L1 at hf
      refine lv_iload_n hx hb dX6_append_3 rfl (lv_at hl 2 rfl) ?_
      refine lv_if_lt (tgt := 48) hx hb dX6_append_4 (by decide) (fun hc => ?_) (fun hc => ?_)
      · have hf := ifp hc hf
        cases hf
        exact Jq1_0 _ (Option.some.inj hn1).symm _ _ _ hP hD hS (lv_sub hl [] rfl)
      · have hf := ifn hc hf
        refine lv_aload_n hx hb dX6_append_7 rfl (lv_at hl 0 rfl) ?_
        refine gfB (i0 := 0) (own := RX6) (T := TX6) (k := 2) (v := .int (v2.2.1 2)) hx hb htX6 hown hK hP rfl e6 rfl (by decide) (hW _ wd231) rfl dX6_append_8 ?_
        refine lv_aload_n hx hb dX6_append_11 rfl (lv_at hl 0 rfl) ?_
        refine gfB (i0 := 0) (own := RX6) (T := TX6) (k := 4) (v := .ref (a_r 4)) hx hb htX6 hown hK hP rfl e6 rfl (by decide) (hW _ wd234) rfl dX6_append_12 ?_
        refine alnB (v := 600) (i0 := 0) 1 hx hb hK hP rfl a6_4 rfl (by decide +kernel) dX6_append_15 ?_
        obtain ⟨q3, hq3, hf⟩ := bnd hf
        have Jq3 : ∀ r3 : St, q3 = r3 → ∀ (H : Heap) (locs : List Loc) (ls : Array Slot), va_P D vwCl (List.flatten [w6 cs o_r a_r r3]) H → va_D A (List.flatten [w6 cs o_r a_r r3]) → va_S A s.heap H locs → lv_has ls 3 [(0, .ref o_r), (1, .int x1), (2, .int v2.1)] → W p l e R s m args below meth c H locs 0 0 Q (F0 m 42 ls []) := by
          intro r3 eq3 H locs ls hP hD hS hl
          subst eq3
          refine lv_iinc (v := (v2.1 + (-8))) (lv' := [(2, .int (v2.1 + (-8))), (0, .ref o_r), (1, .int x1)]) hx hb dX6_append_42 hl (k := 2) rfl rfl (by decide) rfl (fun ls hl => ?_)
          refine lv_goto (tgt := 3) hx hb dX6_append_45 (by decide) ?_
          cases hf
          exact ih1 _ hn1 _ _ _ hP hD hS (lv_sub hl [1, 2, 0] rfl)
        clear hf
        have hf := hq3
        refine lv_icmp_ge (tgt := 42) hx hb dX6_append_16 (by decide) (fun hc => ?_) (fun hc => ?_)
        · have hf := ifp hc hf
          exact Jq3 _ (Option.some.inj hf).symm _ _ _ hP hD hS (lv_sub hl [0, 1, 2] rfl)
        · have hf := ifn hc hf
          refine lv_aload_n hx hb dX6_append_19 rfl (lv_at hl 0 rfl) ?_
          refine gfB (i0 := 0) (own := RX6) (T := TX6) (k := 4) (v := .ref (a_r 4)) hx hb htX6 hown hK hP rfl e6 rfl (by decide) (hW _ wd234) rfl dX6_append_20 ?_
          refine lv_aload_n hx hb dX6_append_23 rfl (lv_at hl 0 rfl) ?_
          refine gfB (i0 := 0) (own := RX6) (T := TX6) (k := 2) (v := .int (v2.2.1 2)) hx hb htX6 hown hK hP rfl e6 rfl (by decide) (hW _ wd231) rfl dX6_append_24 ?_
          refine lv_iload_n hx hb dX6_append_27 rfl (lv_at hl 1 rfl) ?_
          refine lv_iload_n hx hb dX6_append_28 rfl (lv_at hl 2 rfl) ?_
          refine lv_ishr hx hb dX6_append_29 ?_
          refine lv_i2b (v := ((x1 >>> (v2.1 &&& 31))).toInt8.toInt32) hx hb dX6_append_30 rfl ?_
          obtain ⟨s4, es4, hf⟩ := bnd hf
          obtain ⟨gs4, es4⟩ := stS_e es4
          refine bstB (i0 := 0) (Bn := [w6 cs o_r a_r s4]) hx hb hK hP hD hS rfl a6_4 gs4 rfl dX6_append_31 (by rw [← es4]; exact v6_4) rfl (fun H locs hP hD hS => ?_)
          refine lv_aload_n hx hb dX6_append_32 rfl (lv_at hl 0 rfl) ?_
          refine lv_dup hx hb dX6_append_33 rfl ?_
          refine gfB (i0 := 0) (own := RX6) (T := TX6) (k := 2) (v := .int (s4.1 2)) hx hb htX6 hown hK hP rfl e6 rfl (by decide) (hW _ wd231) rfl dX6_append_34 ?_
          refine lv_iconst (v := 1) hx hb dX6_append_37 (by decide) ?_
          refine lv_iadd hx hb dX6_append_38 ?_
          obtain ⟨s5, es5, hf⟩ := bnd hf
          replace es5 := Option.some.inj es5
          refine pfB (i0 := 0) (own := RX6) (T := TX6) (k := 2) (Bn := [w6 cs o_r a_r s5]) tyX6 tyX6_ok nmX6 hx hb htX6 hown hK hP hD hS rfl e6 rfl (by decide) (hW _ wd231) rfl rfl rfl (Nat.le_of_ble_eq_true rfl) dX6_append_39 (by rw [← es5]; exact u6_2) rfl (fun H locs hP hD hS => ?_)
          exact Jq3 _ (Option.some.inj hf).symm _ _ _ hP hD hS (lv_sub hl [0, 1, 2] rfl)
  exact L1 _ _ hq1 _ _ _ hP hD hS (lv_sub hl [1, 2, 0] rfl)
/-! TwinLamps$Reader.numberUpTo -/
noncomputable def f6_numberUpTo (s_r : St) (x1 : Int32) (x2 : Int32) : Option (Int32 × St) :=
  ((if (s_r.1 7) = 2 then (if (s_r.1 10) ≤ 4 then (if (s_r.1 11) ≤ x1 then some s_r else (f6_fail s_r x2).bind fun q2 =>
  some q2)
  else (f6_fail s_r (2 : Int32)).bind fun q3 =>
  some q3)
  else (f6_fail s_r (1 : Int32)).bind fun q4 =>
  some q4 : Option (St))).bind fun q1 =>
  if (q1.1 6) = 0 then some ((q1.1 11), q1) else some (0, q1)
set_option maxHeartbeats 4000000 in
set_option maxRecDepth 100000 in
theorem c6_numberUpTo (l : Launch) (D : va_G) (cs : xE) (o_r : Nat) (a_r : Nat → Nat) (s_r : St) (sz : Nat) (x1 : Int32) (x2 : Int32) (res : Int32 × St) (hf : f6_numberUpTo s_r x1 x2 = some res) : Met l yX6_numberUpTo (Cond.code yX6_numberUpTo cX6_numberUpTo 3 (some .int) :: WG) { frames := 1, cells := 0, slots := 0, locals := 21 } (va_Pc [.ref o_r, .int x1, .int x2] (mP D cs (List.flatten [w6 cs o_r a_r s_r]) sz)) (qI D cs res.1 (List.flatten [w6 cs o_r a_r res.2]) (va_A (List.flatten [w6 cs o_r a_r s_r]) sz)) 0 0 (va_A (List.flatten [w6 cs o_r a_r s_r]) sz) := by
  refine mgo (Qc := qI D cs res.1 (List.flatten [w6 cs o_r a_r res.2])) (cc := cX6_numberUpTo) (maxL := 3) (ret := (some .int)) (by decide) rfl (Nat.le_of_ble_eq_true rfl) ?_
  intro p e s m below meth c ls A R Q args H hR hQ hx hb hml hr hlocks hown hts hP hK hD hA hS hG hl
  have hown : s.vm.findClass RX6 = some m.cls := hown
  have hl : lv_has ls 3 [(0, .ref o_r), (1, .int x1), (2, .int x2)] := hl
  have hW : ∀ w ∈ WG, w.before args s = true := fun w h => hts w (List.mem_cons_of_mem _ h)
  have htX6 : ∀ w ∈ u_ws RX6 TX6 12, w.before args s = true := fun w h => hW w (inW_X6 w h)
  unfold f6_numberUpTo at hf
  refine lv_aload_n hx hb dX6_numberUpTo_0 rfl (lv_at hl 0 rfl) ?_
  refine gfB (i0 := 0) (own := RX6) (T := TX6) (k := 7) (v := .int (s_r.1 7)) hx hb htX6 hown hK hP rfl e6 rfl (by decide) (hW _ wd237) rfl dX6_numberUpTo_1 ?_
  refine lv_iconst (v := 2) hx hb dX6_numberUpTo_4 (by decide) ?_
  obtain ⟨q1, hq1, hf⟩ := bnd hf
  have Jq1 : ∀ r1 : St, q1 = r1 → ∀ (H : Heap) (locs : List Loc) (ls : Array Slot), va_P D vwCl (List.flatten [w6 cs o_r a_r r1]) H → va_D A (List.flatten [w6 cs o_r a_r r1]) → va_S A s.heap H locs → lv_has ls 3 [(0, .ref o_r)] → W p l e R s m args below meth c H locs 0 0 Q (F0 m 45 ls []) := by
    intro r1 eq1 H locs ls hP hD hS hl
    subst eq1
    refine lv_aload_n hx hb dX6_numberUpTo_45 rfl (lv_at hl 0 rfl) ?_
    refine gfB (i0 := 0) (own := RX6) (T := TX6) (k := 6) (v := .int (q1.1 6)) hx hb htX6 hown hK hP rfl e6 rfl (by decide) (hW _ wd236) rfl dX6_numberUpTo_46 ?_
    refine lv_if_ne (tgt := 59) hx hb dX6_numberUpTo_49 (by decide) (fun hc => ?_) (fun hc => ?_)
    · have hf := ifn hc hf
      refine lv_iconst (v := 0) hx hb dX6_numberUpTo_59 (by decide) ?_
      obtain rfl := Option.some.inj hf
      exact mretI hx hb hr hlocks hK hP hD hS rfl hQ dX6_numberUpTo_60
    · have hf := ifp hc hf
      refine lv_aload_n hx hb dX6_numberUpTo_52 rfl (lv_at hl 0 rfl) ?_
      refine gfB (i0 := 0) (own := RX6) (T := TX6) (k := 11) (v := .int (q1.1 11)) hx hb htX6 hown hK hP rfl e6 rfl (by decide) (hW _ wd241) rfl dX6_numberUpTo_53 ?_
      refine lv_goto (tgt := 60) hx hb dX6_numberUpTo_56 (by decide) ?_
      obtain rfl := Option.some.inj hf
      exact mretI hx hb hr hlocks hK hP hD hS rfl hQ dX6_numberUpTo_60
  clear hf
  have hf := hq1
  refine lv_icmp_eq (tgt := 16) hx hb dX6_numberUpTo_5 (by decide) (fun hc => ?_) (fun hc => ?_)
  · have hf := ifp hc hf
    refine lv_aload_n hx hb dX6_numberUpTo_16 rfl (lv_at hl 0 rfl) ?_
    refine gfB (i0 := 0) (own := RX6) (T := TX6) (k := 10) (v := .int (s_r.1 10)) hx hb htX6 hown hK hP rfl e6 rfl (by decide) (hW _ wd240) rfl dX6_numberUpTo_17 ?_
    refine lv_iconst (v := 4) hx hb dX6_numberUpTo_20 (by decide) ?_
    refine lv_icmp_le (tgt := 32) hx hb dX6_numberUpTo_21 (by decide) (fun hc => ?_) (fun hc => ?_)
    · have hf := ifp hc hf
      refine lv_aload_n hx hb dX6_numberUpTo_32 rfl (lv_at hl 0 rfl) ?_
      refine gfB (i0 := 0) (own := RX6) (T := TX6) (k := 11) (v := .int (s_r.1 11)) hx hb htX6 hown hK hP rfl e6 rfl (by decide) (hW _ wd241) rfl dX6_numberUpTo_33 ?_
      refine lv_iload_n hx hb dX6_numberUpTo_36 rfl (lv_at hl 1 rfl) ?_
      refine lv_icmp_le (tgt := 45) hx hb dX6_numberUpTo_37 (by decide) (fun hc => ?_) (fun hc => ?_)
      · have hf := ifp hc hf
        exact Jq1 _ (Option.some.inj hf).symm _ _ _ hP hD hS (lv_sub hl [0] rfl)
      · have hf := ifn hc hf
        refine lv_aload_n hx hb dX6_numberUpTo_40 rfl (lv_at hl 0 rfl) ?_
        refine lv_iload_n hx hb dX6_numberUpTo_41 rfl (lv_at hl 2 rfl) ?_
        obtain ⟨q2, eq2, hf⟩ := bnd hf
        refine mcVv (rest := []) (Bn := [w6 cs o_r a_r q2]) (isR := []) (isC := [0]) (i0 := 0) ⟨hx, hb, hml, hown, hts⟩ hK hP hD hS hA hG (c6_fail l D cs o_r a_r s_r H.size x2 _ eq2) (cwV 1 hts (gV wd803 wd805 wd12 wd106 wd806) rfl rfl rfl (by decide +kernel) ⟨by rw [hR]; exact Nat.le_of_ble_eq_true rfl, by rw [hR]; exact Nat.le_of_ble_eq_true rfl⟩) 1 (by decide) rfl rfl rfl rfl rfl rfl rfl e6 rfl rfl rfl hl.1 rfl (Nat.le_of_ble_eq_true rfl) ⟨Nat.zero_le _, Nat.zero_le _⟩ dX6_numberUpTo_42 (fun H locs hP hD hS => ?_)
        exact Jq1 _ (Option.some.inj hf).symm _ _ _ hP hD hS (lv_sub hl [0] rfl)
    · have hf := ifn hc hf
      refine lv_aload_n hx hb dX6_numberUpTo_24 rfl (lv_at hl 0 rfl) ?_
      refine lv_iconst (v := 2) hx hb dX6_numberUpTo_25 (by decide) ?_
      obtain ⟨q3, eq3, hf⟩ := bnd hf
      refine mcVv (rest := []) (Bn := [w6 cs o_r a_r q3]) (isR := []) (isC := [0]) (i0 := 0) ⟨hx, hb, hml, hown, hts⟩ hK hP hD hS hA hG (c6_fail l D cs o_r a_r s_r H.size (2 : Int32) _ eq3) (cwV 1 hts (gV wd803 wd805 wd12 wd106 wd806) rfl rfl rfl (by decide +kernel) ⟨by rw [hR]; exact Nat.le_of_ble_eq_true rfl, by rw [hR]; exact Nat.le_of_ble_eq_true rfl⟩) 1 (by decide) rfl rfl rfl rfl rfl rfl rfl e6 rfl rfl rfl hl.1 rfl (Nat.le_of_ble_eq_true rfl) ⟨Nat.zero_le _, Nat.zero_le _⟩ dX6_numberUpTo_26 (fun H locs hP hD hS => ?_)
      refine lv_goto (tgt := 45) hx hb dX6_numberUpTo_29 (by decide) ?_
      exact Jq1 _ (Option.some.inj hf).symm _ _ _ hP hD hS (lv_sub hl [0] rfl)
  · have hf := ifn hc hf
    refine lv_aload_n hx hb dX6_numberUpTo_8 rfl (lv_at hl 0 rfl) ?_
    refine lv_iconst (v := 1) hx hb dX6_numberUpTo_9 (by decide) ?_
    obtain ⟨q4, eq4, hf⟩ := bnd hf
    refine mcVv (rest := []) (Bn := [w6 cs o_r a_r q4]) (isR := []) (isC := [0]) (i0 := 0) ⟨hx, hb, hml, hown, hts⟩ hK hP hD hS hA hG (c6_fail l D cs o_r a_r s_r H.size (1 : Int32) _ eq4) (cwV 1 hts (gV wd803 wd805 wd12 wd106 wd806) rfl rfl rfl (by decide +kernel) ⟨by rw [hR]; exact Nat.le_of_ble_eq_true rfl, by rw [hR]; exact Nat.le_of_ble_eq_true rfl⟩) 1 (by decide) rfl rfl rfl rfl rfl rfl rfl e6 rfl rfl rfl hl.1 rfl (Nat.le_of_ble_eq_true rfl) ⟨Nat.zero_le _, Nat.zero_le _⟩ dX6_numberUpTo_10 (fun H locs hP hD hS => ?_)
    refine lv_goto (tgt := 45) hx hb dX6_numberUpTo_13 (by decide) ?_
    exact Jq1 _ (Option.some.inj hf).symm _ _ _ hP hD hS (lv_sub hl [0] rfl)
/-! TwinLamps$Reader.houseLine -/
noncomputable def f6_houseLine (s_r : St) (s_t : St) (x1 : Int32) : Option (St × St) :=
  ((if (s_t.1 0) < 8 then some s_r else (f6_fail s_r (2 : Int32)).bind fun q2 =>
  some q2 : Option (St))).bind fun q1 =>
  (f6_accept q1).bind fun q3 =>
  (f6_numberUpTo q3 (23 : Int32) (2 : Int32)).bind fun q4 =>
  (f6_accept q4.2).bind fun q5 =>
  (f6_numberUpTo q5 (23 : Int32) (2 : Int32)).bind fun q6 =>
  (f6_accept q6.2).bind fun q7 =>
  ((if (q7.1 6) = 0 then ((f9_addHouse s_t x1 q4.1 q6.1).bind fun q9 =>
  some q9)
  else some s_t : Option (St))).bind fun q8 =>
  some (q7, q8)
set_option maxHeartbeats 4000000 in
set_option maxRecDepth 100000 in
theorem c6_houseLine (l : Launch) (D : va_G) (cs : xE) (o_r : Nat) (a_r : Nat → Nat) (a_t : Nat → Nat) (s_r : St) (s_t : St) (sz : Nat) (x1 : Int32) (res : St × St) (hf : f6_houseLine s_r s_t x1 = some res) : Met l yX6_houseLine (Cond.code yX6_houseLine cX6_houseLine 4 none :: WG) { frames := 8, cells := 0, slots := 0, locals := 214 } (va_Pc [.ref o_r, .int x1] (mP D cs (List.flatten [w6 cs o_r a_r s_r, w9 cs (a_r 0) a_t s_t]) sz)) (qV D cs (List.flatten [w6 cs o_r a_r res.1, w9 cs (a_r 0) a_t res.2]) (va_A (List.flatten [w6 cs o_r a_r s_r, w9 cs (a_r 0) a_t s_t]) sz)) 0 0 (va_A (List.flatten [w6 cs o_r a_r s_r, w9 cs (a_r 0) a_t s_t]) sz) := by
  refine mgo (Qc := qV D cs (List.flatten [w6 cs o_r a_r res.1, w9 cs (a_r 0) a_t res.2])) (cc := cX6_houseLine) (maxL := 4) (ret := none) (by decide) rfl (Nat.le_of_ble_eq_true rfl) ?_
  intro p e s m below meth c ls A R Q args H hR hQ hx hb hml hr hlocks hown hts hP hK hD hA hS hG hl
  have hown : s.vm.findClass RX6 = some m.cls := hown
  have hl : lv_has ls 4 [(0, .ref o_r), (1, .int x1)] := hl
  have hW : ∀ w ∈ WG, w.before args s = true := fun w h => hts w (List.mem_cons_of_mem _ h)
  have htX6 : ∀ w ∈ u_ws RX6 TX6 12, w.before args s = true := fun w h => hW w (inW_X6 w h)
  have htX9 : ∀ w ∈ u_ws RX9 TX9 11, w.before args s = true := fun w h => hW w (inW_X9 w h)
  unfold f6_houseLine at hf
  refine lv_aload_n hx hb dX6_houseLine_0 rfl (lv_at hl 0 rfl) ?_
  refine gfB (i0 := 0) (own := RX6) (T := TX6) (k := 0) (v := .ref (a_r 0)) hx hb htX6 hown hK hP rfl e6 rfl (by decide) (hW _ wd226) rfl dX6_houseLine_1 ?_
  refine gfB (i0 := 1) (own := RX6) (T := TX9) (k := 0) (v := .int (s_t.1 0)) hx hb htX9 hown hK hP rfl e9 rfl (by decide) (hW _ wd151) rfl dX6_houseLine_4 ?_
  refine lv_bipush (v := 8) hx hb dX6_houseLine_7 (by decide) ?_
  obtain ⟨q1, hq1, hf⟩ := bnd hf
  have Jq1 : ∀ r1 : St, q1 = r1 → ∀ (H : Heap) (locs : List Loc) (ls : Array Slot), va_P D vwCl (List.flatten [w6 cs o_r a_r r1, w9 cs (a_r 0) a_t s_t]) H → va_D A (List.flatten [w6 cs o_r a_r r1, w9 cs (a_r 0) a_t s_t]) → va_S A s.heap H locs → lv_has ls 4 [(0, .ref o_r), (1, .int x1)] → W p l e R s m args below meth c H locs 0 0 Q (F0 m 17 ls []) := by
    intro r1 eq1 H locs ls hP hD hS hl
    subst eq1
    refine lv_aload_n hx hb dX6_houseLine_17 rfl (lv_at hl 0 rfl) ?_
    obtain ⟨q3, eq3, hf⟩ := bnd hf
    refine mcVv (rest := []) (Bn := [w6 cs o_r a_r q3, w9 cs (a_r 0) a_t s_t]) (isR := [1]) (isC := [0]) (i0 := 0) ⟨hx, hb, hml, hown, hts⟩ hK hP hD hS hA hG (c6_accept l D cs o_r a_r q1 H.size _ eq3) (cwV 0 hts (gV wd700 wd702 wd6 wd106 wd703) rfl rfl rfl (by decide +kernel) ⟨by rw [hR]; exact Nat.le_of_ble_eq_true rfl, by rw [hR]; exact Nat.le_of_ble_eq_true rfl⟩) 2 (by decide) rfl rfl rfl rfl rfl rfl rfl e6 rfl rfl rfl hl.1 rfl (Nat.le_of_ble_eq_true rfl) ⟨Nat.zero_le _, Nat.zero_le _⟩ dX6_houseLine_18 (fun H locs hP hD hS => ?_)
    refine lv_aload_n hx hb dX6_houseLine_21 rfl (lv_at hl 0 rfl) ?_
    refine lv_bipush (v := 23) hx hb dX6_houseLine_22 (by decide) ?_
    refine lv_iconst (v := 2) hx hb dX6_houseLine_24 (by decide) ?_
    obtain ⟨q4, eq4, hf⟩ := bnd hf
    refine mcVi (v := q4.1) (rest := []) (Bn := [w6 cs o_r a_r q4.2, w9 cs (a_r 0) a_t s_t]) (isR := [1]) (isC := [0]) (i0 := 0) ⟨hx, hb, hml, hown, hts⟩ hK hP hD hS hA hG (c6_numberUpTo l D cs o_r a_r q3 H.size (23 : Int32) (2 : Int32) _ eq4) (cwV 2 hts (gV wd807 wd809 wd13 wd106 wd810) rfl rfl rfl (by decide +kernel) ⟨by rw [hR]; exact Nat.le_of_ble_eq_true rfl, by rw [hR]; exact Nat.le_of_ble_eq_true rfl⟩) 2 (by decide) rfl rfl rfl rfl rfl rfl rfl e6 rfl rfl rfl hl.1 rfl (Nat.le_of_ble_eq_true rfl) ⟨Nat.zero_le _, Nat.zero_le _⟩ dX6_houseLine_25 (fun H locs hP hD hS => ?_)
    refine lv_istore_n (lv' := [(2, .int q4.1), (0, .ref o_r), (1, .int x1)]) hx hb dX6_houseLine_28 rfl hl (by decide) rfl (fun ls hl => ?_)
    refine lv_aload_n hx hb dX6_houseLine_29 rfl (lv_at hl 1 rfl) ?_
    obtain ⟨q5, eq5, hf⟩ := bnd hf
    refine mcVv (rest := []) (Bn := [w6 cs o_r a_r q5, w9 cs (a_r 0) a_t s_t]) (isR := [1]) (isC := [0]) (i0 := 0) ⟨hx, hb, hml, hown, hts⟩ hK hP hD hS hA hG (c6_accept l D cs o_r a_r q4.2 H.size _ eq5) (cwV 0 hts (gV wd700 wd702 wd6 wd106 wd703) rfl rfl rfl (by decide +kernel) ⟨by rw [hR]; exact Nat.le_of_ble_eq_true rfl, by rw [hR]; exact Nat.le_of_ble_eq_true rfl⟩) 2 (by decide) rfl rfl rfl rfl rfl rfl rfl e6 rfl rfl rfl hl.1 rfl (Nat.le_of_ble_eq_true rfl) ⟨Nat.zero_le _, Nat.zero_le _⟩ dX6_houseLine_30 (fun H locs hP hD hS => ?_)
    refine lv_aload_n hx hb dX6_houseLine_33 rfl (lv_at hl 1 rfl) ?_
    refine lv_bipush (v := 23) hx hb dX6_houseLine_34 (by decide) ?_
    refine lv_iconst (v := 2) hx hb dX6_houseLine_36 (by decide) ?_
    obtain ⟨q6, eq6, hf⟩ := bnd hf
    refine mcVi (v := q6.1) (rest := []) (Bn := [w6 cs o_r a_r q6.2, w9 cs (a_r 0) a_t s_t]) (isR := [1]) (isC := [0]) (i0 := 0) ⟨hx, hb, hml, hown, hts⟩ hK hP hD hS hA hG (c6_numberUpTo l D cs o_r a_r q5 H.size (23 : Int32) (2 : Int32) _ eq6) (cwV 2 hts (gV wd807 wd809 wd13 wd106 wd810) rfl rfl rfl (by decide +kernel) ⟨by rw [hR]; exact Nat.le_of_ble_eq_true rfl, by rw [hR]; exact Nat.le_of_ble_eq_true rfl⟩) 2 (by decide) rfl rfl rfl rfl rfl rfl rfl e6 rfl rfl rfl hl.1 rfl (Nat.le_of_ble_eq_true rfl) ⟨Nat.zero_le _, Nat.zero_le _⟩ dX6_houseLine_37 (fun H locs hP hD hS => ?_)
    refine lv_istore_n (lv' := [(3, .int q6.1), (2, .int q4.1), (0, .ref o_r), (1, .int x1)]) hx hb dX6_houseLine_40 rfl hl (by decide) rfl (fun ls hl => ?_)
    refine lv_aload_n hx hb dX6_houseLine_41 rfl (lv_at hl 2 rfl) ?_
    obtain ⟨q7, eq7, hf⟩ := bnd hf
    refine mcVv (rest := []) (Bn := [w6 cs o_r a_r q7, w9 cs (a_r 0) a_t s_t]) (isR := [1]) (isC := [0]) (i0 := 0) ⟨hx, hb, hml, hown, hts⟩ hK hP hD hS hA hG (c6_accept l D cs o_r a_r q6.2 H.size _ eq7) (cwV 0 hts (gV wd700 wd702 wd6 wd106 wd703) rfl rfl rfl (by decide +kernel) ⟨by rw [hR]; exact Nat.le_of_ble_eq_true rfl, by rw [hR]; exact Nat.le_of_ble_eq_true rfl⟩) 2 (by decide) rfl rfl rfl rfl rfl rfl rfl e6 rfl rfl rfl hl.1 rfl (Nat.le_of_ble_eq_true rfl) ⟨Nat.zero_le _, Nat.zero_le _⟩ dX6_houseLine_42 (fun H locs hP hD hS => ?_)
    refine lv_aload_n hx hb dX6_houseLine_45 rfl (lv_at hl 2 rfl) ?_
    refine gfB (i0 := 0) (own := RX6) (T := TX6) (k := 6) (v := .int (q7.1 6)) hx hb htX6 hown hK hP rfl e6 rfl (by decide) (hW _ wd236) rfl dX6_houseLine_46 ?_
    obtain ⟨q8, hq8, hf⟩ := bnd hf
    have Jq8 : ∀ r8 : St, q8 = r8 → ∀ (H : Heap) (locs : List Loc) (ls : Array Slot), va_P D vwCl (List.flatten [w6 cs o_r a_r q7, w9 cs (a_r 0) a_t r8]) H → va_D A (List.flatten [w6 cs o_r a_r q7, w9 cs (a_r 0) a_t r8]) → va_S A s.heap H locs → lv_has ls 4 [] → W p l e R s m args below meth c H locs 0 0 Q (F0 m 62 ls []) := by
      intro r8 eq8 H locs ls hP hD hS hl
      subst eq8
      obtain rfl := Option.some.inj hf
      exact mretV hx hb hr hlocks hK hP hD hS hQ dX6_houseLine_62
    clear hf
    have hf := hq8
    refine lv_if_ne (tgt := 62) hx hb dX6_houseLine_49 (by decide) (fun hc => ?_) (fun hc => ?_)
    · have hf := ifn hc hf
      exact Jq8 _ (Option.some.inj hf).symm _ _ _ hP hD hS (lv_sub hl [] rfl)
    · have hf := ifp hc hf
      refine lv_aload_n hx hb dX6_houseLine_52 rfl (lv_at hl 2 rfl) ?_
      refine gfB (i0 := 0) (own := RX6) (T := TX6) (k := 0) (v := .ref (a_r 0)) hx hb htX6 hown hK hP rfl e6 rfl (by decide) (hW _ wd226) rfl dX6_houseLine_53 ?_
      refine lv_iload_n hx hb dX6_houseLine_56 rfl (lv_at hl 3 rfl) ?_
      refine lv_iload_n hx hb dX6_houseLine_57 rfl (lv_at hl 1 rfl) ?_
      refine lv_iload_n hx hb dX6_houseLine_58 rfl (lv_at hl 0 rfl) ?_
      obtain ⟨q9, eq9, hf⟩ := bnd hf
      refine mcVv (rest := []) (Bn := [w6 cs o_r a_r q7, w9 cs (a_r 0) a_t q9]) (isR := [0]) (isC := [1]) (i0 := 1) ⟨hx, hb, hml, hown, hts⟩ hK hP hD hS hA hG (c9_addHouse l D cs (a_r 0) a_t s_t H.size x1 q4.1 q6.1 _ eq9) (cwV 3 hts (gV wd811 wd812 wd813 wd107 wd814) rfl rfl rfl (by decide +kernel) ⟨by rw [hR]; exact Nat.le_of_ble_eq_true rfl, by rw [hR]; exact Nat.le_of_ble_eq_true rfl⟩) 2 (by decide) rfl rfl rfl rfl rfl rfl rfl e9 rfl rfl rfl hl.1 rfl (Nat.le_of_ble_eq_true rfl) ⟨Nat.zero_le _, Nat.zero_le _⟩ dX6_houseLine_59 (fun H locs hP hD hS => ?_)
      exact Jq8 _ (Option.some.inj hf).symm _ _ _ hP hD hS (lv_sub hl [] rfl)
  clear hf
  have hf := hq1
  refine lv_icmp_lt (tgt := 17) hx hb dX6_houseLine_9 (by decide) (fun hc => ?_) (fun hc => ?_)
  · have hf := ifp hc hf
    exact Jq1 _ (Option.some.inj hf).symm _ _ _ hP hD hS (lv_sub hl [0, 1] rfl)
  · have hf := ifn hc hf
    refine lv_aload_n hx hb dX6_houseLine_12 rfl (lv_at hl 0 rfl) ?_
    refine lv_iconst (v := 2) hx hb dX6_houseLine_13 (by decide) ?_
    obtain ⟨q2, eq2, hf⟩ := bnd hf
    refine mcVv (rest := []) (Bn := [w6 cs o_r a_r q2, w9 cs (a_r 0) a_t s_t]) (isR := [1]) (isC := [0]) (i0 := 0) ⟨hx, hb, hml, hown, hts⟩ hK hP hD hS hA hG (c6_fail l D cs o_r a_r s_r H.size (2 : Int32) _ eq2) (cwV 1 hts (gV wd803 wd805 wd12 wd106 wd806) rfl rfl rfl (by decide +kernel) ⟨by rw [hR]; exact Nat.le_of_ble_eq_true rfl, by rw [hR]; exact Nat.le_of_ble_eq_true rfl⟩) 2 (by decide) rfl rfl rfl rfl rfl rfl rfl e6 rfl rfl rfl hl.1 rfl (Nat.le_of_ble_eq_true rfl) ⟨Nat.zero_le _, Nat.zero_le _⟩ dX6_houseLine_14 (fun H locs hP hD hS => ?_)
    exact Jq1 _ (Option.some.inj hf).symm _ _ _ hP hD hS (lv_sub hl [0, 1] rfl)
/-! TwinLamps$Reader.lampLine -/
noncomputable def f6_lampLine (s_r : St) (s_t : St) : Option (St × St) :=
  ((if (s_t.1 1) < 12 then some s_r else (f6_fail s_r (2 : Int32)).bind fun q2 =>
  some q2 : Option (St))).bind fun q1 =>
  (f6_accept q1).bind fun q3 =>
  (f6_numberUpTo q3 ((s_t.1 0) - 1) (3 : Int32)).bind fun q4 =>
  (f6_accept q4.2).bind fun q5 =>
  (f6_numberUpTo q5 (99 : Int32) (2 : Int32)).bind fun q6 =>
  (f6_accept q6.2).bind fun q7 =>
  ((if (q7.1 6) = 0 then ((f9_addLamp s_t q4.1 q6.1).bind fun q9 =>
  some q9)
  else some s_t : Option (St))).bind fun q8 =>
  some (q7, q8)
set_option maxHeartbeats 4000000 in
set_option maxRecDepth 100000 in
theorem c6_lampLine (l : Launch) (D : va_G) (cs : xE) (o_r : Nat) (a_r : Nat → Nat) (a_t : Nat → Nat) (s_r : St) (s_t : St) (sz : Nat) (res : St × St) (hf : f6_lampLine s_r s_t = some res) : Met l yX6_lampLine (Cond.code yX6_lampLine cX6_lampLine 3 none :: WG) { frames := 8, cells := 0, slots := 0, locals := 214 } (va_Pc [.ref o_r] (mP D cs (List.flatten [w6 cs o_r a_r s_r, w9 cs (a_r 0) a_t s_t]) sz)) (qV D cs (List.flatten [w6 cs o_r a_r res.1, w9 cs (a_r 0) a_t res.2]) (va_A (List.flatten [w6 cs o_r a_r s_r, w9 cs (a_r 0) a_t s_t]) sz)) 0 0 (va_A (List.flatten [w6 cs o_r a_r s_r, w9 cs (a_r 0) a_t s_t]) sz) := by
  refine mgo (Qc := qV D cs (List.flatten [w6 cs o_r a_r res.1, w9 cs (a_r 0) a_t res.2])) (cc := cX6_lampLine) (maxL := 3) (ret := none) (by decide) rfl (Nat.le_of_ble_eq_true rfl) ?_
  intro p e s m below meth c ls A R Q args H hR hQ hx hb hml hr hlocks hown hts hP hK hD hA hS hG hl
  have hown : s.vm.findClass RX6 = some m.cls := hown
  have hl : lv_has ls 3 [(0, .ref o_r)] := hl
  have hW : ∀ w ∈ WG, w.before args s = true := fun w h => hts w (List.mem_cons_of_mem _ h)
  have htX6 : ∀ w ∈ u_ws RX6 TX6 12, w.before args s = true := fun w h => hW w (inW_X6 w h)
  have htX9 : ∀ w ∈ u_ws RX9 TX9 11, w.before args s = true := fun w h => hW w (inW_X9 w h)
  unfold f6_lampLine at hf
  refine lv_aload_n hx hb dX6_lampLine_0 rfl (lv_at hl 0 rfl) ?_
  refine gfB (i0 := 0) (own := RX6) (T := TX6) (k := 0) (v := .ref (a_r 0)) hx hb htX6 hown hK hP rfl e6 rfl (by decide) (hW _ wd226) rfl dX6_lampLine_1 ?_
  refine gfB (i0 := 1) (own := RX6) (T := TX9) (k := 1) (v := .int (s_t.1 1)) hx hb htX9 hown hK hP rfl e9 rfl (by decide) (hW _ wd156) rfl dX6_lampLine_4 ?_
  refine lv_bipush (v := 12) hx hb dX6_lampLine_7 (by decide) ?_
  obtain ⟨q1, hq1, hf⟩ := bnd hf
  have Jq1 : ∀ r1 : St, q1 = r1 → ∀ (H : Heap) (locs : List Loc) (ls : Array Slot), va_P D vwCl (List.flatten [w6 cs o_r a_r r1, w9 cs (a_r 0) a_t s_t]) H → va_D A (List.flatten [w6 cs o_r a_r r1, w9 cs (a_r 0) a_t s_t]) → va_S A s.heap H locs → lv_has ls 3 [(0, .ref o_r)] → W p l e R s m args below meth c H locs 0 0 Q (F0 m 17 ls []) := by
    intro r1 eq1 H locs ls hP hD hS hl
    subst eq1
    refine lv_aload_n hx hb dX6_lampLine_17 rfl (lv_at hl 0 rfl) ?_
    obtain ⟨q3, eq3, hf⟩ := bnd hf
    refine mcVv (rest := []) (Bn := [w6 cs o_r a_r q3, w9 cs (a_r 0) a_t s_t]) (isR := [1]) (isC := [0]) (i0 := 0) ⟨hx, hb, hml, hown, hts⟩ hK hP hD hS hA hG (c6_accept l D cs o_r a_r q1 H.size _ eq3) (cwV 0 hts (gV wd700 wd702 wd6 wd106 wd703) rfl rfl rfl (by decide +kernel) ⟨by rw [hR]; exact Nat.le_of_ble_eq_true rfl, by rw [hR]; exact Nat.le_of_ble_eq_true rfl⟩) 2 (by decide) rfl rfl rfl rfl rfl rfl rfl e6 rfl rfl rfl hl.1 rfl (Nat.le_of_ble_eq_true rfl) ⟨Nat.zero_le _, Nat.zero_le _⟩ dX6_lampLine_18 (fun H locs hP hD hS => ?_)
    refine lv_aload_n hx hb dX6_lampLine_21 rfl (lv_at hl 0 rfl) ?_
    refine lv_aload_n hx hb dX6_lampLine_22 rfl (lv_at hl 0 rfl) ?_
    refine gfB (i0 := 0) (own := RX6) (T := TX6) (k := 0) (v := .ref (a_r 0)) hx hb htX6 hown hK hP rfl e6 rfl (by decide) (hW _ wd226) rfl dX6_lampLine_23 ?_
    refine gfB (i0 := 1) (own := RX6) (T := TX9) (k := 0) (v := .int (s_t.1 0)) hx hb htX9 hown hK hP rfl e9 rfl (by decide) (hW _ wd151) rfl dX6_lampLine_26 ?_
    refine lv_iconst (v := 1) hx hb dX6_lampLine_29 (by decide) ?_
    refine lv_isub hx hb dX6_lampLine_30 ?_
    refine lv_iconst (v := 3) hx hb dX6_lampLine_31 (by decide) ?_
    obtain ⟨q4, eq4, hf⟩ := bnd hf
    refine mcVi (v := q4.1) (rest := []) (Bn := [w6 cs o_r a_r q4.2, w9 cs (a_r 0) a_t s_t]) (isR := [1]) (isC := [0]) (i0 := 0) ⟨hx, hb, hml, hown, hts⟩ hK hP hD hS hA hG (c6_numberUpTo l D cs o_r a_r q3 H.size ((s_t.1 0) - 1) (3 : Int32) _ eq4) (cwV 2 hts (gV wd807 wd809 wd13 wd106 wd810) rfl rfl rfl (by decide +kernel) ⟨by rw [hR]; exact Nat.le_of_ble_eq_true rfl, by rw [hR]; exact Nat.le_of_ble_eq_true rfl⟩) 2 (by decide) rfl rfl rfl rfl rfl rfl rfl e6 rfl rfl rfl hl.1 rfl (Nat.le_of_ble_eq_true rfl) ⟨Nat.zero_le _, Nat.zero_le _⟩ dX6_lampLine_32 (fun H locs hP hD hS => ?_)
    refine lv_istore_n (lv' := [(1, .int q4.1), (0, .ref o_r)]) hx hb dX6_lampLine_35 rfl hl (by decide) rfl (fun ls hl => ?_)
    refine lv_aload_n hx hb dX6_lampLine_36 rfl (lv_at hl 1 rfl) ?_
    obtain ⟨q5, eq5, hf⟩ := bnd hf
    refine mcVv (rest := []) (Bn := [w6 cs o_r a_r q5, w9 cs (a_r 0) a_t s_t]) (isR := [1]) (isC := [0]) (i0 := 0) ⟨hx, hb, hml, hown, hts⟩ hK hP hD hS hA hG (c6_accept l D cs o_r a_r q4.2 H.size _ eq5) (cwV 0 hts (gV wd700 wd702 wd6 wd106 wd703) rfl rfl rfl (by decide +kernel) ⟨by rw [hR]; exact Nat.le_of_ble_eq_true rfl, by rw [hR]; exact Nat.le_of_ble_eq_true rfl⟩) 2 (by decide) rfl rfl rfl rfl rfl rfl rfl e6 rfl rfl rfl hl.1 rfl (Nat.le_of_ble_eq_true rfl) ⟨Nat.zero_le _, Nat.zero_le _⟩ dX6_lampLine_37 (fun H locs hP hD hS => ?_)
    refine lv_aload_n hx hb dX6_lampLine_40 rfl (lv_at hl 1 rfl) ?_
    refine lv_bipush (v := 99) hx hb dX6_lampLine_41 (by decide) ?_
    refine lv_iconst (v := 2) hx hb dX6_lampLine_43 (by decide) ?_
    obtain ⟨q6, eq6, hf⟩ := bnd hf
    refine mcVi (v := q6.1) (rest := []) (Bn := [w6 cs o_r a_r q6.2, w9 cs (a_r 0) a_t s_t]) (isR := [1]) (isC := [0]) (i0 := 0) ⟨hx, hb, hml, hown, hts⟩ hK hP hD hS hA hG (c6_numberUpTo l D cs o_r a_r q5 H.size (99 : Int32) (2 : Int32) _ eq6) (cwV 2 hts (gV wd807 wd809 wd13 wd106 wd810) rfl rfl rfl (by decide +kernel) ⟨by rw [hR]; exact Nat.le_of_ble_eq_true rfl, by rw [hR]; exact Nat.le_of_ble_eq_true rfl⟩) 2 (by decide) rfl rfl rfl rfl rfl rfl rfl e6 rfl rfl rfl hl.1 rfl (Nat.le_of_ble_eq_true rfl) ⟨Nat.zero_le _, Nat.zero_le _⟩ dX6_lampLine_44 (fun H locs hP hD hS => ?_)
    refine lv_istore_n (lv' := [(2, .int q6.1), (1, .int q4.1), (0, .ref o_r)]) hx hb dX6_lampLine_47 rfl hl (by decide) rfl (fun ls hl => ?_)
    refine lv_aload_n hx hb dX6_lampLine_48 rfl (lv_at hl 2 rfl) ?_
    obtain ⟨q7, eq7, hf⟩ := bnd hf
    refine mcVv (rest := []) (Bn := [w6 cs o_r a_r q7, w9 cs (a_r 0) a_t s_t]) (isR := [1]) (isC := [0]) (i0 := 0) ⟨hx, hb, hml, hown, hts⟩ hK hP hD hS hA hG (c6_accept l D cs o_r a_r q6.2 H.size _ eq7) (cwV 0 hts (gV wd700 wd702 wd6 wd106 wd703) rfl rfl rfl (by decide +kernel) ⟨by rw [hR]; exact Nat.le_of_ble_eq_true rfl, by rw [hR]; exact Nat.le_of_ble_eq_true rfl⟩) 2 (by decide) rfl rfl rfl rfl rfl rfl rfl e6 rfl rfl rfl hl.1 rfl (Nat.le_of_ble_eq_true rfl) ⟨Nat.zero_le _, Nat.zero_le _⟩ dX6_lampLine_49 (fun H locs hP hD hS => ?_)
    refine lv_aload_n hx hb dX6_lampLine_52 rfl (lv_at hl 2 rfl) ?_
    refine gfB (i0 := 0) (own := RX6) (T := TX6) (k := 6) (v := .int (q7.1 6)) hx hb htX6 hown hK hP rfl e6 rfl (by decide) (hW _ wd236) rfl dX6_lampLine_53 ?_
    obtain ⟨q8, hq8, hf⟩ := bnd hf
    have Jq8 : ∀ r8 : St, q8 = r8 → ∀ (H : Heap) (locs : List Loc) (ls : Array Slot), va_P D vwCl (List.flatten [w6 cs o_r a_r q7, w9 cs (a_r 0) a_t r8]) H → va_D A (List.flatten [w6 cs o_r a_r q7, w9 cs (a_r 0) a_t r8]) → va_S A s.heap H locs → lv_has ls 3 [] → W p l e R s m args below meth c H locs 0 0 Q (F0 m 68 ls []) := by
      intro r8 eq8 H locs ls hP hD hS hl
      subst eq8
      obtain rfl := Option.some.inj hf
      exact mretV hx hb hr hlocks hK hP hD hS hQ dX6_lampLine_68
    clear hf
    have hf := hq8
    refine lv_if_ne (tgt := 68) hx hb dX6_lampLine_56 (by decide) (fun hc => ?_) (fun hc => ?_)
    · have hf := ifn hc hf
      exact Jq8 _ (Option.some.inj hf).symm _ _ _ hP hD hS (lv_sub hl [] rfl)
    · have hf := ifp hc hf
      refine lv_aload_n hx hb dX6_lampLine_59 rfl (lv_at hl 2 rfl) ?_
      refine gfB (i0 := 0) (own := RX6) (T := TX6) (k := 0) (v := .ref (a_r 0)) hx hb htX6 hown hK hP rfl e6 rfl (by decide) (hW _ wd226) rfl dX6_lampLine_60 ?_
      refine lv_iload_n hx hb dX6_lampLine_63 rfl (lv_at hl 1 rfl) ?_
      refine lv_iload_n hx hb dX6_lampLine_64 rfl (lv_at hl 0 rfl) ?_
      obtain ⟨q9, eq9, hf⟩ := bnd hf
      refine mcVv (rest := []) (Bn := [w6 cs o_r a_r q7, w9 cs (a_r 0) a_t q9]) (isR := [0]) (isC := [1]) (i0 := 1) ⟨hx, hb, hml, hown, hts⟩ hK hP hD hS hA hG (c9_addLamp l D cs (a_r 0) a_t s_t H.size q4.1 q6.1 _ eq9) (cwV 2 hts (gV wd819 wd820 wd821 wd107 wd822) rfl rfl rfl (by decide +kernel) ⟨by rw [hR]; exact Nat.le_of_ble_eq_true rfl, by rw [hR]; exact Nat.le_of_ble_eq_true rfl⟩) 2 (by decide) rfl rfl rfl rfl rfl rfl rfl e9 rfl rfl rfl hl.1 rfl (Nat.le_of_ble_eq_true rfl) ⟨Nat.zero_le _, Nat.zero_le _⟩ dX6_lampLine_65 (fun H locs hP hD hS => ?_)
      exact Jq8 _ (Option.some.inj hf).symm _ _ _ hP hD hS (lv_sub hl [] rfl)
  clear hf
  have hf := hq1
  refine lv_icmp_lt (tgt := 17) hx hb dX6_lampLine_9 (by decide) (fun hc => ?_) (fun hc => ?_)
  · have hf := ifp hc hf
    exact Jq1 _ (Option.some.inj hf).symm _ _ _ hP hD hS (lv_sub hl [0] rfl)
  · have hf := ifn hc hf
    refine lv_aload_n hx hb dX6_lampLine_12 rfl (lv_at hl 0 rfl) ?_
    refine lv_iconst (v := 2) hx hb dX6_lampLine_13 (by decide) ?_
    obtain ⟨q2, eq2, hf⟩ := bnd hf
    refine mcVv (rest := []) (Bn := [w6 cs o_r a_r q2, w9 cs (a_r 0) a_t s_t]) (isR := [1]) (isC := [0]) (i0 := 0) ⟨hx, hb, hml, hown, hts⟩ hK hP hD hS hA hG (c6_fail l D cs o_r a_r s_r H.size (2 : Int32) _ eq2) (cwV 1 hts (gV wd803 wd805 wd12 wd106 wd806) rfl rfl rfl (by decide +kernel) ⟨by rw [hR]; exact Nat.le_of_ble_eq_true rfl, by rw [hR]; exact Nat.le_of_ble_eq_true rfl⟩) 2 (by decide) rfl rfl rfl rfl rfl rfl rfl e6 rfl rfl rfl hl.1 rfl (Nat.le_of_ble_eq_true rfl) ⟨Nat.zero_le _, Nat.zero_le _⟩ dX6_lampLine_14 (fun H locs hP hD hS => ?_)
    exact Jq1 _ (Option.some.inj hf).symm _ _ _ hP hD hS (lv_sub hl [0] rfl)
/-! TwinLamps$Reader.twinsLine -/
noncomputable def f6_twinsLine (s_r : St) (s_t : St) : Option (St × St) :=
  (f6_accept s_r).bind fun q1 =>
  (f6_numberUpTo q1 ((s_t.1 1) - 1) (3 : Int32)).bind fun q2 =>
  ((if (q2.2.1 6) = 0 then ((ldO 12 (s_t.2 10) q2.1).bind fun q4 =>
  if q4 = (-1) then some q2.2 else (f6_fail q2.2 (4 : Int32)).bind fun q5 =>
  some q5)
  else some q2.2 : Option (St))).bind fun q3 =>
  (f6_accept q3).bind fun q6 =>
  (f6_numberUpTo q6 ((s_t.1 1) - 1) (3 : Int32)).bind fun q7 =>
  ((if (q7.2.1 6) = 0 then ((ldO 12 (s_t.2 10) q7.1).bind fun q9 =>
  if q9 = (-1) then (if q7.1 = q2.1 then ((f6_fail q7.2 (4 : Int32)).bind fun q11 =>
  some q11)
  else some q7.2)
  else (f6_fail q7.2 (4 : Int32)).bind fun q10 =>
  some q10)
  else some q7.2 : Option (St))).bind fun q8 =>
  (f6_accept q8).bind fun q12 =>
  ((if (q12.1 6) = 0 then ((stS 12 s_t 10 q2.1 q7.1).bind fun s14 =>
  (stS 12 s14 10 q7.1 q2.1).bind fun s15 =>
  some s15)
  else some s_t : Option (St))).bind fun q13 =>
  some (q12, q13)
set_option maxHeartbeats 4000000 in
set_option maxRecDepth 100000 in
theorem c6_twinsLine (l : Launch) (D : va_G) (cs : xE) (o_r : Nat) (a_r : Nat → Nat) (a_t : Nat → Nat) (s_r : St) (s_t : St) (sz : Nat) (res : St × St) (hf : f6_twinsLine s_r s_t = some res) : Met l yX6_twinsLine (Cond.code yX6_twinsLine cX6_twinsLine 3 none :: WG) { frames := 8, cells := 0, slots := 0, locals := 214 } (va_Pc [.ref o_r] (mP D cs (List.flatten [w6 cs o_r a_r s_r, w9 cs (a_r 0) a_t s_t]) sz)) (qV D cs (List.flatten [w6 cs o_r a_r res.1, w9 cs (a_r 0) a_t res.2]) (va_A (List.flatten [w6 cs o_r a_r s_r, w9 cs (a_r 0) a_t s_t]) sz)) 0 0 (va_A (List.flatten [w6 cs o_r a_r s_r, w9 cs (a_r 0) a_t s_t]) sz) := by
  refine mgo (Qc := qV D cs (List.flatten [w6 cs o_r a_r res.1, w9 cs (a_r 0) a_t res.2])) (cc := cX6_twinsLine) (maxL := 3) (ret := none) (by decide) rfl (Nat.le_of_ble_eq_true rfl) ?_
  intro p e s m below meth c ls A R Q args H hR hQ hx hb hml hr hlocks hown hts hP hK hD hA hS hG hl
  have hown : s.vm.findClass RX6 = some m.cls := hown
  have hl : lv_has ls 3 [(0, .ref o_r)] := hl
  have hW : ∀ w ∈ WG, w.before args s = true := fun w h => hts w (List.mem_cons_of_mem _ h)
  have htX6 : ∀ w ∈ u_ws RX6 TX6 12, w.before args s = true := fun w h => hW w (inW_X6 w h)
  have htX9 : ∀ w ∈ u_ws RX9 TX9 11, w.before args s = true := fun w h => hW w (inW_X9 w h)
  unfold f6_twinsLine at hf
  refine lv_aload_n hx hb dX6_twinsLine_0 rfl (lv_at hl 0 rfl) ?_
  obtain ⟨q1, eq1, hf⟩ := bnd hf
  refine mcVv (rest := []) (Bn := [w6 cs o_r a_r q1, w9 cs (a_r 0) a_t s_t]) (isR := [1]) (isC := [0]) (i0 := 0) ⟨hx, hb, hml, hown, hts⟩ hK hP hD hS hA hG (c6_accept l D cs o_r a_r s_r H.size _ eq1) (cwV 0 hts (gV wd700 wd702 wd6 wd106 wd703) rfl rfl rfl (by decide +kernel) ⟨by rw [hR]; exact Nat.le_of_ble_eq_true rfl, by rw [hR]; exact Nat.le_of_ble_eq_true rfl⟩) 2 (by decide) rfl rfl rfl rfl rfl rfl rfl e6 rfl rfl rfl hl.1 rfl (Nat.le_of_ble_eq_true rfl) ⟨Nat.zero_le _, Nat.zero_le _⟩ dX6_twinsLine_1 (fun H locs hP hD hS => ?_)
  refine lv_aload_n hx hb dX6_twinsLine_4 rfl (lv_at hl 0 rfl) ?_
  refine lv_aload_n hx hb dX6_twinsLine_5 rfl (lv_at hl 0 rfl) ?_
  refine gfB (i0 := 0) (own := RX6) (T := TX6) (k := 0) (v := .ref (a_r 0)) hx hb htX6 hown hK hP rfl e6 rfl (by decide) (hW _ wd226) rfl dX6_twinsLine_6 ?_
  refine gfB (i0 := 1) (own := RX6) (T := TX9) (k := 1) (v := .int (s_t.1 1)) hx hb htX9 hown hK hP rfl e9 rfl (by decide) (hW _ wd156) rfl dX6_twinsLine_9 ?_
  refine lv_iconst (v := 1) hx hb dX6_twinsLine_12 (by decide) ?_
  refine lv_isub hx hb dX6_twinsLine_13 ?_
  refine lv_iconst (v := 3) hx hb dX6_twinsLine_14 (by decide) ?_
  obtain ⟨q2, eq2, hf⟩ := bnd hf
  refine mcVi (v := q2.1) (rest := []) (Bn := [w6 cs o_r a_r q2.2, w9 cs (a_r 0) a_t s_t]) (isR := [1]) (isC := [0]) (i0 := 0) ⟨hx, hb, hml, hown, hts⟩ hK hP hD hS hA hG (c6_numberUpTo l D cs o_r a_r q1 H.size ((s_t.1 1) - 1) (3 : Int32) _ eq2) (cwV 2 hts (gV wd807 wd809 wd13 wd106 wd810) rfl rfl rfl (by decide +kernel) ⟨by rw [hR]; exact Nat.le_of_ble_eq_true rfl, by rw [hR]; exact Nat.le_of_ble_eq_true rfl⟩) 2 (by decide) rfl rfl rfl rfl rfl rfl rfl e6 rfl rfl rfl hl.1 rfl (Nat.le_of_ble_eq_true rfl) ⟨Nat.zero_le _, Nat.zero_le _⟩ dX6_twinsLine_15 (fun H locs hP hD hS => ?_)
  refine lv_istore_n (lv' := [(1, .int q2.1), (0, .ref o_r)]) hx hb dX6_twinsLine_18 rfl hl (by decide) rfl (fun ls hl => ?_)
  refine lv_aload_n hx hb dX6_twinsLine_19 rfl (lv_at hl 1 rfl) ?_
  refine gfB (i0 := 0) (own := RX6) (T := TX6) (k := 6) (v := .int (q2.2.1 6)) hx hb htX6 hown hK hP rfl e6 rfl (by decide) (hW _ wd236) rfl dX6_twinsLine_20 ?_
  obtain ⟨q3, hq3, hf⟩ := bnd hf
  have Jq3 : ∀ r3 : St, q3 = r3 → ∀ (H : Heap) (locs : List Loc) (ls : Array Slot), va_P D vwCl (List.flatten [w6 cs o_r a_r r3, w9 cs (a_r 0) a_t s_t]) H → va_D A (List.flatten [w6 cs o_r a_r r3, w9 cs (a_r 0) a_t s_t]) → va_S A s.heap H locs → lv_has ls 3 [(0, .ref o_r), (1, .int q2.1)] → W p l e R s m args below meth c H locs 0 0 Q (F0 m 44 ls []) := by
    intro r3 eq3 H locs ls hP hD hS hl
    subst eq3
    refine lv_aload_n hx hb dX6_twinsLine_44 rfl (lv_at hl 0 rfl) ?_
    obtain ⟨q6, eq6, hf⟩ := bnd hf
    refine mcVv (rest := []) (Bn := [w6 cs o_r a_r q6, w9 cs (a_r 0) a_t s_t]) (isR := [1]) (isC := [0]) (i0 := 0) ⟨hx, hb, hml, hown, hts⟩ hK hP hD hS hA hG (c6_accept l D cs o_r a_r q3 H.size _ eq6) (cwV 0 hts (gV wd700 wd702 wd6 wd106 wd703) rfl rfl rfl (by decide +kernel) ⟨by rw [hR]; exact Nat.le_of_ble_eq_true rfl, by rw [hR]; exact Nat.le_of_ble_eq_true rfl⟩) 2 (by decide) rfl rfl rfl rfl rfl rfl rfl e6 rfl rfl rfl hl.1 rfl (Nat.le_of_ble_eq_true rfl) ⟨Nat.zero_le _, Nat.zero_le _⟩ dX6_twinsLine_45 (fun H locs hP hD hS => ?_)
    refine lv_aload_n hx hb dX6_twinsLine_48 rfl (lv_at hl 0 rfl) ?_
    refine lv_aload_n hx hb dX6_twinsLine_49 rfl (lv_at hl 0 rfl) ?_
    refine gfB (i0 := 0) (own := RX6) (T := TX6) (k := 0) (v := .ref (a_r 0)) hx hb htX6 hown hK hP rfl e6 rfl (by decide) (hW _ wd226) rfl dX6_twinsLine_50 ?_
    refine gfB (i0 := 1) (own := RX6) (T := TX9) (k := 1) (v := .int (s_t.1 1)) hx hb htX9 hown hK hP rfl e9 rfl (by decide) (hW _ wd156) rfl dX6_twinsLine_53 ?_
    refine lv_iconst (v := 1) hx hb dX6_twinsLine_56 (by decide) ?_
    refine lv_isub hx hb dX6_twinsLine_57 ?_
    refine lv_iconst (v := 3) hx hb dX6_twinsLine_58 (by decide) ?_
    obtain ⟨q7, eq7, hf⟩ := bnd hf
    refine mcVi (v := q7.1) (rest := []) (Bn := [w6 cs o_r a_r q7.2, w9 cs (a_r 0) a_t s_t]) (isR := [1]) (isC := [0]) (i0 := 0) ⟨hx, hb, hml, hown, hts⟩ hK hP hD hS hA hG (c6_numberUpTo l D cs o_r a_r q6 H.size ((s_t.1 1) - 1) (3 : Int32) _ eq7) (cwV 2 hts (gV wd807 wd809 wd13 wd106 wd810) rfl rfl rfl (by decide +kernel) ⟨by rw [hR]; exact Nat.le_of_ble_eq_true rfl, by rw [hR]; exact Nat.le_of_ble_eq_true rfl⟩) 2 (by decide) rfl rfl rfl rfl rfl rfl rfl e6 rfl rfl rfl hl.1 rfl (Nat.le_of_ble_eq_true rfl) ⟨Nat.zero_le _, Nat.zero_le _⟩ dX6_twinsLine_59 (fun H locs hP hD hS => ?_)
    refine lv_istore_n (lv' := [(2, .int q7.1), (0, .ref o_r), (1, .int q2.1)]) hx hb dX6_twinsLine_62 rfl hl (by decide) rfl (fun ls hl => ?_)
    refine lv_aload_n hx hb dX6_twinsLine_63 rfl (lv_at hl 1 rfl) ?_
    refine gfB (i0 := 0) (own := RX6) (T := TX6) (k := 6) (v := .int (q7.2.1 6)) hx hb htX6 hown hK hP rfl e6 rfl (by decide) (hW _ wd236) rfl dX6_twinsLine_64 ?_
    obtain ⟨q8, hq8, hf⟩ := bnd hf
    have Jq8 : ∀ r8 : St, q8 = r8 → ∀ (H : Heap) (locs : List Loc) (ls : Array Slot), va_P D vwCl (List.flatten [w6 cs o_r a_r r8, w9 cs (a_r 0) a_t s_t]) H → va_D A (List.flatten [w6 cs o_r a_r r8, w9 cs (a_r 0) a_t s_t]) → va_S A s.heap H locs → lv_has ls 3 [(0, .ref o_r), (1, .int q2.1), (2, .int q7.1)] → W p l e R s m args below meth c H locs 0 0 Q (F0 m 93 ls []) := by
      intro r8 eq8 H locs ls hP hD hS hl
      subst eq8
      refine lv_aload_n hx hb dX6_twinsLine_93 rfl (lv_at hl 0 rfl) ?_
      obtain ⟨q12, eq12, hf⟩ := bnd hf
      refine mcVv (rest := []) (Bn := [w6 cs o_r a_r q12, w9 cs (a_r 0) a_t s_t]) (isR := [1]) (isC := [0]) (i0 := 0) ⟨hx, hb, hml, hown, hts⟩ hK hP hD hS hA hG (c6_accept l D cs o_r a_r q8 H.size _ eq12) (cwV 0 hts (gV wd700 wd702 wd6 wd106 wd703) rfl rfl rfl (by decide +kernel) ⟨by rw [hR]; exact Nat.le_of_ble_eq_true rfl, by rw [hR]; exact Nat.le_of_ble_eq_true rfl⟩) 2 (by decide) rfl rfl rfl rfl rfl rfl rfl e6 rfl rfl rfl hl.1 rfl (Nat.le_of_ble_eq_true rfl) ⟨Nat.zero_le _, Nat.zero_le _⟩ dX6_twinsLine_94 (fun H locs hP hD hS => ?_)
      refine lv_aload_n hx hb dX6_twinsLine_97 rfl (lv_at hl 0 rfl) ?_
      refine gfB (i0 := 0) (own := RX6) (T := TX6) (k := 6) (v := .int (q12.1 6)) hx hb htX6 hown hK hP rfl e6 rfl (by decide) (hW _ wd236) rfl dX6_twinsLine_98 ?_
      obtain ⟨q13, hq13, hf⟩ := bnd hf
      have Jq13 : ∀ r13 : St, q13 = r13 → ∀ (H : Heap) (locs : List Loc) (ls : Array Slot), va_P D vwCl (List.flatten [w6 cs o_r a_r q12, w9 cs (a_r 0) a_t r13]) H → va_D A (List.flatten [w6 cs o_r a_r q12, w9 cs (a_r 0) a_t r13]) → va_S A s.heap H locs → lv_has ls 3 [] → W p l e R s m args below meth c H locs 0 0 Q (F0 m 124 ls []) := by
        intro r13 eq13 H locs ls hP hD hS hl
        subst eq13
        obtain rfl := Option.some.inj hf
        exact mretV hx hb hr hlocks hK hP hD hS hQ dX6_twinsLine_124
      clear hf
      have hf := hq13
      refine lv_if_ne (tgt := 124) hx hb dX6_twinsLine_101 (by decide) (fun hc => ?_) (fun hc => ?_)
      · have hf := ifn hc hf
        exact Jq13 _ (Option.some.inj hf).symm _ _ _ hP hD hS (lv_sub hl [] rfl)
      · have hf := ifp hc hf
        refine lv_aload_n hx hb dX6_twinsLine_104 rfl (lv_at hl 0 rfl) ?_
        refine gfB (i0 := 0) (own := RX6) (T := TX6) (k := 0) (v := .ref (a_r 0)) hx hb htX6 hown hK hP rfl e6 rfl (by decide) (hW _ wd226) rfl dX6_twinsLine_105 ?_
        refine gfB (i0 := 1) (own := RX6) (T := TX9) (k := 10) (v := .ref (a_t 10)) hx hb htX9 hown hK hP rfl e9 rfl (by decide) (hW _ wd182) rfl dX6_twinsLine_108 ?_
        refine lv_iload_n hx hb dX6_twinsLine_111 rfl (lv_at hl 1 rfl) ?_
        refine lv_iload_n hx hb dX6_twinsLine_112 rfl (lv_at hl 2 rfl) ?_
        obtain ⟨s14, es14, hf⟩ := bnd hf
        obtain ⟨gs14, es14⟩ := stS_e es14
        refine astB (i0 := 1) (Bn := [w6 cs o_r a_r q12, w9 cs (a_r 0) a_t s14]) hx hb hK hP hD hS rfl a9_10 gs14 rfl dX6_twinsLine_113 (by rw [← es14]; exact v9_10) rfl (fun H locs hP hD hS => ?_)
        refine lv_aload_n hx hb dX6_twinsLine_114 rfl (lv_at hl 0 rfl) ?_
        refine gfB (i0 := 0) (own := RX6) (T := TX6) (k := 0) (v := .ref (a_r 0)) hx hb htX6 hown hK hP rfl e6 rfl (by decide) (hW _ wd226) rfl dX6_twinsLine_115 ?_
        refine gfB (i0 := 1) (own := RX6) (T := TX9) (k := 10) (v := .ref (a_t 10)) hx hb htX9 hown hK hP rfl e9 rfl (by decide) (hW _ wd182) rfl dX6_twinsLine_118 ?_
        refine lv_iload_n hx hb dX6_twinsLine_121 rfl (lv_at hl 2 rfl) ?_
        refine lv_iload_n hx hb dX6_twinsLine_122 rfl (lv_at hl 1 rfl) ?_
        obtain ⟨s15, es15, hf⟩ := bnd hf
        obtain ⟨gs15, es15⟩ := stS_e es15
        refine astB (i0 := 1) (Bn := [w6 cs o_r a_r q12, w9 cs (a_r 0) a_t s15]) hx hb hK hP hD hS rfl a9_10 gs15 rfl dX6_twinsLine_123 (by rw [← es15]; exact v9_10) rfl (fun H locs hP hD hS => ?_)
        exact Jq13 _ (Option.some.inj hf).symm _ _ _ hP hD hS (lv_sub hl [] rfl)
    clear hf
    have hf := hq8
    refine lv_if_ne (tgt := 93) hx hb dX6_twinsLine_67 (by decide) (fun hc => ?_) (fun hc => ?_)
    · have hf := ifn hc hf
      exact Jq8 _ (Option.some.inj hf).symm _ _ _ hP hD hS (lv_sub hl [1, 2, 0] rfl)
    · have hf := ifp hc hf
      refine lv_aload_n hx hb dX6_twinsLine_70 rfl (lv_at hl 1 rfl) ?_
      refine gfB (i0 := 0) (own := RX6) (T := TX6) (k := 0) (v := .ref (a_r 0)) hx hb htX6 hown hK hP rfl e6 rfl (by decide) (hW _ wd226) rfl dX6_twinsLine_71 ?_
      refine gfB (i0 := 1) (own := RX6) (T := TX9) (k := 10) (v := .ref (a_t 10)) hx hb htX9 hown hK hP rfl e9 rfl (by decide) (hW _ wd182) rfl dX6_twinsLine_74 ?_
      refine lv_iload_n hx hb dX6_twinsLine_77 rfl (lv_at hl 0 rfl) ?_
      obtain ⟨q9, eq9, hf⟩ := bnd hf
      obtain ⟨gq9, eq9⟩ := ldO_e eq9
      refine aldB (i0 := 1) hx hb hK hP rfl a9_10 gq9 dX6_twinsLine_78 ?_
      refine lv_nm eq9 ?_
      refine lv_iconst (v := (-1)) hx hb dX6_twinsLine_79 (by decide) ?_
      refine lv_icmp_ne (tgt := 88) hx hb dX6_twinsLine_80 (by decide) (fun hc => ?_) (fun hc => ?_)
      · have hf := ifn hc hf
        refine lv_aload_n hx hb dX6_twinsLine_88 rfl (lv_at hl 1 rfl) ?_
        refine lv_iconst (v := 4) hx hb dX6_twinsLine_89 (by decide) ?_
        obtain ⟨q10, eq10, hf⟩ := bnd hf
        refine mcVv (rest := []) (Bn := [w6 cs o_r a_r q10, w9 cs (a_r 0) a_t s_t]) (isR := [1]) (isC := [0]) (i0 := 0) ⟨hx, hb, hml, hown, hts⟩ hK hP hD hS hA hG (c6_fail l D cs o_r a_r q7.2 H.size (4 : Int32) _ eq10) (cwV 1 hts (gV wd803 wd805 wd12 wd106 wd806) rfl rfl rfl (by decide +kernel) ⟨by rw [hR]; exact Nat.le_of_ble_eq_true rfl, by rw [hR]; exact Nat.le_of_ble_eq_true rfl⟩) 2 (by decide) rfl rfl rfl rfl rfl rfl rfl e6 rfl rfl rfl hl.1 rfl (Nat.le_of_ble_eq_true rfl) ⟨Nat.zero_le _, Nat.zero_le _⟩ dX6_twinsLine_90 (fun H locs hP hD hS => ?_)
        exact Jq8 _ (Option.some.inj hf).symm _ _ _ hP hD hS (lv_sub hl [1, 2, 0] rfl)
      · have hf := ifp hc hf
        refine lv_iload_n hx hb dX6_twinsLine_83 rfl (lv_at hl 0 rfl) ?_
        refine lv_iload_n hx hb dX6_twinsLine_84 rfl (lv_at hl 2 rfl) ?_
        refine lv_icmp_ne (tgt := 93) hx hb dX6_twinsLine_85 (by decide) (fun hc => ?_) (fun hc => ?_)
        · have hf := ifn hc hf
          exact Jq8 _ (Option.some.inj hf).symm _ _ _ hP hD hS (lv_sub hl [1, 2, 0] rfl)
        · have hf := ifp hc hf
          refine lv_aload_n hx hb dX6_twinsLine_88 rfl (lv_at hl 1 rfl) ?_
          refine lv_iconst (v := 4) hx hb dX6_twinsLine_89 (by decide) ?_
          obtain ⟨q11, eq11, hf⟩ := bnd hf
          refine mcVv (rest := []) (Bn := [w6 cs o_r a_r q11, w9 cs (a_r 0) a_t s_t]) (isR := [1]) (isC := [0]) (i0 := 0) ⟨hx, hb, hml, hown, hts⟩ hK hP hD hS hA hG (c6_fail l D cs o_r a_r q7.2 H.size (4 : Int32) _ eq11) (cwV 1 hts (gV wd803 wd805 wd12 wd106 wd806) rfl rfl rfl (by decide +kernel) ⟨by rw [hR]; exact Nat.le_of_ble_eq_true rfl, by rw [hR]; exact Nat.le_of_ble_eq_true rfl⟩) 2 (by decide) rfl rfl rfl rfl rfl rfl rfl e6 rfl rfl rfl hl.1 rfl (Nat.le_of_ble_eq_true rfl) ⟨Nat.zero_le _, Nat.zero_le _⟩ dX6_twinsLine_90 (fun H locs hP hD hS => ?_)
          exact Jq8 _ (Option.some.inj hf).symm _ _ _ hP hD hS (lv_sub hl [1, 2, 0] rfl)
  clear hf
  have hf := hq3
  refine lv_if_ne (tgt := 44) hx hb dX6_twinsLine_23 (by decide) (fun hc => ?_) (fun hc => ?_)
  · have hf := ifn hc hf
    exact Jq3 _ (Option.some.inj hf).symm _ _ _ hP hD hS (lv_sub hl [1, 0] rfl)
  · have hf := ifp hc hf
    refine lv_aload_n hx hb dX6_twinsLine_26 rfl (lv_at hl 1 rfl) ?_
    refine gfB (i0 := 0) (own := RX6) (T := TX6) (k := 0) (v := .ref (a_r 0)) hx hb htX6 hown hK hP rfl e6 rfl (by decide) (hW _ wd226) rfl dX6_twinsLine_27 ?_
    refine gfB (i0 := 1) (own := RX6) (T := TX9) (k := 10) (v := .ref (a_t 10)) hx hb htX9 hown hK hP rfl e9 rfl (by decide) (hW _ wd182) rfl dX6_twinsLine_30 ?_
    refine lv_iload_n hx hb dX6_twinsLine_33 rfl (lv_at hl 0 rfl) ?_
    obtain ⟨q4, eq4, hf⟩ := bnd hf
    obtain ⟨gq4, eq4⟩ := ldO_e eq4
    refine aldB (i0 := 1) hx hb hK hP rfl a9_10 gq4 dX6_twinsLine_34 ?_
    refine lv_nm eq4 ?_
    refine lv_iconst (v := (-1)) hx hb dX6_twinsLine_35 (by decide) ?_
    refine lv_icmp_eq (tgt := 44) hx hb dX6_twinsLine_36 (by decide) (fun hc => ?_) (fun hc => ?_)
    · have hf := ifp hc hf
      exact Jq3 _ (Option.some.inj hf).symm _ _ _ hP hD hS (lv_sub hl [1, 0] rfl)
    · have hf := ifn hc hf
      refine lv_aload_n hx hb dX6_twinsLine_39 rfl (lv_at hl 1 rfl) ?_
      refine lv_iconst (v := 4) hx hb dX6_twinsLine_40 (by decide) ?_
      obtain ⟨q5, eq5, hf⟩ := bnd hf
      refine mcVv (rest := []) (Bn := [w6 cs o_r a_r q5, w9 cs (a_r 0) a_t s_t]) (isR := [1]) (isC := [0]) (i0 := 0) ⟨hx, hb, hml, hown, hts⟩ hK hP hD hS hA hG (c6_fail l D cs o_r a_r q2.2 H.size (4 : Int32) _ eq5) (cwV 1 hts (gV wd803 wd805 wd12 wd106 wd806) rfl rfl rfl (by decide +kernel) ⟨by rw [hR]; exact Nat.le_of_ble_eq_true rfl, by rw [hR]; exact Nat.le_of_ble_eq_true rfl⟩) 2 (by decide) rfl rfl rfl rfl rfl rfl rfl e6 rfl rfl rfl hl.1 rfl (Nat.le_of_ble_eq_true rfl) ⟨Nat.zero_le _, Nat.zero_le _⟩ dX6_twinsLine_41 (fun H locs hP hD hS => ?_)
      exact Jq3 _ (Option.some.inj hf).symm _ _ _ hP hD hS (lv_sub hl [1, 0] rfl)
/-! TwinLamps$Reader.line -/
noncomputable def f6_line (s_r : St) (s_t : St) (s_g : St) : Option (St × St × St) :=
  ((if (s_r.1 7) < 300 then (if (s_r.1 7) = 304 then ((f6_lampLine s_r s_t).bind fun q9 =>
  some (q9.1, q9.2, s_g))
  else if (s_r.1 7) = 305 then ((f6_twinsLine s_r s_t).bind fun q8 =>
  some (q8.1, q8.2, s_g))
  else if (s_r.1 7) = 306 then ((f7_isTold s_g).bind fun q3 =>
  ((if (zB q3) = 0 then some s_r else (f6_fail s_r (5 : Int32)).bind fun q5 =>
  some q5 : Option (St))).bind fun q4 =>
  (f6_accept q4).bind fun q6 =>
  (f6_expression 8 q6 s_g (0 : Int32)).bind fun q7 =>
  some (q7.1, s_t, q7.2))
  else (f6_fail s_r (1 : Int32)).bind fun q2 =>
  some (q2, s_t, s_g))
  else if (303 : Int32) < (s_r.1 7) then (if (s_r.1 7) = 304 then ((f6_lampLine s_r s_t).bind fun q17 =>
  some (q17.1, q17.2, s_g))
  else if (s_r.1 7) = 305 then ((f6_twinsLine s_r s_t).bind fun q16 =>
  some (q16.1, q16.2, s_g))
  else if (s_r.1 7) = 306 then ((f7_isTold s_g).bind fun q11 =>
  ((if (zB q11) = 0 then some s_r else (f6_fail s_r (5 : Int32)).bind fun q13 =>
  some q13 : Option (St))).bind fun q12 =>
  (f6_accept q12).bind fun q14 =>
  (f6_expression 8 q14 s_g (0 : Int32)).bind fun q15 =>
  some (q15.1, s_t, q15.2))
  else (f6_fail s_r (1 : Int32)).bind fun q10 =>
  some (q10, s_t, s_g))
  else (f6_houseLine s_r s_t ((s_r.1 7) - 300)).bind fun q18 =>
  some (q18.1, q18.2, s_g) : Option (St × St × St))).bind fun q1 =>
  (f6_expect q1.1 (59 : Int32)).bind fun q19 =>
  some (q19, q1.2.1, q1.2.2)
set_option maxHeartbeats 4000000 in
set_option maxRecDepth 100000 in
theorem c6_line (l : Launch) (D : va_G) (cs : xE) (o_r : Nat) (a_r : Nat → Nat) (a_t : Nat → Nat) (a_g : Nat → Nat) (s_r : St) (s_t : St) (s_g : St) (sz : Nat) (res : St × St × St) (hf : f6_line s_r s_t s_g = some res) : Met l yX6_line (Cond.code yX6_line cX6_line 1 none :: WG) { frames := 121, cells := 0, slots := 0, locals := 2974 } (va_Pc [.ref o_r] (mP D cs (List.flatten [w6 cs o_r a_r s_r, w9 cs (a_r 0) a_t s_t, w7 cs (a_r 1) a_g s_g]) sz)) (qV D cs (List.flatten [w6 cs o_r a_r res.1, w9 cs (a_r 0) a_t res.2.1, w7 cs (a_r 1) a_g res.2.2]) (va_A (List.flatten [w6 cs o_r a_r s_r, w9 cs (a_r 0) a_t s_t, w7 cs (a_r 1) a_g s_g]) sz)) 0 0 (va_A (List.flatten [w6 cs o_r a_r s_r, w9 cs (a_r 0) a_t s_t, w7 cs (a_r 1) a_g s_g]) sz) := by
  refine mgo (Qc := qV D cs (List.flatten [w6 cs o_r a_r res.1, w9 cs (a_r 0) a_t res.2.1, w7 cs (a_r 1) a_g res.2.2])) (cc := cX6_line) (maxL := 1) (ret := none) (by decide) rfl (Nat.le_of_ble_eq_true rfl) ?_
  intro p e s m below meth c ls A R Q args H hR hQ hx hb hml hr hlocks hown hts hP hK hD hA hS hG hl
  have hown : s.vm.findClass RX6 = some m.cls := hown
  have hl : lv_has ls 1 [(0, .ref o_r)] := hl
  have hW : ∀ w ∈ WG, w.before args s = true := fun w h => hts w (List.mem_cons_of_mem _ h)
  have htX6 : ∀ w ∈ u_ws RX6 TX6 12, w.before args s = true := fun w h => hW w (inW_X6 w h)
  unfold f6_line at hf
  refine lv_aload_n hx hb dX6_line_0 rfl (lv_at hl 0 rfl) ?_
  refine gfB (i0 := 0) (own := RX6) (T := TX6) (k := 7) (v := .int (s_r.1 7)) hx hb htX6 hown hK hP rfl e6 rfl (by decide) (hW _ wd237) rfl dX6_line_1 ?_
  refine lv_sipush (v := 300) hx hb dX6_line_4 (by decide) ?_
  obtain ⟨q1, hq1, hf⟩ := bnd hf
  have Jq1 : ∀ r1 : St × St × St, q1 = r1 → ∀ (H : Heap) (locs : List Loc) (ls : Array Slot), va_P D vwCl (List.flatten [w6 cs o_r a_r r1.1, w9 cs (a_r 0) a_t r1.2.1, w7 cs (a_r 1) a_g r1.2.2]) H → va_D A (List.flatten [w6 cs o_r a_r r1.1, w9 cs (a_r 0) a_t r1.2.1, w7 cs (a_r 1) a_g r1.2.2]) → va_S A s.heap H locs → lv_has ls 1 [(0, .ref o_r)] → W p l e R s m args below meth c H locs 0 0 Q (F0 m 111 ls []) := by
    intro r1 eq1 H locs ls hP hD hS hl
    subst eq1
    refine lv_aload_n hx hb dX6_line_111 rfl (lv_at hl 0 rfl) ?_
    refine lv_bipush (v := 59) hx hb dX6_line_112 (by decide) ?_
    obtain ⟨q19, eq19, hf⟩ := bnd hf
    refine mcVv (rest := []) (Bn := [w6 cs o_r a_r q19, w9 cs (a_r 0) a_t q1.2.1, w7 cs (a_r 1) a_g q1.2.2]) (isR := [1, 2]) (isC := [0]) (i0 := 0) ⟨hx, hb, hml, hown, hts⟩ hK hP hD hS hA hG (c6_expect l D cs o_r a_r q1.1 H.size (59 : Int32) _ eq19) (cwV 1 hts (gV wd860 wd862 wd23 wd106 wd863) rfl rfl rfl (by decide +kernel) ⟨by rw [hR]; exact Nat.le_of_ble_eq_true rfl, by rw [hR]; exact Nat.le_of_ble_eq_true rfl⟩) 3 (by decide) rfl rfl rfl rfl rfl rfl rfl e6 rfl rfl rfl hl.1 rfl (Nat.le_of_ble_eq_true rfl) ⟨Nat.zero_le _, Nat.zero_le _⟩ dX6_line_114 (fun H locs hP hD hS => ?_)
    obtain rfl := Option.some.inj hf
    exact mretV hx hb hr hlocks hK hP hD hS hQ dX6_line_117
  clear hf
  have hf := hq1
  refine lv_icmp_lt (tgt := 35) hx hb dX6_line_7 (by decide) (fun hc => ?_) (fun hc => ?_)
  · have hf := ifp hc hf
    refine lv_aload_n hx hb dX6_line_35 rfl (lv_at hl 0 rfl) ?_
    refine gfB (i0 := 0) (own := RX6) (T := TX6) (k := 7) (v := .int (s_r.1 7)) hx hb htX6 hown hK hP rfl e6 rfl (by decide) (hW _ wd237) rfl dX6_line_36 ?_
    refine lv_sipush (v := 304) hx hb dX6_line_39 (by decide) ?_
    refine lv_icmp_ne (tgt := 52) hx hb dX6_line_42 (by decide) (fun hc => ?_) (fun hc => ?_)
    · have hf := ifn hc hf
      refine lv_aload_n hx hb dX6_line_52 rfl (lv_at hl 0 rfl) ?_
      refine gfB (i0 := 0) (own := RX6) (T := TX6) (k := 7) (v := .int (s_r.1 7)) hx hb htX6 hown hK hP rfl e6 rfl (by decide) (hW _ wd237) rfl dX6_line_53 ?_
      refine lv_sipush (v := 305) hx hb dX6_line_56 (by decide) ?_
      refine lv_icmp_ne (tgt := 69) hx hb dX6_line_59 (by decide) (fun hc => ?_) (fun hc => ?_)
      · have hf := ifn hc hf
        refine lv_aload_n hx hb dX6_line_69 rfl (lv_at hl 0 rfl) ?_
        refine gfB (i0 := 0) (own := RX6) (T := TX6) (k := 7) (v := .int (s_r.1 7)) hx hb htX6 hown hK hP rfl e6 rfl (by decide) (hW _ wd237) rfl dX6_line_70 ?_
        refine lv_sipush (v := 306) hx hb dX6_line_73 (by decide) ?_
        refine lv_icmp_ne (tgt := 106) hx hb dX6_line_76 (by decide) (fun hc => ?_) (fun hc => ?_)
        · have hf := ifn hc hf
          refine lv_aload_n hx hb dX6_line_106 rfl (lv_at hl 0 rfl) ?_
          refine lv_iconst (v := 1) hx hb dX6_line_107 (by decide) ?_
          obtain ⟨q2, eq2, hf⟩ := bnd hf
          refine mcVv (rest := []) (Bn := [w6 cs o_r a_r q2, w9 cs (a_r 0) a_t s_t, w7 cs (a_r 1) a_g s_g]) (isR := [1, 2]) (isC := [0]) (i0 := 0) ⟨hx, hb, hml, hown, hts⟩ hK hP hD hS hA hG (c6_fail l D cs o_r a_r s_r H.size (1 : Int32) _ eq2) (cwV 1 hts (gV wd803 wd805 wd12 wd106 wd806) rfl rfl rfl (by decide +kernel) ⟨by rw [hR]; exact Nat.le_of_ble_eq_true rfl, by rw [hR]; exact Nat.le_of_ble_eq_true rfl⟩) 3 (by decide) rfl rfl rfl rfl rfl rfl rfl e6 rfl rfl rfl hl.1 rfl (Nat.le_of_ble_eq_true rfl) ⟨Nat.zero_le _, Nat.zero_le _⟩ dX6_line_108 (fun H locs hP hD hS => ?_)
          exact Jq1 _ (Option.some.inj hf).symm _ _ _ hP hD hS (lv_sub hl [0] rfl)
        · have hf := ifp hc hf
          refine lv_aload_n hx hb dX6_line_79 rfl (lv_at hl 0 rfl) ?_
          refine gfB (i0 := 0) (own := RX6) (T := TX6) (k := 1) (v := .ref (a_r 1)) hx hb htX6 hown hK hP rfl e6 rfl (by decide) (hW _ wd228) rfl dX6_line_80 ?_
          obtain ⟨q3, eq3, hf⟩ := bnd hf
          refine mcVi (v := (zB q3)) (rest := []) (Bn := [w6 cs o_r a_r s_r, w9 cs (a_r 0) a_t s_t, w7 cs (a_r 1) a_g s_g]) (isR := [0, 1]) (isC := [2]) (i0 := 2) ⟨hx, hb, hml, hown, hts⟩ hK hP hD hS hA hG (c7_isTold l D cs (a_r 1) a_g s_g H.size _ eq3) (cwV 0 hts (gV wd827 wd523 wd524 wd108 wd525) rfl rfl rfl (by decide +kernel) ⟨by rw [hR]; exact Nat.le_of_ble_eq_true rfl, by rw [hR]; exact Nat.le_of_ble_eq_true rfl⟩) 3 (by decide) rfl rfl rfl rfl rfl rfl rfl e7 rfl rfl rfl hl.1 rfl (Nat.le_of_ble_eq_true rfl) ⟨Nat.zero_le _, Nat.zero_le _⟩ dX6_line_83 (fun H locs hP hD hS => ?_)
          obtain ⟨q4, hq4, hf⟩ := bnd hf
          have Jq4 : ∀ r4 : St, q4 = r4 → ∀ (H : Heap) (locs : List Loc) (ls : Array Slot), va_P D vwCl (List.flatten [w6 cs o_r a_r r4, w9 cs (a_r 0) a_t s_t, w7 cs (a_r 1) a_g s_g]) H → va_D A (List.flatten [w6 cs o_r a_r r4, w9 cs (a_r 0) a_t s_t, w7 cs (a_r 1) a_g s_g]) → va_S A s.heap H locs → lv_has ls 1 [(0, .ref o_r)] → W p l e R s m args below meth c H locs 0 0 Q (F0 m 94 ls []) := by
            intro r4 eq4 H locs ls hP hD hS hl
            subst eq4
            refine lv_aload_n hx hb dX6_line_94 rfl (lv_at hl 0 rfl) ?_
            obtain ⟨q6, eq6, hf⟩ := bnd hf
            refine mcVv (rest := []) (Bn := [w6 cs o_r a_r q6, w9 cs (a_r 0) a_t s_t, w7 cs (a_r 1) a_g s_g]) (isR := [1, 2]) (isC := [0]) (i0 := 0) ⟨hx, hb, hml, hown, hts⟩ hK hP hD hS hA hG (c6_accept l D cs o_r a_r q4 H.size _ eq6) (cwV 0 hts (gV wd700 wd702 wd6 wd106 wd703) rfl rfl rfl (by decide +kernel) ⟨by rw [hR]; exact Nat.le_of_ble_eq_true rfl, by rw [hR]; exact Nat.le_of_ble_eq_true rfl⟩) 3 (by decide) rfl rfl rfl rfl rfl rfl rfl e6 rfl rfl rfl hl.1 rfl (Nat.le_of_ble_eq_true rfl) ⟨Nat.zero_le _, Nat.zero_le _⟩ dX6_line_95 (fun H locs hP hD hS => ?_)
            refine lv_aload_n hx hb dX6_line_98 rfl (lv_at hl 0 rfl) ?_
            refine lv_iconst (v := 0) hx hb dX6_line_99 (by decide) ?_
            obtain ⟨q7, eq7, hf⟩ := bnd hf
            refine mcVv (rest := []) (Bn := [w6 cs o_r a_r q7.1, w9 cs (a_r 0) a_t s_t, w7 cs (a_r 1) a_g q7.2]) (isR := [1]) (isC := [0, 2]) (i0 := 0) ⟨hx, hb, hml, hown, hts⟩ hK hP hD hS hA hG (c6_expression l D cs o_r a_r a_g 8 q6 s_g H.size (0 : Int32) _ eq7) (cwV 1 hts (gV wd828 wd830 wd16 wd106 wd831) rfl rfl rfl (by decide +kernel) ⟨by rw [hR]; exact Nat.le_of_ble_eq_true rfl, by rw [hR]; exact Nat.le_of_ble_eq_true rfl⟩) 3 (by decide) rfl rfl rfl rfl rfl rfl rfl e6 rfl rfl rfl hl.1 rfl (Nat.le_of_ble_eq_true rfl) ⟨Nat.zero_le _, Nat.zero_le _⟩ dX6_line_100 (fun H locs hP hD hS => ?_)
            refine lv_goto (tgt := 111) hx hb dX6_line_103 (by decide) ?_
            exact Jq1 _ (Option.some.inj hf).symm _ _ _ hP hD hS (lv_sub hl [0] rfl)
          clear hf
          have hf := hq4
          refine lv_if_eq (tgt := 94) hx hb dX6_line_86 (by decide) (fun hc => ?_) (fun hc => ?_)
          · have hf := ifp hc hf
            exact Jq4 _ (Option.some.inj hf).symm _ _ _ hP hD hS (lv_sub hl [0] rfl)
          · have hf := ifn hc hf
            refine lv_aload_n hx hb dX6_line_89 rfl (lv_at hl 0 rfl) ?_
            refine lv_iconst (v := 5) hx hb dX6_line_90 (by decide) ?_
            obtain ⟨q5, eq5, hf⟩ := bnd hf
            refine mcVv (rest := []) (Bn := [w6 cs o_r a_r q5, w9 cs (a_r 0) a_t s_t, w7 cs (a_r 1) a_g s_g]) (isR := [1, 2]) (isC := [0]) (i0 := 0) ⟨hx, hb, hml, hown, hts⟩ hK hP hD hS hA hG (c6_fail l D cs o_r a_r s_r H.size (5 : Int32) _ eq5) (cwV 1 hts (gV wd803 wd805 wd12 wd106 wd806) rfl rfl rfl (by decide +kernel) ⟨by rw [hR]; exact Nat.le_of_ble_eq_true rfl, by rw [hR]; exact Nat.le_of_ble_eq_true rfl⟩) 3 (by decide) rfl rfl rfl rfl rfl rfl rfl e6 rfl rfl rfl hl.1 rfl (Nat.le_of_ble_eq_true rfl) ⟨Nat.zero_le _, Nat.zero_le _⟩ dX6_line_91 (fun H locs hP hD hS => ?_)
            exact Jq4 _ (Option.some.inj hf).symm _ _ _ hP hD hS (lv_sub hl [0] rfl)
      · have hf := ifp hc hf
        refine lv_aload_n hx hb dX6_line_62 rfl (lv_at hl 0 rfl) ?_
        obtain ⟨q8, eq8, hf⟩ := bnd hf
        refine mcVv (rest := []) (Bn := [w6 cs o_r a_r q8.1, w9 cs (a_r 0) a_t q8.2, w7 cs (a_r 1) a_g s_g]) (isR := [2]) (isC := [0, 1]) (i0 := 0) ⟨hx, hb, hml, hown, hts⟩ hK hP hD hS hA hG (c6_twinsLine l D cs o_r a_r a_t s_r s_t H.size _ eq8) (cwV 0 hts (gV wd823 wd825 wd15 wd106 wd826) rfl rfl rfl (by decide +kernel) ⟨by rw [hR]; exact Nat.le_of_ble_eq_true rfl, by rw [hR]; exact Nat.le_of_ble_eq_true rfl⟩) 3 (by decide) rfl rfl rfl rfl rfl rfl rfl e6 rfl rfl rfl hl.1 rfl (Nat.le_of_ble_eq_true rfl) ⟨Nat.zero_le _, Nat.zero_le _⟩ dX6_line_63 (fun H locs hP hD hS => ?_)
        refine lv_goto (tgt := 111) hx hb dX6_line_66 (by decide) ?_
        exact Jq1 _ (Option.some.inj hf).symm _ _ _ hP hD hS (lv_sub hl [0] rfl)
    · have hf := ifp hc hf
      refine lv_aload_n hx hb dX6_line_45 rfl (lv_at hl 0 rfl) ?_
      obtain ⟨q9, eq9, hf⟩ := bnd hf
      refine mcVv (rest := []) (Bn := [w6 cs o_r a_r q9.1, w9 cs (a_r 0) a_t q9.2, w7 cs (a_r 1) a_g s_g]) (isR := [2]) (isC := [0, 1]) (i0 := 0) ⟨hx, hb, hml, hown, hts⟩ hK hP hD hS hA hG (c6_lampLine l D cs o_r a_r a_t s_r s_t H.size _ eq9) (cwV 0 hts (gV wd815 wd817 wd14 wd106 wd818) rfl rfl rfl (by decide +kernel) ⟨by rw [hR]; exact Nat.le_of_ble_eq_true rfl, by rw [hR]; exact Nat.le_of_ble_eq_true rfl⟩) 3 (by decide) rfl rfl rfl rfl rfl rfl rfl e6 rfl rfl rfl hl.1 rfl (Nat.le_of_ble_eq_true rfl) ⟨Nat.zero_le _, Nat.zero_le _⟩ dX6_line_46 (fun H locs hP hD hS => ?_)
      refine lv_goto (tgt := 111) hx hb dX6_line_49 (by decide) ?_
      exact Jq1 _ (Option.some.inj hf).symm _ _ _ hP hD hS (lv_sub hl [0] rfl)
  · have hf := ifn hc hf
    refine lv_aload_n hx hb dX6_line_10 rfl (lv_at hl 0 rfl) ?_
    refine gfB (i0 := 0) (own := RX6) (T := TX6) (k := 7) (v := .int (s_r.1 7)) hx hb htX6 hown hK hP rfl e6 rfl (by decide) (hW _ wd237) rfl dX6_line_11 ?_
    refine lv_sipush (v := 303) hx hb dX6_line_14 (by decide) ?_
    refine lv_icmp_gt (tgt := 35) hx hb dX6_line_17 (by decide) (fun hc => ?_) (fun hc => ?_)
    · have hf := ifp hc hf
      refine lv_aload_n hx hb dX6_line_35 rfl (lv_at hl 0 rfl) ?_
      refine gfB (i0 := 0) (own := RX6) (T := TX6) (k := 7) (v := .int (s_r.1 7)) hx hb htX6 hown hK hP rfl e6 rfl (by decide) (hW _ wd237) rfl dX6_line_36 ?_
      refine lv_sipush (v := 304) hx hb dX6_line_39 (by decide) ?_
      refine lv_icmp_ne (tgt := 52) hx hb dX6_line_42 (by decide) (fun hc => ?_) (fun hc => ?_)
      · have hf := ifn hc hf
        refine lv_aload_n hx hb dX6_line_52 rfl (lv_at hl 0 rfl) ?_
        refine gfB (i0 := 0) (own := RX6) (T := TX6) (k := 7) (v := .int (s_r.1 7)) hx hb htX6 hown hK hP rfl e6 rfl (by decide) (hW _ wd237) rfl dX6_line_53 ?_
        refine lv_sipush (v := 305) hx hb dX6_line_56 (by decide) ?_
        refine lv_icmp_ne (tgt := 69) hx hb dX6_line_59 (by decide) (fun hc => ?_) (fun hc => ?_)
        · have hf := ifn hc hf
          refine lv_aload_n hx hb dX6_line_69 rfl (lv_at hl 0 rfl) ?_
          refine gfB (i0 := 0) (own := RX6) (T := TX6) (k := 7) (v := .int (s_r.1 7)) hx hb htX6 hown hK hP rfl e6 rfl (by decide) (hW _ wd237) rfl dX6_line_70 ?_
          refine lv_sipush (v := 306) hx hb dX6_line_73 (by decide) ?_
          refine lv_icmp_ne (tgt := 106) hx hb dX6_line_76 (by decide) (fun hc => ?_) (fun hc => ?_)
          · have hf := ifn hc hf
            refine lv_aload_n hx hb dX6_line_106 rfl (lv_at hl 0 rfl) ?_
            refine lv_iconst (v := 1) hx hb dX6_line_107 (by decide) ?_
            obtain ⟨q10, eq10, hf⟩ := bnd hf
            refine mcVv (rest := []) (Bn := [w6 cs o_r a_r q10, w9 cs (a_r 0) a_t s_t, w7 cs (a_r 1) a_g s_g]) (isR := [1, 2]) (isC := [0]) (i0 := 0) ⟨hx, hb, hml, hown, hts⟩ hK hP hD hS hA hG (c6_fail l D cs o_r a_r s_r H.size (1 : Int32) _ eq10) (cwV 1 hts (gV wd803 wd805 wd12 wd106 wd806) rfl rfl rfl (by decide +kernel) ⟨by rw [hR]; exact Nat.le_of_ble_eq_true rfl, by rw [hR]; exact Nat.le_of_ble_eq_true rfl⟩) 3 (by decide) rfl rfl rfl rfl rfl rfl rfl e6 rfl rfl rfl hl.1 rfl (Nat.le_of_ble_eq_true rfl) ⟨Nat.zero_le _, Nat.zero_le _⟩ dX6_line_108 (fun H locs hP hD hS => ?_)
            exact Jq1 _ (Option.some.inj hf).symm _ _ _ hP hD hS (lv_sub hl [0] rfl)
          · have hf := ifp hc hf
            refine lv_aload_n hx hb dX6_line_79 rfl (lv_at hl 0 rfl) ?_
            refine gfB (i0 := 0) (own := RX6) (T := TX6) (k := 1) (v := .ref (a_r 1)) hx hb htX6 hown hK hP rfl e6 rfl (by decide) (hW _ wd228) rfl dX6_line_80 ?_
            obtain ⟨q11, eq11, hf⟩ := bnd hf
            refine mcVi (v := (zB q11)) (rest := []) (Bn := [w6 cs o_r a_r s_r, w9 cs (a_r 0) a_t s_t, w7 cs (a_r 1) a_g s_g]) (isR := [0, 1]) (isC := [2]) (i0 := 2) ⟨hx, hb, hml, hown, hts⟩ hK hP hD hS hA hG (c7_isTold l D cs (a_r 1) a_g s_g H.size _ eq11) (cwV 0 hts (gV wd827 wd523 wd524 wd108 wd525) rfl rfl rfl (by decide +kernel) ⟨by rw [hR]; exact Nat.le_of_ble_eq_true rfl, by rw [hR]; exact Nat.le_of_ble_eq_true rfl⟩) 3 (by decide) rfl rfl rfl rfl rfl rfl rfl e7 rfl rfl rfl hl.1 rfl (Nat.le_of_ble_eq_true rfl) ⟨Nat.zero_le _, Nat.zero_le _⟩ dX6_line_83 (fun H locs hP hD hS => ?_)
            obtain ⟨q12, hq12, hf⟩ := bnd hf
            have Jq12 : ∀ r12 : St, q12 = r12 → ∀ (H : Heap) (locs : List Loc) (ls : Array Slot), va_P D vwCl (List.flatten [w6 cs o_r a_r r12, w9 cs (a_r 0) a_t s_t, w7 cs (a_r 1) a_g s_g]) H → va_D A (List.flatten [w6 cs o_r a_r r12, w9 cs (a_r 0) a_t s_t, w7 cs (a_r 1) a_g s_g]) → va_S A s.heap H locs → lv_has ls 1 [(0, .ref o_r)] → W p l e R s m args below meth c H locs 0 0 Q (F0 m 94 ls []) := by
              intro r12 eq12 H locs ls hP hD hS hl
              subst eq12
              refine lv_aload_n hx hb dX6_line_94 rfl (lv_at hl 0 rfl) ?_
              obtain ⟨q14, eq14, hf⟩ := bnd hf
              refine mcVv (rest := []) (Bn := [w6 cs o_r a_r q14, w9 cs (a_r 0) a_t s_t, w7 cs (a_r 1) a_g s_g]) (isR := [1, 2]) (isC := [0]) (i0 := 0) ⟨hx, hb, hml, hown, hts⟩ hK hP hD hS hA hG (c6_accept l D cs o_r a_r q12 H.size _ eq14) (cwV 0 hts (gV wd700 wd702 wd6 wd106 wd703) rfl rfl rfl (by decide +kernel) ⟨by rw [hR]; exact Nat.le_of_ble_eq_true rfl, by rw [hR]; exact Nat.le_of_ble_eq_true rfl⟩) 3 (by decide) rfl rfl rfl rfl rfl rfl rfl e6 rfl rfl rfl hl.1 rfl (Nat.le_of_ble_eq_true rfl) ⟨Nat.zero_le _, Nat.zero_le _⟩ dX6_line_95 (fun H locs hP hD hS => ?_)
              refine lv_aload_n hx hb dX6_line_98 rfl (lv_at hl 0 rfl) ?_
              refine lv_iconst (v := 0) hx hb dX6_line_99 (by decide) ?_
              obtain ⟨q15, eq15, hf⟩ := bnd hf
              refine mcVv (rest := []) (Bn := [w6 cs o_r a_r q15.1, w9 cs (a_r 0) a_t s_t, w7 cs (a_r 1) a_g q15.2]) (isR := [1]) (isC := [0, 2]) (i0 := 0) ⟨hx, hb, hml, hown, hts⟩ hK hP hD hS hA hG (c6_expression l D cs o_r a_r a_g 8 q14 s_g H.size (0 : Int32) _ eq15) (cwV 1 hts (gV wd828 wd830 wd16 wd106 wd831) rfl rfl rfl (by decide +kernel) ⟨by rw [hR]; exact Nat.le_of_ble_eq_true rfl, by rw [hR]; exact Nat.le_of_ble_eq_true rfl⟩) 3 (by decide) rfl rfl rfl rfl rfl rfl rfl e6 rfl rfl rfl hl.1 rfl (Nat.le_of_ble_eq_true rfl) ⟨Nat.zero_le _, Nat.zero_le _⟩ dX6_line_100 (fun H locs hP hD hS => ?_)
              refine lv_goto (tgt := 111) hx hb dX6_line_103 (by decide) ?_
              exact Jq1 _ (Option.some.inj hf).symm _ _ _ hP hD hS (lv_sub hl [0] rfl)
            clear hf
            have hf := hq12
            refine lv_if_eq (tgt := 94) hx hb dX6_line_86 (by decide) (fun hc => ?_) (fun hc => ?_)
            · have hf := ifp hc hf
              exact Jq12 _ (Option.some.inj hf).symm _ _ _ hP hD hS (lv_sub hl [0] rfl)
            · have hf := ifn hc hf
              refine lv_aload_n hx hb dX6_line_89 rfl (lv_at hl 0 rfl) ?_
              refine lv_iconst (v := 5) hx hb dX6_line_90 (by decide) ?_
              obtain ⟨q13, eq13, hf⟩ := bnd hf
              refine mcVv (rest := []) (Bn := [w6 cs o_r a_r q13, w9 cs (a_r 0) a_t s_t, w7 cs (a_r 1) a_g s_g]) (isR := [1, 2]) (isC := [0]) (i0 := 0) ⟨hx, hb, hml, hown, hts⟩ hK hP hD hS hA hG (c6_fail l D cs o_r a_r s_r H.size (5 : Int32) _ eq13) (cwV 1 hts (gV wd803 wd805 wd12 wd106 wd806) rfl rfl rfl (by decide +kernel) ⟨by rw [hR]; exact Nat.le_of_ble_eq_true rfl, by rw [hR]; exact Nat.le_of_ble_eq_true rfl⟩) 3 (by decide) rfl rfl rfl rfl rfl rfl rfl e6 rfl rfl rfl hl.1 rfl (Nat.le_of_ble_eq_true rfl) ⟨Nat.zero_le _, Nat.zero_le _⟩ dX6_line_91 (fun H locs hP hD hS => ?_)
              exact Jq12 _ (Option.some.inj hf).symm _ _ _ hP hD hS (lv_sub hl [0] rfl)
        · have hf := ifp hc hf
          refine lv_aload_n hx hb dX6_line_62 rfl (lv_at hl 0 rfl) ?_
          obtain ⟨q16, eq16, hf⟩ := bnd hf
          refine mcVv (rest := []) (Bn := [w6 cs o_r a_r q16.1, w9 cs (a_r 0) a_t q16.2, w7 cs (a_r 1) a_g s_g]) (isR := [2]) (isC := [0, 1]) (i0 := 0) ⟨hx, hb, hml, hown, hts⟩ hK hP hD hS hA hG (c6_twinsLine l D cs o_r a_r a_t s_r s_t H.size _ eq16) (cwV 0 hts (gV wd823 wd825 wd15 wd106 wd826) rfl rfl rfl (by decide +kernel) ⟨by rw [hR]; exact Nat.le_of_ble_eq_true rfl, by rw [hR]; exact Nat.le_of_ble_eq_true rfl⟩) 3 (by decide) rfl rfl rfl rfl rfl rfl rfl e6 rfl rfl rfl hl.1 rfl (Nat.le_of_ble_eq_true rfl) ⟨Nat.zero_le _, Nat.zero_le _⟩ dX6_line_63 (fun H locs hP hD hS => ?_)
          refine lv_goto (tgt := 111) hx hb dX6_line_66 (by decide) ?_
          exact Jq1 _ (Option.some.inj hf).symm _ _ _ hP hD hS (lv_sub hl [0] rfl)
      · have hf := ifp hc hf
        refine lv_aload_n hx hb dX6_line_45 rfl (lv_at hl 0 rfl) ?_
        obtain ⟨q17, eq17, hf⟩ := bnd hf
        refine mcVv (rest := []) (Bn := [w6 cs o_r a_r q17.1, w9 cs (a_r 0) a_t q17.2, w7 cs (a_r 1) a_g s_g]) (isR := [2]) (isC := [0, 1]) (i0 := 0) ⟨hx, hb, hml, hown, hts⟩ hK hP hD hS hA hG (c6_lampLine l D cs o_r a_r a_t s_r s_t H.size _ eq17) (cwV 0 hts (gV wd815 wd817 wd14 wd106 wd818) rfl rfl rfl (by decide +kernel) ⟨by rw [hR]; exact Nat.le_of_ble_eq_true rfl, by rw [hR]; exact Nat.le_of_ble_eq_true rfl⟩) 3 (by decide) rfl rfl rfl rfl rfl rfl rfl e6 rfl rfl rfl hl.1 rfl (Nat.le_of_ble_eq_true rfl) ⟨Nat.zero_le _, Nat.zero_le _⟩ dX6_line_46 (fun H locs hP hD hS => ?_)
        refine lv_goto (tgt := 111) hx hb dX6_line_49 (by decide) ?_
        exact Jq1 _ (Option.some.inj hf).symm _ _ _ hP hD hS (lv_sub hl [0] rfl)
    · have hf := ifn hc hf
      refine lv_aload_n hx hb dX6_line_20 rfl (lv_at hl 0 rfl) ?_
      refine lv_aload_n hx hb dX6_line_21 rfl (lv_at hl 0 rfl) ?_
      refine gfB (i0 := 0) (own := RX6) (T := TX6) (k := 7) (v := .int (s_r.1 7)) hx hb htX6 hown hK hP rfl e6 rfl (by decide) (hW _ wd237) rfl dX6_line_22 ?_
      refine lv_sipush (v := 300) hx hb dX6_line_25 (by decide) ?_
      refine lv_isub hx hb dX6_line_28 ?_
      obtain ⟨q18, eq18, hf⟩ := bnd hf
      refine mcVv (rest := []) (Bn := [w6 cs o_r a_r q18.1, w9 cs (a_r 0) a_t q18.2, w7 cs (a_r 1) a_g s_g]) (isR := [2]) (isC := [0, 1]) (i0 := 0) ⟨hx, hb, hml, hown, hts⟩ hK hP hD hS hA hG (c6_houseLine l D cs o_r a_r a_t s_r s_t H.size ((s_r.1 7) - 300) _ eq18) (cwV 1 hts (gV wd799 wd801 wd11 wd106 wd802) rfl rfl rfl (by decide +kernel) ⟨by rw [hR]; exact Nat.le_of_ble_eq_true rfl, by rw [hR]; exact Nat.le_of_ble_eq_true rfl⟩) 3 (by decide) rfl rfl rfl rfl rfl rfl rfl e6 rfl rfl rfl hl.1 rfl (Nat.le_of_ble_eq_true rfl) ⟨Nat.zero_le _, Nat.zero_le _⟩ dX6_line_29 (fun H locs hP hD hS => ?_)
      refine lv_goto (tgt := 111) hx hb dX6_line_32 (by decide) ?_
      exact Jq1 _ (Option.some.inj hf).symm _ _ _ hP hD hS (lv_sub hl [0] rfl)
/-! TwinLamps$Reader.parse -/
noncomputable def f6_parse_L9  (v10 : Int32 × St × St × St) : Option ((Int32 × St × St × St) ⊕ (St × St × St)) :=
  if (600 : Int32) ≤ v10.1 then some (.inr (v10.2.1, v10.2.2.1, v10.2.2.2)) else if (v10.2.1.1 6) = 0 then (if (v10.2.1.1 7) = 0 then some (.inr (v10.2.1, v10.2.2.1, v10.2.2.2)) else (f6_line v10.2.1 v10.2.2.1 v10.2.2.2).bind fun q11 =>
  some (.inl ((v10.1 + 1), q11.1, q11.2.1, q11.2.2)))
  else some (.inr (v10.2.1, v10.2.2.1, v10.2.2.2))
noncomputable def f6_parse (s_r : St) (s_t : St) (s_g : St) (x1 : Int32) : Option (Int32 × St × St × St) :=
  ((if (0 : Int32) ≤ x1 then if x1 ≤ (s_r.1 2) then some x1 else some (s_r.1 2) else some 0 : Option (Int32))).bind fun q1 =>
  (some (sS s_r 5 q1)).bind fun s2 =>
  (f9_clear s_t).bind fun q3 =>
  (f7_clear s_g).bind fun q4 =>
  (some (sS s2 6 0)).bind fun s5 =>
  (some (sS s5 3 (-1))).bind fun s6 =>
  (some (sS s6 9 0)).bind fun s7 =>
  (f6_accept s7).bind fun q8 =>
  (lpw (f6_parse_L9) (0, q8, q3, q4)).bind fun q9 =>
  (some (sS q9.1 2 0)).bind fun s12 =>
  some ((s12.1 6), s12, q9.2.1, q9.2.2)
set_option maxHeartbeats 4000000 in
set_option maxRecDepth 100000 in
theorem c6_parse (l : Launch) (D : va_G) (cs : xE) (o_r : Nat) (a_r : Nat → Nat) (a_t : Nat → Nat) (a_g : Nat → Nat) (s_r : St) (s_t : St) (s_g : St) (sz : Nat) (x1 : Int32) (res : Int32 × St × St × St) (hf : f6_parse s_r s_t s_g x1 = some res) : Met l yX6_parse (Cond.code yX6_parse cX6_parse 3 (some .int) :: WG) { frames := 122, cells := 0, slots := 0, locals := 2994 } (va_Pc [.ref o_r, .int x1] (mP D cs (List.flatten [w6 cs o_r a_r s_r, w9 cs (a_r 0) a_t s_t, w7 cs (a_r 1) a_g s_g]) sz)) (qI D cs res.1 (List.flatten [w6 cs o_r a_r res.2.1, w9 cs (a_r 0) a_t res.2.2.1, w7 cs (a_r 1) a_g res.2.2.2]) (va_A (List.flatten [w6 cs o_r a_r s_r, w9 cs (a_r 0) a_t s_t, w7 cs (a_r 1) a_g s_g]) sz)) 0 0 (va_A (List.flatten [w6 cs o_r a_r s_r, w9 cs (a_r 0) a_t s_t, w7 cs (a_r 1) a_g s_g]) sz) := by
  refine mgo (Qc := qI D cs res.1 (List.flatten [w6 cs o_r a_r res.2.1, w9 cs (a_r 0) a_t res.2.2.1, w7 cs (a_r 1) a_g res.2.2.2])) (cc := cX6_parse) (maxL := 3) (ret := (some .int)) (by decide) rfl (Nat.le_of_ble_eq_true rfl) ?_
  intro p e s m below meth c ls A R Q args H hR hQ hx hb hml hr hlocks hown hts hP hK hD hA hS hG hl
  have hown : s.vm.findClass RX6 = some m.cls := hown
  have hl : lv_has ls 3 [(0, .ref o_r), (1, .int x1)] := hl
  have hW : ∀ w ∈ WG, w.before args s = true := fun w h => hts w (List.mem_cons_of_mem _ h)
  have htX6 : ∀ w ∈ u_ws RX6 TX6 12, w.before args s = true := fun w h => hW w (inW_X6 w h)
  unfold f6_parse at hf
  refine lv_aload_n hx hb dX6_parse_0 rfl (lv_at hl 0 rfl) ?_
  refine lv_iload_n hx hb dX6_parse_1 rfl (lv_at hl 1 rfl) ?_
  obtain ⟨q1, hq1, hf⟩ := bnd hf
  have Jq1 : ∀ r1 : Int32, q1 = r1 → ∀ (H : Heap) (locs : List Loc) (ls : Array Slot), va_P D vwCl (List.flatten [w6 cs o_r a_r s_r, w9 cs (a_r 0) a_t s_t, w7 cs (a_r 1) a_g s_g]) H → va_D A (List.flatten [w6 cs o_r a_r s_r, w9 cs (a_r 0) a_t s_t, w7 cs (a_r 1) a_g s_g]) → va_S A s.heap H locs → lv_has ls 3 [(0, .ref o_r)] → W p l e R s m args below meth c H locs 0 0 Q (F0 m 25 ls [.int r1, .ref o_r]) := by
    intro r1 eq1 H locs ls hP hD hS hl
    subst eq1
    obtain ⟨s2, es2, hf⟩ := bnd hf
    replace es2 := Option.some.inj es2
    refine pfB (i0 := 0) (own := RX6) (T := TX6) (k := 5) (Bn := [w6 cs o_r a_r s2, w9 cs (a_r 0) a_t s_t, w7 cs (a_r 1) a_g s_g]) tyX6 tyX6_ok nmX6 hx hb htX6 hown hK hP hD hS rfl e6 rfl (by decide) (hW _ wd235) rfl rfl rfl (Nat.le_of_ble_eq_true rfl) dX6_parse_25 (by rw [← es2]; exact u6_5) rfl (fun H locs hP hD hS => ?_)
    refine lv_aload_n hx hb dX6_parse_28 rfl (lv_at hl 0 rfl) ?_
    refine gfB (i0 := 0) (own := RX6) (T := TX6) (k := 0) (v := .ref (a_r 0)) hx hb htX6 hown hK hP rfl e6 rfl (by decide) (hW _ wd226) rfl dX6_parse_29 ?_
    obtain ⟨q3, eq3, hf⟩ := bnd hf
    refine mcVv (rest := []) (Bn := [w6 cs o_r a_r s2, w9 cs (a_r 0) a_t q3, w7 cs (a_r 1) a_g s_g]) (isR := [0, 2]) (isC := [1]) (i0 := 1) ⟨hx, hb, hml, hown, hts⟩ hK hP hD hS hA hG (c9_clear l D cs (a_r 0) a_t s_t H.size _ eq3) (cwV 0 hts (gV wd692 wd693 wd694 wd107 wd695) rfl rfl rfl (by decide +kernel) ⟨by rw [hR]; exact Nat.le_of_ble_eq_true rfl, by rw [hR]; exact Nat.le_of_ble_eq_true rfl⟩) 3 (by decide) rfl rfl rfl rfl rfl rfl rfl e9 rfl rfl rfl hl.1 rfl (Nat.le_of_ble_eq_true rfl) ⟨Nat.zero_le _, Nat.zero_le _⟩ dX6_parse_32 (fun H locs hP hD hS => ?_)
    refine lv_aload_n hx hb dX6_parse_35 rfl (lv_at hl 0 rfl) ?_
    refine gfB (i0 := 0) (own := RX6) (T := TX6) (k := 1) (v := .ref (a_r 1)) hx hb htX6 hown hK hP rfl e6 rfl (by decide) (hW _ wd228) rfl dX6_parse_36 ?_
    obtain ⟨q4, eq4, hf⟩ := bnd hf
    refine mcVv (rest := []) (Bn := [w6 cs o_r a_r s2, w9 cs (a_r 0) a_t q3, w7 cs (a_r 1) a_g q4]) (isR := [0, 1]) (isC := [2]) (i0 := 2) ⟨hx, hb, hml, hown, hts⟩ hK hP hD hS hA hG (c7_clear l D cs (a_r 1) a_g s_g H.size _ eq4) (cwV 0 hts (gV wd696 wd697 wd698 wd108 wd699) rfl rfl rfl (by decide +kernel) ⟨by rw [hR]; exact Nat.le_of_ble_eq_true rfl, by rw [hR]; exact Nat.le_of_ble_eq_true rfl⟩) 3 (by decide) rfl rfl rfl rfl rfl rfl rfl e7 rfl rfl rfl hl.1 rfl (Nat.le_of_ble_eq_true rfl) ⟨Nat.zero_le _, Nat.zero_le _⟩ dX6_parse_39 (fun H locs hP hD hS => ?_)
    refine lv_aload_n hx hb dX6_parse_42 rfl (lv_at hl 0 rfl) ?_
    refine lv_iconst (v := 0) hx hb dX6_parse_43 (by decide) ?_
    obtain ⟨s5, es5, hf⟩ := bnd hf
    replace es5 := Option.some.inj es5
    refine pfB (i0 := 0) (own := RX6) (T := TX6) (k := 6) (Bn := [w6 cs o_r a_r s5, w9 cs (a_r 0) a_t q3, w7 cs (a_r 1) a_g q4]) tyX6 tyX6_ok nmX6 hx hb htX6 hown hK hP hD hS rfl e6 rfl (by decide) (hW _ wd236) rfl rfl rfl (Nat.le_of_ble_eq_true rfl) dX6_parse_44 (by rw [← es5]; exact u6_6) rfl (fun H locs hP hD hS => ?_)
    refine lv_aload_n hx hb dX6_parse_47 rfl (lv_at hl 0 rfl) ?_
    refine lv_iconst (v := (-1)) hx hb dX6_parse_48 (by decide) ?_
    obtain ⟨s6, es6, hf⟩ := bnd hf
    replace es6 := Option.some.inj es6
    refine pfB (i0 := 0) (own := RX6) (T := TX6) (k := 3) (Bn := [w6 cs o_r a_r s6, w9 cs (a_r 0) a_t q3, w7 cs (a_r 1) a_g q4]) tyX6 tyX6_ok nmX6 hx hb htX6 hown hK hP hD hS rfl e6 rfl (by decide) (hW _ wd232) rfl rfl rfl (Nat.le_of_ble_eq_true rfl) dX6_parse_49 (by rw [← es6]; exact u6_3) rfl (fun H locs hP hD hS => ?_)
    refine lv_aload_n hx hb dX6_parse_52 rfl (lv_at hl 0 rfl) ?_
    refine lv_iconst (v := 0) hx hb dX6_parse_53 (by decide) ?_
    obtain ⟨s7, es7, hf⟩ := bnd hf
    replace es7 := Option.some.inj es7
    refine pfB (i0 := 0) (own := RX6) (T := TX6) (k := 9) (Bn := [w6 cs o_r a_r s7, w9 cs (a_r 0) a_t q3, w7 cs (a_r 1) a_g q4]) tyX6 tyX6_ok nmX6 hx hb htX6 hown hK hP hD hS rfl e6 rfl (by decide) (hW _ wd239) rfl rfl rfl (Nat.le_of_ble_eq_true rfl) dX6_parse_54 (by rw [← es7]; exact u6_9) rfl (fun H locs hP hD hS => ?_)
    refine lv_aload_n hx hb dX6_parse_57 rfl (lv_at hl 0 rfl) ?_
    obtain ⟨q8, eq8, hf⟩ := bnd hf
    refine mcVv (rest := []) (Bn := [w6 cs o_r a_r q8, w9 cs (a_r 0) a_t q3, w7 cs (a_r 1) a_g q4]) (isR := [1, 2]) (isC := [0]) (i0 := 0) ⟨hx, hb, hml, hown, hts⟩ hK hP hD hS hA hG (c6_accept l D cs o_r a_r s7 H.size _ eq8) (cwV 0 hts (gV wd700 wd702 wd6 wd106 wd703) rfl rfl rfl (by decide +kernel) ⟨by rw [hR]; exact Nat.le_of_ble_eq_true rfl, by rw [hR]; exact Nat.le_of_ble_eq_true rfl⟩) 3 (by decide) rfl rfl rfl rfl rfl rfl rfl e6 rfl rfl rfl hl.1 rfl (Nat.le_of_ble_eq_true rfl) ⟨Nat.zero_le _, Nat.zero_le _⟩ dX6_parse_58 (fun H locs hP hD hS => ?_)
    refine lv_iconst (v := 0) hx hb dX6_parse_61 (by decide) ?_
    refine lv_istore_n (lv' := [(2, .int 0), (0, .ref o_r)]) hx hb dX6_parse_62 rfl hl (by decide) rfl (fun ls hl => ?_)
    obtain ⟨q9, hq9, hf⟩ := bnd hf
    obtain ⟨n9, hq9⟩ := lpw_ex hq9
    have Jq9_0 : ∀ rr9_0 : St × St × St, q9 = rr9_0 → ∀ (H : Heap) (locs : List Loc) (ls : Array Slot), va_P D vwCl (List.flatten [w6 cs o_r a_r rr9_0.1, w9 cs (a_r 0) a_t rr9_0.2.1, w7 cs (a_r 1) a_g rr9_0.2.2]) H → va_D A (List.flatten [w6 cs o_r a_r rr9_0.1, w9 cs (a_r 0) a_t rr9_0.2.1, w7 cs (a_r 1) a_g rr9_0.2.2]) → va_S A s.heap H locs → lv_has ls 3 [(0, .ref o_r)] → W p l e R s m args below meth c H locs 0 0 Q (F0 m 94 ls []) := by
      intro rr9_0 eq9 H locs ls hP hD hS hl
      subst eq9
      refine lv_aload_n hx hb dX6_parse_94 rfl (lv_at hl 0 rfl) ?_
      refine lv_iconst (v := 0) hx hb dX6_parse_95 (by decide) ?_
      obtain ⟨s12, es12, hf⟩ := bnd hf
      replace es12 := Option.some.inj es12
      refine pfB (i0 := 0) (own := RX6) (T := TX6) (k := 2) (Bn := [w6 cs o_r a_r s12, w9 cs (a_r 0) a_t q9.2.1, w7 cs (a_r 1) a_g q9.2.2]) tyX6 tyX6_ok nmX6 hx hb htX6 hown hK hP hD hS rfl e6 rfl (by decide) (hW _ wd231) rfl rfl rfl (Nat.le_of_ble_eq_true rfl) dX6_parse_96 (by rw [← es12]; exact u6_2) rfl (fun H locs hP hD hS => ?_)
      refine lv_aload_n hx hb dX6_parse_99 rfl (lv_at hl 0 rfl) ?_
      refine gfB (i0 := 0) (own := RX6) (T := TX6) (k := 6) (v := .int (s12.1 6)) hx hb htX6 hown hK hP rfl e6 rfl (by decide) (hW _ wd236) rfl dX6_parse_100 ?_
      obtain rfl := Option.some.inj hf
      exact mretI hx hb hr hlocks hK hP hD hS rfl hQ dX6_parse_103
    clear hf
    have L9 : ∀ n9, ∀ v10 : Int32 × St × St × St, lp n9 (f6_parse_L9) v10 = some q9 → ∀ (H : Heap) (locs : List Loc) (ls : Array Slot), va_P D vwCl (List.flatten [w6 cs o_r a_r v10.2.1, w9 cs (a_r 0) a_t v10.2.2.1, w7 cs (a_r 1) a_g v10.2.2.2]) H → va_D A (List.flatten [w6 cs o_r a_r v10.2.1, w9 cs (a_r 0) a_t v10.2.2.1, w7 cs (a_r 1) a_g v10.2.2.2]) → va_S A s.heap H locs → lv_has ls 3 [(0, .ref o_r), (2, .int v10.1)] → W p l e R s m args below meth c H locs 0 0 Q (F0 m 63 ls []) := by
      intro n9
      induction n9 with
      | zero => intro v10 hn; cases hn
      | succ n9 ih9 =>
        intro v10 hn9 H locs ls hP hD hS hl
        obtain ⟨y9, hf, hn9⟩ := lp_succ hn9
        unfold f6_parse_L9 at hf
        refine lv_iload_n hx hb dX6_parse_63 rfl (lv_at hl 1 rfl) ?_
        refine lv_sipush (v := 600) hx hb dX6_parse_64 (by decide) ?_
        refine lv_icmp_ge (tgt := 94) hx hb dX6_parse_67 (by decide) (fun hc => ?_) (fun hc => ?_)
        · have hf := ifp hc hf
          cases hf
          exact Jq9_0 _ (Option.some.inj hn9).symm _ _ _ hP hD hS (lv_sub hl [0] rfl)
        · have hf := ifn hc hf
          refine lv_aload_n hx hb dX6_parse_70 rfl (lv_at hl 0 rfl) ?_
          refine gfB (i0 := 0) (own := RX6) (T := TX6) (k := 6) (v := .int (v10.2.1.1 6)) hx hb htX6 hown hK hP rfl e6 rfl (by decide) (hW _ wd236) rfl dX6_parse_71 ?_
          refine lv_if_ne (tgt := 94) hx hb dX6_parse_74 (by decide) (fun hc => ?_) (fun hc => ?_)
          · have hf := ifn hc hf
            cases hf
            exact Jq9_0 _ (Option.some.inj hn9).symm _ _ _ hP hD hS (lv_sub hl [0] rfl)
          · have hf := ifp hc hf
            refine lv_aload_n hx hb dX6_parse_77 rfl (lv_at hl 0 rfl) ?_
            refine gfB (i0 := 0) (own := RX6) (T := TX6) (k := 7) (v := .int (v10.2.1.1 7)) hx hb htX6 hown hK hP rfl e6 rfl (by decide) (hW _ wd237) rfl dX6_parse_78 ?_
            refine lv_if_eq (tgt := 94) hx hb dX6_parse_81 (by decide) (fun hc => ?_) (fun hc => ?_)
            · have hf := ifp hc hf
              cases hf
              exact Jq9_0 _ (Option.some.inj hn9).symm _ _ _ hP hD hS (lv_sub hl [0] rfl)
            · have hf := ifn hc hf
              refine lv_aload_n hx hb dX6_parse_84 rfl (lv_at hl 0 rfl) ?_
              obtain ⟨q11, eq11, hf⟩ := bnd hf
              refine mcVv (rest := []) (Bn := [w6 cs o_r a_r q11.1, w9 cs (a_r 0) a_t q11.2.1, w7 cs (a_r 1) a_g q11.2.2]) (isR := []) (isC := [0, 1, 2]) (i0 := 0) ⟨hx, hb, hml, hown, hts⟩ hK hP hD hS hA hG (c6_line l D cs o_r a_r a_t a_g v10.2.1 v10.2.2.1 v10.2.2.2 H.size _ eq11) (cwV 0 hts (gV wd795 wd797 wd10 wd106 wd798) rfl rfl rfl (by decide +kernel) ⟨by rw [hR]; exact Nat.le_of_ble_eq_true rfl, by rw [hR]; exact Nat.le_of_ble_eq_true rfl⟩) 3 (by decide) rfl rfl rfl rfl rfl rfl rfl e6 rfl rfl rfl hl.1 rfl (Nat.le_of_ble_eq_true rfl) ⟨Nat.zero_le _, Nat.zero_le _⟩ dX6_parse_85 (fun H locs hP hD hS => ?_)
              refine lv_iinc (v := (v10.1 + 1)) (lv' := [(2, .int (v10.1 + 1)), (0, .ref o_r)]) hx hb dX6_parse_88 hl (k := 1) rfl rfl (by decide) rfl (fun ls hl => ?_)
              refine lv_goto (tgt := 63) hx hb dX6_parse_91 (by decide) ?_
              cases hf
              exact ih9 _ hn9 _ _ _ hP hD hS (lv_sub hl [1, 0] rfl)
    exact L9 _ _ hq9 _ _ _ hP hD hS (lv_sub hl [1, 0] rfl)
  clear hf
  have hf := hq1
  refine lv_if_ge (tgt := 9) hx hb dX6_parse_2 (by decide) (fun hc => ?_) (fun hc => ?_)
  · have hf := ifp hc hf
    refine lv_iload_n hx hb dX6_parse_9 rfl (lv_at hl 1 rfl) ?_
    refine lv_aload_n hx hb dX6_parse_10 rfl (lv_at hl 0 rfl) ?_
    refine gfB (i0 := 0) (own := RX6) (T := TX6) (k := 2) (v := .int (s_r.1 2)) hx hb htX6 hown hK hP rfl e6 rfl (by decide) (hW _ wd231) rfl dX6_parse_11 ?_
    refine lv_icmp_le (tgt := 24) hx hb dX6_parse_14 (by decide) (fun hc => ?_) (fun hc => ?_)
    · have hf := ifp hc hf
      refine lv_iload_n hx hb dX6_parse_24 rfl (lv_at hl 1 rfl) ?_
      exact Jq1 _ (Option.some.inj hf).symm _ _ _ hP hD hS (lv_sub hl [0] rfl)
    · have hf := ifn hc hf
      refine lv_aload_n hx hb dX6_parse_17 rfl (lv_at hl 0 rfl) ?_
      refine gfB (i0 := 0) (own := RX6) (T := TX6) (k := 2) (v := .int (s_r.1 2)) hx hb htX6 hown hK hP rfl e6 rfl (by decide) (hW _ wd231) rfl dX6_parse_18 ?_
      refine lv_goto (tgt := 25) hx hb dX6_parse_21 (by decide) ?_
      exact Jq1 _ (Option.some.inj hf).symm _ _ _ hP hD hS (lv_sub hl [0] rfl)
  · have hf := ifn hc hf
    refine lv_iconst (v := 0) hx hb dX6_parse_5 (by decide) ?_
    refine lv_goto (tgt := 25) hx hb dX6_parse_6 (by decide) ?_
    exact Jq1 _ (Option.some.inj hf).symm _ _ _ hP hD hS (lv_sub hl [0] rfl)
