/-! THE CLAIM OUT OF ONE WALK OF THE LAW'S BODY. Your part is whole_start (and what it stands on); all else here is the same for every law, but numbers. -/
def R_law : String := "TwinLampsLaw"
def lw_P (b : Addr) (xs : List Int32) (args : Array Value) (s : State) : Prop := args = #[.ref b] ∧ s.IntsAt b xs ∧ xs.length ≤ 3072 ∧ (Jvm.Cond.and given_1 narrow_1).before args s = true
def lw_Q (_ : Array Value) (s : State) (o : Outcome) (t : State) : Prop := o = .returned (some (.int 1)) ∧ Framed s o t [] 601024 7293034
def lw_Z (below : List Frame) (a : Array Value) (s : State) : State → Prop := fun t => ∃ o, t.status = .running ∧ Ended t below o ∧ lw_Q a s o t
/-- the law's own end, with 1 on the stack, nothing written that was there before, its room as the claim has it -/
theorem lw_ret {p : Program} {l : Launch} {e : Env} {s : State} {m : MethodId} {below : List Frame} {meth : Method} {c : Code} {b : Nat} (hx : p.tables.exec = Jvm.exec) (hb : c.code = code) (hr : meth.sig.returnType = ret) (hlocks : meth.locks = false) {pc : Nat} {H : Heap} {ls : Array Slot} (hdg : decode code pc = .ok (.ireturn, 1)) : W p l e room_1 s m #[Value.ref b] below meth c H [] 601024 7293034 (lw_Z below #[Value.ref b] s) (F0 m pc ls [.int 1]) := by
  intro T hT X
  obtain ⟨fs, hret, hrun, hended, hW, hframe⟩ := X.leave (v := some (.int 1)) (hlocks := hlocks) (fun h => by rw [hr] at h; cases h)
  have hmeth' : T.vm.method? m = some meth := X.method'
  refine ⟨T.setFrames fs, ?_, .returned (some (.int 1)), hrun, hended, rfl, ⟨_, rfl⟩, hW, hframe⟩
  jvm_step X.here [X.here.top, hx, hb, hdg, hmeth', hr, ret, narrow_b1]
  (try refine ⟨rfl, ?_⟩); (try refine ⟨rfl, ?_⟩)
  first | (intro acts; rw [hret _ acts rfl rfl rfl]) | rw [hret _ _ rfl rfl rfl]
  exact Steps.refl _
/-- what holds at the law's entry: the machine, the code, the tables' words (any of lw_tbl by 'hts w (by decide +kernel)'), the script of L ints xs at the cell b, what the Statement gives of the start (any of its parts by flat_of_before) -/
def lw_At (p : Program) (s : State) (m : MethodId) (meth : Method) (c : Code) (b L : Nat) (xs : Nat → Int32) : Prop :=
  p.tables.exec = Jvm.exec ∧ c.code = code ∧ meth.sig.returnType = ret ∧ c.maxLocals = 7 ∧ s.vm.findClass R_law = some m.cls ∧ (∀ w ∈ lw_tbl, w.before #[Value.ref b] s = true) ∧ va_X b L xs s s.heap ∧ b < s.heap.size ∧ meth.locks = false ∧ (Jvm.Cond.and given_1 narrow_1).before #[Value.ref b] s = true
/-! the law's loop: rows -/
def LA (s : State) : Nat → Prop := fun q => s.heap.size ≤ q
/-- what stays through the law: the entry's words, the launch, the tables -/
def LFx (p : Program) (l : Launch) (s : State) (m : MethodId) (meth : Method) (c : Code) (D : va_G) (cs : xE) (b L : Nat) (xs : Nat → Int32) : Prop := lw_At p s m meth c b L xs ∧ l.stackTraces = false ∧ va_K D vwCl (tyL cs) s ∧ xG cs (LA s) s s.heap ∧ (∀ w ∈ Cond.initialized "TwinLampsLaw" :: WG, w.before #[Value.ref b] s = true) ∧ L ≤ 3072
def LV (b o mo qo i : Nat) : List (Nat × Value) := [(0, .ref b), (1, .ref o), (2, .ref mo), (3, .ref qo), (4, .int (nI i))]
def LW (cs : xE) (o mo qo : Nat) (x : Nat → Nat → Nat) (xm : Nat → Nat) (sx : St) (sr : St) (srt : St) (srg : St) (st : St) (sg : St) (sh : HSt) (sv : St) (sp : St) (spt : St) (sph : HSt) (spv : St) (se : St) (st2 : St) (sm : St) (sd : St) (su : St) (mm : St) (fo : Nat → Int64) : List va_W := [w10 cs o (x 0) sx, w6 cs (x 0 0) (x 1) sr, w9 cs (x 1 0) (x 2) srt, w7 cs (x 1 1) (x 3) srg, w9 cs (x 0 2) (x 4) st, w7 cs (x 0 1) (x 5) sg, w3 cs (x 0 3) (x 6) sh, w8 cs (x 0 4) (x 7) sv, w5 cs (x 0 6) (x 8) sp, w9 cs (x 8 1) (x 9) spt, w3 cs (x 8 2) (x 10) sph, w8 cs (x 8 3) (x 11) spv, w2 cs (x 0 8) a0n se, w9 cs (x 0 9) (x 12) st2, w4 cs (x 0 10) (x 13) sm, w0 cs (x 0 11) a0n sd, w1 cs (x 0 12) a0n su, w11 cs mo xm mm, wO cs qo fo]
/-- behind a case of the switch -/
def LKx (p : Program) (l : Launch) (e : Env) (s : State) (m : MethodId) (below : List Frame) (meth : Method) (c : Code) (D : va_G) (cs : xE) (b o mo qo : Nat) (x : Nat → Nat → Nat) (xm : Nat → Nat) (i cells slots : Nat) : Prop := ∀ (sx : St) (sr : St) (srt : St) (srg : St) (st : St) (sg : St) (sh : HSt) (sv : St) (sp : St) (spt : St) (sph : HSt) (spv : St) (se : St) (st2 : St) (sm : St) (sd : St) (su : St) (mm : St) (fo : Nat → Int64) (H : Heap) (locs : List Loc) (ls : Array Slot), AllR sx sr st sg sh sv sp spt sph spv mm → va_P D vwCl (LW cs o mo qo x xm sx sr srt srg st sg sh sv sp spt sph spv se st2 sm sd su mm fo).flatten H → va_D (LA s) (LW cs o mo qo x xm sx sr srt srg st sg sh sv sp spt sph spv se st2 sm sd su mm fo).flatten → va_S (LA s) s.heap H locs → lv_has ls 7 (LV b o mo qo i) → W p l e room_1 s m #[Value.ref b] below meth c H locs cells slots (lw_Z below #[Value.ref b] s) (F0 m 2162 ls [])
section LB
variable {p : Program} {l : Launch} {e : Env} {s : State} {m : MethodId} {below : List Frame} {meth : Method} {c : Code} {H : Heap} {locs : List Loc} {cells slots : Nat} {Q : State → Prop}
variable {D : va_G} {cs : xE} {b L i k pc : Nat} {xs : Nat → Int32} {ls : Array Slot} {rest : List Value} {lv : List (Nat × Value)}
theorem LFx.A (_ : LFx p l s m meth c D cs b L xs) : ∀ q : Nat, s.heap.size ≤ q → LA s q := fun _ h => h
theorem LFx.bA (F : LFx p l s m meth c D cs b L xs) : ¬ LA s b := Nat.not_le.mpr F.1.2.2.2.2.2.2.2.1
theorem nI_add6 {i k L : Nat} (h : i + k < L) (hL : L ≤ 3072) : (nI i + nI k).toNatClampNeg = i + k := by
  rw [nI_add, nI_clamp (by omega)]
/-- the script at i + k -/
theorem lsc {n : Int} {k0 k4 : Nat} (F : LFx p l s m meth c D cs b L xs) (hS : va_S (LA s) s.heap H locs) (hl : lv_has ls 7 lv) (h0 : lv[k0]? = some (0, .ref b)) (h4 : lv[k4]? = some (4, .int (nI i))) (hi : i + k < L) (hn : Int32.ofInt n = nI k) (d0 : decode code pc = .ok (.aload_n 0, 1)) (d1 : decode code (pc + 1) = .ok (.iload 4, 2)) (d3 : decode code (pc + 3) = .ok (.iconst n, 1)) (d4 : decode code (pc + 4) = .ok (.iadd, 1)) (d5 : decode code (pc + 5) = .ok (.iaload, 1))
    (kk : W p l e room_1 s m #[Value.ref b] below meth c H locs cells slots Q (F0 m (pc + 6) ls (.int (xs (i + k)) :: rest))) : W p l e room_1 s m #[Value.ref b] below meth c H locs cells slots Q (F0 m pc ls rest) := by
  obtain ⟨⟨hx, hb, hr, hml, hown, hts, hX, hbl, hlocks, hgv⟩, -, -, -, -, hL⟩ := id F
  refine lv_aload_n hx hb d0 rfl (lv_at hl k0 h0) ?_
  refine lv_iload hx hb d1 (lv_at hl k4 h4) ?_
  refine lv_iconst (v := nI k) hx hb d3 hn ?_
  refine lv_iadd hx hb d4 ?_
  refine va_sld hx hb hX hbl F.bA hS (by rw [nI_add]; exact vp_in_nI hi (by omega)) d5 ?_
  rw [nI_add6 hi hL]
  exact kk
theorem lz_ne0 {v : Int32} (hx : p.tables.exec = Jvm.exec) (hb : c.code = code) (d0 : decode code pc = .ok (.ifCond .eq 7, 3)) (d1 : decode code (pc + 3) = .ok (.iconst 1, 1)) (d2 : decode code (pc + 4) = .ok (.goto 4, 3)) (d3 : decode code (pc + 7) = .ok (.iconst 0, 1))
    (kk : W p l e room_1 s m #[Value.ref b] below meth c H locs cells slots Q (F0 m (pc + 8) ls (.int (zB (decide (¬ v = 0))) :: rest))) : W p l e room_1 s m #[Value.ref b] below meth c H locs cells slots Q (F0 m pc ls (.int v :: rest)) := by
  refine lv_if_eq (tgt := pc + 7) hx hb d0 (by omega) (fun h => ?_) (fun h => ?_)
  · refine lv_iconst (v := 0) hx hb d3 (by decide) ?_
    rw [decide_eq_false (fun z => z h)] at kk
    exact kk
  · refine lv_iconst (v := 1) hx hb d1 (by decide) ?_
    refine lv_goto (tgt := pc + 8) hx hb d2 (by omega) ?_
    rw [decide_eq_true h] at kk
    exact kk
end LB
section LT
variable {p : Program} {l : Launch} {e : Env} {s : State} {m : MethodId} {below : List Frame} {meth : Method} {c : Code} {H : Heap} {locs : List Loc} {cells slots : Nat}
variable {D : va_G} {cs : xE} {b L i pc o mo qo : Nat} {xs : Nat → Int32} {ls : Array Slot} {x : Nat → Nat → Nat} {xm : Nat → Nat} {sx : St} {sr : St} {srt : St} {srg : St} {st : St} {sg : St} {sh : HSt} {sv : St} {sp : St} {spt : St} {sph : HSt} {spv : St} {se : St} {st2 : St} {sm : St} {sd : St} {su : St} {mm : St} {fo : Nat → Int64}
theorem lgc_self (x : Int64) : lg_cmp x x = 0 := by
  unfold lg_cmp
  rw [if_neg (fun h => absurd ((fa_lt64 _ _).1 h) (by omega)), if_pos rfl]
set_option maxHeartbeats 4000000 in
theorem tail_i {off : Int} (F : LFx p l s m meth c D cs b L xs) (hC0 : cells ≤ room_1.cells ∧ slots ≤ room_1.slots) {v : Int32} (w : Int32) (hv : mm.1 2 = v) (hw : v = 0 → fo 0 = w.toInt64) (d0 : decode code pc = .ok (.istore 6, 2)) (d2 : decode code (pc + 2) = .ok (.aload_n 2, 1)) (d3 : decode code (pc + 3) = .ok (.invokevirtual 117, 3)) (d6 : decode code (pc + 6) = .ok (.iload 5, 2)) (d8 : decode code (pc + 8) = .ok (.if_icmp .eq 5, 3)) (d13 : decode code (pc + 13) = .ok (.iload 5, 2)) (d15 : decode code (pc + 15) = .ok (.ifCond .ne 15, 3)) (d18 : decode code (pc + 18) = .ok (.aload_n 3, 1)) (d19 : decode code (pc + 19) = .ok (.iconst 0, 1)) (d20 : decode code (pc + 20) = .ok (.laload, 1)) (d21 : decode code (pc + 21) = .ok (.iload 6, 2)) (d23 : decode code (pc + 23) = .ok (.i2l, 1)) (d24 : decode code (pc + 24) = .ok (.lcmp, 1)) (d25 : decode code (pc + 25) = .ok (.ifCond .eq 5, 3)) (d30 : decode code (pc + 30) = .ok (.goto off, 3)) (ht : (pc : Int) + 30 + off = 2162)
    (hP : va_P D vwCl (LW cs o mo qo x xm sx sr srt srg st sg sh sv sp spt sph spv se st2 sm sd su mm fo).flatten H) (hD : va_D (LA s) (LW cs o mo qo x xm sx sr srt srg st sg sh sv sp spt sph spv se st2 sm sd su mm fo).flatten) (hS : va_S (LA s) s.heap H locs) (hl : lv_has ls 7 ((5, .int v) :: LV b o mo qo i))
    (kk : ∀ (H : Heap) (locs : List Loc) (ls : Array Slot), va_P D vwCl (LW cs o mo qo x xm sx sr srt srg st sg sh sv sp spt sph spv se st2 sm sd su mm fo).flatten H → va_D (LA s) (LW cs o mo qo x xm sx sr srt srg st sg sh sv sp spt sph spv se st2 sm sd su mm fo).flatten → va_S (LA s) s.heap H locs → lv_has ls 7 (LV b o mo qo i) → W p l e room_1 s m #[Value.ref b] below meth c H locs cells slots (lw_Z below #[Value.ref b] s) (F0 m 2162 ls [])) :
    W p l e room_1 s m #[Value.ref b] below meth c H locs cells slots (lw_Z below #[Value.ref b] s) (F0 m pc ls [.int (w)]) := by
  obtain ⟨⟨hx, hb, hr, hml, hown, hts, hX, hbl, hlocks, hgv⟩, hl0, hK, hG, hW, hL⟩ := id F
  have hown : s.vm.findClass RL = some m.cls := hown
  have hA := F.A
  refine lv_istore (lv' := (6, .int (w)) :: (5, .int v) :: LV b o mo qo i) hx hb d0 hl (by decide) rfl (fun ls hl => ?_)
  refine lv_aload_n hx hb d2 rfl (lv_at hl 4 rfl) ?_
  refine mcVi (v := mm.1 2) (rest := []) (Bn := LW cs o mo qo x xm sx sr srt srg st sg sh sv sp spt sph spv se st2 sm sd su mm fo) (isR := [0, 1, 2, 3, 4, 5, 6, 7, 8, 9, 10, 11, 12, 13, 14, 15, 16, 18]) (isC := [17]) (i0 := 17) ⟨hx, hb, hml, hown, hW⟩ hK hP hD hS hA hG (c11_thrown l D cs mo xm mm H.size (mm.1 2) rfl) (cwV 0 hW (gV wd1497 wd1498 wd1499 wd116 wd1500) rfl rfl rfl (by decide +kernel) ⟨(Nat.le_of_ble_eq_true rfl), (Nat.le_of_ble_eq_true rfl)⟩) 19 (by decide) rfl rfl rfl rfl rfl rfl rfl e11 rfl rfl rfl hl.1 rfl (Nat.le_of_ble_eq_true rfl) hC0 d3 (fun H locs hP hD hS => ?_)
  refine lv_iload hx hb d6 (lv_at hl 1 rfl) ?_
  refine lv_icmp_eq (tgt := pc + 13) hx hb d8 (by omega) (fun _ => ?_) (fun z => absurd hv z)
  refine lv_iload hx hb d13 (lv_at hl 1 rfl) ?_
  have hE : W p l e room_1 s m #[Value.ref b] below meth c H locs cells slots (lw_Z below #[Value.ref b] s) (F0 m (pc + 30) ls []) := lv_goto (tgt := 2162) hx hb d30 (by omega) (kk H locs ls hP hD hS (lv_sub hl [2, 3, 4, 5, 6] rfl))
  refine lv_if_ne (tgt := pc + 30) hx hb d15 (by omega) (fun _ => hE) (fun hv0 => ?_)
  refine lv_aload_n hx hb d18 rfl (lv_at hl 5 rfl) ?_
  refine lv_iconst (v := 0) hx hb d19 (by decide) ?_
  refine llO (i0 := 18) (q := qo) (f := fo) hx hb hK hP rfl d20 ?_
  refine lv_iload hx hb d21 (lv_at hl 0 rfl) ?_
  refine lv_i2l hx hb d23 rfl ?_
  refine W.lcmp hx hb d24 ?_
  rw [hw hv0, lgc_self]
  exact lv_if_eq (tgt := pc + 30) hx hb d25 (by omega) (fun _ => hE) (fun z => absurd rfl z)
set_option maxHeartbeats 4000000 in
theorem tail_b {off : Int} (F : LFx p l s m meth c D cs b L xs) (hC0 : cells ≤ room_1.cells ∧ slots ≤ room_1.slots) {v : Int32} (w : Bool) (hv : mm.1 2 = v) (hw : v = 0 → fo 0 = (if w = true then 1 else 0)) (d0 : decode code pc = .ok (.istore 6, 2)) (d2 : decode code (pc + 2) = .ok (.aload_n 2, 1)) (d3 : decode code (pc + 3) = .ok (.invokevirtual 117, 3)) (d6 : decode code (pc + 6) = .ok (.iload 5, 2)) (d8 : decode code (pc + 8) = .ok (.if_icmp .eq 5, 3)) (d13 : decode code (pc + 13) = .ok (.iload 5, 2)) (d15 : decode code (pc + 15) = .ok (.ifCond .ne 22, 3)) (d18 : decode code (pc + 18) = .ok (.aload_n 3, 1)) (d19 : decode code (pc + 19) = .ok (.iconst 0, 1)) (d20 : decode code (pc + 20) = .ok (.laload, 1)) (d21 : decode code (pc + 21) = .ok (.iload 6, 2)) (d23 : decode code (pc + 23) = .ok (.ifCond .eq 7, 3)) (d26 : decode code (pc + 26) = .ok (.lconst 1, 1)) (d27 : decode code (pc + 27) = .ok (.goto 4, 3)) (d30 : decode code (pc + 30) = .ok (.lconst 0, 1)) (d31 : decode code (pc + 31) = .ok (.lcmp, 1)) (d32 : decode code (pc + 32) = .ok (.ifCond .eq 5, 3)) (d37 : decode code (pc + 37) = .ok (.goto off, 3)) (ht : (pc : Int) + 37 + off = 2162)
    (hP : va_P D vwCl (LW cs o mo qo x xm sx sr srt srg st sg sh sv sp spt sph spv se st2 sm sd su mm fo).flatten H) (hD : va_D (LA s) (LW cs o mo qo x xm sx sr srt srg st sg sh sv sp spt sph spv se st2 sm sd su mm fo).flatten) (hS : va_S (LA s) s.heap H locs) (hl : lv_has ls 7 ((5, .int v) :: LV b o mo qo i))
    (kk : ∀ (H : Heap) (locs : List Loc) (ls : Array Slot), va_P D vwCl (LW cs o mo qo x xm sx sr srt srg st sg sh sv sp spt sph spv se st2 sm sd su mm fo).flatten H → va_D (LA s) (LW cs o mo qo x xm sx sr srt srg st sg sh sv sp spt sph spv se st2 sm sd su mm fo).flatten → va_S (LA s) s.heap H locs → lv_has ls 7 (LV b o mo qo i) → W p l e room_1 s m #[Value.ref b] below meth c H locs cells slots (lw_Z below #[Value.ref b] s) (F0 m 2162 ls [])) :
    W p l e room_1 s m #[Value.ref b] below meth c H locs cells slots (lw_Z below #[Value.ref b] s) (F0 m pc ls [.int (zB w)]) := by
  obtain ⟨⟨hx, hb, hr, hml, hown, hts, hX, hbl, hlocks, hgv⟩, hl0, hK, hG, hW, hL⟩ := id F
  have hown : s.vm.findClass RL = some m.cls := hown
  have hA := F.A
  refine lv_istore (lv' := (6, .int (zB w)) :: (5, .int v) :: LV b o mo qo i) hx hb d0 hl (by decide) rfl (fun ls hl => ?_)
  refine lv_aload_n hx hb d2 rfl (lv_at hl 4 rfl) ?_
  refine mcVi (v := mm.1 2) (rest := []) (Bn := LW cs o mo qo x xm sx sr srt srg st sg sh sv sp spt sph spv se st2 sm sd su mm fo) (isR := [0, 1, 2, 3, 4, 5, 6, 7, 8, 9, 10, 11, 12, 13, 14, 15, 16, 18]) (isC := [17]) (i0 := 17) ⟨hx, hb, hml, hown, hW⟩ hK hP hD hS hA hG (c11_thrown l D cs mo xm mm H.size (mm.1 2) rfl) (cwV 0 hW (gV wd1497 wd1498 wd1499 wd116 wd1500) rfl rfl rfl (by decide +kernel) ⟨(Nat.le_of_ble_eq_true rfl), (Nat.le_of_ble_eq_true rfl)⟩) 19 (by decide) rfl rfl rfl rfl rfl rfl rfl e11 rfl rfl rfl hl.1 rfl (Nat.le_of_ble_eq_true rfl) hC0 d3 (fun H locs hP hD hS => ?_)
  refine lv_iload hx hb d6 (lv_at hl 1 rfl) ?_
  refine lv_icmp_eq (tgt := pc + 13) hx hb d8 (by omega) (fun _ => ?_) (fun z => absurd hv z)
  refine lv_iload hx hb d13 (lv_at hl 1 rfl) ?_
  have hE : W p l e room_1 s m #[Value.ref b] below meth c H locs cells slots (lw_Z below #[Value.ref b] s) (F0 m (pc + 37) ls []) := lv_goto (tgt := 2162) hx hb d37 (by omega) (kk H locs ls hP hD hS (lv_sub hl [2, 3, 4, 5, 6] rfl))
  refine lv_if_ne (tgt := pc + 37) hx hb d15 (by omega) (fun _ => hE) (fun hv0 => ?_)
  refine lv_aload_n hx hb d18 rfl (lv_at hl 5 rfl) ?_
  refine lv_iconst (v := 0) hx hb d19 (by decide) ?_
  refine llO (i0 := 18) (q := qo) (f := fo) hx hb hK hP rfl d20 ?_
  refine lv_iload hx hb d21 (lv_at hl 0 rfl) ?_
  cases w with
  | false =>
    refine lv_if_eq (tgt := pc + 30) hx hb d23 (by omega) (fun _ => ?_) (fun z => absurd rfl z)
    refine lv_lconst (v := 0) hx hb d30 rfl ?_
    refine W.lcmp hx hb d31 ?_
    rw [hw hv0]
    exact lv_if_eq (tgt := pc + 37) hx hb d32 (by omega) (fun _ => hE) (fun z => absurd (by decide) z)
  | true =>
    refine lv_if_eq (tgt := pc + 30) hx hb d23 (by omega) (fun z => absurd z (by decide)) (fun _ => ?_)
    refine lv_lconst (v := 1) hx hb d26 rfl ?_
    refine lv_goto (tgt := pc + 31) hx hb d27 (by omega) ?_
    refine W.lcmp hx hb d31 ?_
    rw [hw hv0]
    exact lv_if_eq (tgt := pc + 37) hx hb d32 (by omega) (fun _ => hE) (fun z => absurd (by decide) z)
end LT
