/-! the law's own static methods: rows -/
theorem mgoW {l : Launch} {y : MethodName} {ws ws' : List Cond} {fr mc ms lo : Nat} {As : List Value} {D : va_G} {cs : xE} {w : va_W} {sz : Nat} {Qc : (Nat → Prop) → Array Value → State → Outcome → State → Prop} {cc : ByteArray} {maxL : Nat} {ret : Option FieldType} {hh : List (Nat × Nat × Nat × Nat)}
    (hy : plainName y.cls = true) (hw : ws = Cond.codeWith y cc maxL ret hh :: ws') (hn : (lg_sl As).length ≤ maxL)
    (body : ∀ (p : Program) (e : Env) (s : State) (m : MethodId) (below : List Frame) (meth : Method) (c : Code) (ls : Array Slot) (A : Nat → Prop) (R : Room) (Q : State → Prop) (args : Array Value) (H : Heap), R = { frames := fr, cells := mc, slots := ms, locals := lo } → Q = MQ below (Qc A) args s mc ms A → p.tables.exec = Jvm.exec → c.code = cc → c.maxLocals = maxL → meth.sig.returnType = ret → meth.locks = false → c.exceptionTable.toList = tableOf hh → s.vm.findClass y.cls = some m.cls → (∀ w ∈ ws, w.before args s = true) → va_P D vwCl w H → va_K D vwCl (tyL cs) s → va_D A w → (∀ q : Nat, s.heap.size ≤ q → A q) → va_S A s.heap H [] → xG cs A s s.heap → lv_has ls maxL (lv_args 0 As) →
      W p l e R s m args below meth c H [] 0 0 Q (F0 m 0 ls [])) :
    Met l y ws { frames := fr, cells := mc, slots := ms, locals := lo } (va_Pc As (mP D cs w sz)) (Qc (va_A w sz)) mc ms (va_A w sz) := by
  refine va_MetW (cc := cc) (maxL := maxL) (ret := ret) (hh := hh) hy hw ?_
  intro p e s m args below meth c s₁ B hml hv
  obtain ⟨rfl, hsz, hP, hK, hD0, hG⟩ := hv
  subst hsz
  have hts := atoms_spec (ws := ws) B.pre
  have htab := vx_table (x := y) B (hts (Cond.codeWith y cc maxL ret hh) (by rw [hw]; exact List.mem_cons_self))
  rw [lg_entry_eq]
  exact body p e s m below meth c _ (va_A w s.heap.size) _ _ _ _ rfl rfl B.exec B.bytes hml B.returns B.notSynchronized htab (findClass_of_methodNamed B.named) hts hP hK hD0.self (fun q h => Or.inr h) va_S.rf hG (lv_entry As hn)
/-- the row that a call's answer goes into -/
def wO (cs : xE) (q : Nat) (f : Nat → Int64) : va_W := [(q, .inl (cs.1 5, 1, .inr (.inl f)))]
def up64 (f : Nat → Int64) (x : Int64) : Nat → Int64 := fun j => if j = 0 then x else f j
section MW
variable {p : Program} {l : Launch} {e : Env} {R : Room} {s : State} {m : MethodId} {args : Array Value} {below : List Frame} {meth : Method} {c : Code} {H : Heap} {locs : List Loc} {cells slots : Nat} {Q : State → Prop}
variable {D : va_G} {cs : xE} {w wc : va_W} {A : Nat → Prop} {cc : ByteArray} {pc : Nat} {ls : Array Slot} {rest st : List Value} {Bs Bn Br Bc B1 : List va_W} {Bb : va_W} {i0 k : Nat}
theorem lsO {q : Nat} {f : Nat → Int64} {x : Int64} (hx : p.tables.exec = Jvm.exec) (hb : c.code = cc) (hK : va_K D vwCl (tyL cs) s) (hP : va_P D vwCl Bs.flatten H) (hD : va_D A Bs.flatten) (hS : va_S A s.heap H locs) (hB : Bs[i0]? = some (wO cs q f)) (hdg : decode cc pc = .ok (.lastore, 1)) (hn2 : Bs.set i0 (wO cs q (up64 f x)) = Bn)
    (kk : ∀ (H1 : Heap) (locs1 : List Loc), va_P D vwCl Bn.flatten H1 → va_D A Bn.flatten → va_S A s.heap H1 locs1 → W p l e R s m args below meth c H1 locs1 cells slots Q (F0 m (pc + 1) ls rest)) : W p l e R s m args below meth c H locs cells slots Q (F0 m pc ls (.long x :: .int 0 :: .ref q :: rest)) := by
  subst hn2
  obtain ⟨R0, h1, h2⟩ := flat_split hB (j := 0) rfl
  refine va_last hx hb hK (vaP_perm h1 hP) (vaD_perm h1 hD) hS 0 5 rfl rfl (vp_in_nI (n := 0) (N := 1) (by decide) (by decide)) hdg (fun H1 locs1 g1 g2 g3 => ?_)
  have e : ∀ z : va_W, z = (q, .inl (cs.1 5, 1, .inr (.inl (up64 f x)))) :: R0 → z.Perm (Bs.set i0 (wO cs q (up64 f x))).flatten := fun z hz => by rw [hz]; exact (h2 _).symm
  exact kk H1 locs1 (vaP_perm (e _ rfl) g1) (vaD_perm (e _ rfl) g2) g3
theorem llO {q : Nat} {f : Nat → Int64} (hx : p.tables.exec = Jvm.exec) (hb : c.code = cc) (hK : va_K D vwCl (tyL cs) s) (hP : va_P D vwCl Bs.flatten H) (hB : Bs[i0]? = some (wO cs q f)) (hdg : decode cc pc = .ok (.laload, 1))
    (kk : W p l e R s m args below meth c H locs cells slots Q (F0 m (pc + 1) ls (.long (f 0) :: rest))) : W p l e R s m args below meth c H locs cells slots Q (F0 m pc ls (.int 0 :: .ref q :: rest)) := by
  obtain ⟨q0, hq⟩ := List.getElem?_of_mem (flat_mem hB (j := 0) rfl)
  exact va_lald hx hb hK hP q0 5 hq rfl (vp_in_nI (n := 0) (N := 1) (by decide) (by decide)) hdg kk
/-- a call that throws, caught or not -/
theorem mxGo {wr : va_W} (hP : va_P D vwCl Bs.flatten H) (hD : va_D A Bs.flatten) (hS : va_S A s.heap H locs) (hA : ∀ q : Nat, s.heap.size ≤ q → A q) (hs1 : Bs.flatten.Perm (wr ++ wc))
    (hr : vx_Run p l e R s m args below meth c H locs 0 0 1 6 (F0 m pc ls st) rest (fun _ _ _ => False) (qX D cs k wc (va_A wc H.size)) (va_A wc H.size))
    (kx : ∀ (ce : Cell) (q9 : Addr) (H1 : Heap) (locs1 : List Loc), va_P D vwCl Bs.flatten H1 → va_D A Bs.flatten → va_S A s.heap H1 locs1 → H1[q9]? = some ce → ce.vm = .none → s.vm.findClass (exn k) = some ce.cls → vx_W p l e R s m args below meth c H1 locs1 1 6 Q (F0 m pc ls rest) q9) : W p l e R s m args below meth c H locs 0 0 Q (F0 m pc ls st) := by
  obtain ⟨-, -, hF0⟩ := bPre hP hD hS hA hs1
  intro T hT X
  rcases hr T hT X with ⟨v, st₀, t, T', L, h0, X', hL, e1, e2, hf, stp⟩ | ⟨q, st₀, t, T', L, E, ce, h0, X', hL, e1, e2, ⟨u, hp, ⟨hE, hBm⟩, hF⟩, hce, hcv, hcl, stp⟩
  · exact hf.elim
  · obtain ⟨k1, k2, k3⟩ := vx_keep h0 e1 hS (fun q _ h => hF0 q h) hF0 hL hF
    obtain ⟨g1, g2⟩ := bJoin hP hD hS hA hs1 hs1 e1.symm hBm k2
    subst hE
    obtain ⟨t2, a1, b1⟩ := kx ce q T'.heap (locs ++ L) g1 g2 k3 (by rw [e1]; exact hce) hcv hcl T' rfl (by simpa using X')
    exact ⟨t2, stp.trans a1, b1⟩
variable {y : MethodName} {bytes : ByteArray} {maxL nL n index : Nat} {ret : Option FieldType} {wsM Ts : List Cond} {rm : Room} {own C : String} {b : Addr} {As : List Value}
theorem mxCV {isR isC : List Nat} (S : CallFix p m c cc nL s args Ts own) (hK : va_K D vwCl (tyL cs) s) (hP : va_P D vwCl Bs.flatten H) (hD : va_D A Bs.flatten) (hS : va_S A s.heap H locs) (hA : ∀ q : Nat, s.heap.size ≤ q → A q) (hG : xG cs A s s.heap)
    (hM : vx_Met l y wsM rm (va_Pc (.ref b :: As) (mP D cs Bc.flatten H.size)) (fun _ _ _ _ => False) (qX D cs k Bc.flatten (va_A Bc.flatten H.size)) 1 6 (va_A Bc.flatten H.size)) (cw : CallW R s args own C index y bytes maxL ret wsM rm 1 6 n)
    (nB : Nat) (hp0 : (isR ++ isC).Perm (List.range nB)) (hn1 : Bs.length = nB) (hR1 : bPick isR Bs = Br) (hC1 : bPick isC Bs = Bc)
    {ci : Nat} {q : vw_C} {fs : List Value} (hB : Bs[i0]? = some Bb) (he : Bb[0]? = some (b, .inr (ci, fs))) (hc : vwCl[ci]? = some q) (hq : q.1 = C)
    (hAs : As.length = n) (hls : ls.size = nL) (hst : st = As.reverse ++ .ref b :: rest) (hW : (rest.map fun v => v.category).sum ≤ 8) (hcell : 0 + 1 ≤ R.cells ∧ 0 + 6 ≤ R.slots) (hdg : decode cc pc = .ok (.invokevirtual index, 3))
    (kx : ∀ (ce : Cell) (q9 : Addr) (H1 : Heap) (locs1 : List Loc), va_P D vwCl Bs.flatten H1 → va_D A Bs.flatten → va_S A s.heap H1 locs1 → H1[q9]? = some ce → ce.vm = .none → s.vm.findClass (exn k) = some ce.cls → vx_W p l e R s m args below meth c H1 locs1 1 6 Q (F0 m pc ls rest) q9) : W p l e R s m args below meth c H locs 0 0 Q (F0 m pc ls st) := by
  have hs1 := bSplit (by rw [hn1]; exact hp0) hR1 hC1
  obtain ⟨hPc, hDc, hF⟩ := bPre hP hD hS hA hs1
  obtain ⟨q0, hq0⟩ := List.getElem?_of_mem (flat_mem hB he)
  exact mxGo hP hD hS hA hs1 (vx_runV (As := As) (rest := rest) S hM cw ⟨mP_blind _ _ _ _ _, by have h := va_recv hK hP hc hq0; rw [hq] at h; exact h, fun U hU hW => ⟨rfl, by rw [hU], by rw [hU]; exact hPc, va_K.moved hW.alike hK, hDc, by rw [hU]; exact xG.warm hW ((hG.kept hS.2.1).narrow hF)⟩⟩ rfl hAs hls hst (lv_room hW) hdg hcell) kx
/-- the handlers -/
theorem cTN {ce : Cell} {q9 : Addr} {hp hi : Nat} {suf : List (Nat × Nat × Nat × Nat)} (hown : s.vm.findClass RL = some m.cls) (hW : ∀ w ∈ WG, w.before args s = true) (hG : xG cs A s s.heap) (ht : c.exceptionTable.toList = tableOf ((0, hi, hp, 18) :: suf)) (hpc : pc < hi) (hk : k ≠ 0) (hcell : H[q9]? = some ce) (hv : ce.vm = .none) (hcl : s.vm.findClass (exn k) = some ce.cls)
    (kk : W p l e R s m args below meth c H locs cells slots Q (F0 m hp ls [.ref q9])) : vx_W p l e R s m args below meth c H locs cells slots Q (F0 m pc ls rest) q9 := by
  have hE : exn k = "java/util/NoSuchElementException" := if_neg hk
  rw [hE] at hcl
  exact vx_catch (own := RL) (name := "java/util/NoSuchElementException") (E := "java/util/NoSuchElementException") hown [] ⟨0, hi, hp, 18⟩ (tableOf suf) (by rw [ht]; rfl) (fun z hz => absurd hz List.not_mem_nil) (by simp [covers]; omega) (show (18 : Nat) ≠ 0 by decide) (hW _ wd876) (va_Nw.use rfl (hG.2.2.2.2.2.2.1 _ (by decide +kernel))) hcell hv hcl kk
theorem cTI {ce : Cell} {q9 : Addr} {hp hi : Nat} {suf : List (Nat × Nat × Nat × Nat)} (hown : s.vm.findClass RL = some m.cls) (hW : ∀ w ∈ WG, w.before args s = true) (hG : xG cs A s s.heap) (ht : c.exceptionTable.toList = tableOf ((0, hi, hp, 13) :: suf)) (hpc : pc < hi) (hk : k = 0) (hcell : H[q9]? = some ce) (hv : ce.vm = .none) (hcl : s.vm.findClass (exn k) = some ce.cls)
    (kk : W p l e R s m args below meth c H locs cells slots Q (F0 m hp ls [.ref q9])) : vx_W p l e R s m args below meth c H locs cells slots Q (F0 m pc ls rest) q9 := by
  have hE : exn k = "java/lang/IllegalArgumentException" := if_pos hk
  rw [hE] at hcl
  exact vx_catch (own := RL) (name := "java/lang/IllegalArgumentException") (E := "java/lang/IllegalArgumentException") hown [] ⟨0, hi, hp, 13⟩ (tableOf suf) (by rw [ht]; rfl) (fun z hz => absurd hz List.not_mem_nil) (by simp [covers]; omega) (show (13 : Nat) ≠ 0 by decide) (hW _ wd617) (va_Nw.use rfl (hG.2.2.2.2.2.2.1 _ (by decide +kernel))) hcell hv hcl kk
theorem cTI2 {ce : Cell} {q9 : Addr} {hp hp0 hi : Nat} {suf : List (Nat × Nat × Nat × Nat)} (hown : s.vm.findClass RL = some m.cls) (hW : ∀ w ∈ WG, w.before args s = true) (hG : xG cs A s s.heap) (ht : c.exceptionTable.toList = tableOf ((0, hi, hp0, 18) :: (0, hi, hp, 13) :: suf)) (hpc : pc < hi) (hk : k = 0) (hcell : H[q9]? = some ce) (hv : ce.vm = .none) (hcl : s.vm.findClass (exn k) = some ce.cls)
    (kk : W p l e R s m args below meth c H locs cells slots Q (F0 m hp ls [.ref q9])) : vx_W p l e R s m args below meth c H locs cells slots Q (F0 m pc ls rest) q9 := by
  have hE : exn k = "java/lang/IllegalArgumentException" := if_pos hk
  rw [hE] at hcl
  exact vx_catch (own := RL) (name := "java/lang/IllegalArgumentException") (E := "java/lang/IllegalArgumentException") hown [⟨0, hi, hp0, 18⟩] ⟨0, hi, hp, 13⟩ (tableOf suf) (by rw [ht]; rfl) (fun z hz => by
    obtain rfl := List.mem_singleton.mp hz
    exact .inr ⟨(show (18 : Nat) ≠ 0 by decide), "java/util/NoSuchElementException", hW _ wd876, hG.2.2.2.2.2.2.2⟩) (by simp [covers]; omega) (show (13 : Nat) ≠ 0 by decide) (hW _ wd617) (va_Nw.use rfl (hG.2.2.2.2.2.2.1 _ (by decide +kernel))) hcell hv hcl kk
/-- a static call of a method with handlers -/
theorem mcW {v : Int32} {mc ms : Nat} {hh : List (Nat × Nat × Nat × Nat)} {isR isC : List Nat} (S : CallFix p m c cc nL s args Ts own) (hK : va_K D vwCl (tyL cs) s) (hP : va_P D vwCl Bs.flatten H) (hD : va_D A Bs.flatten) (hS : va_S A s.heap H locs) (hA : ∀ q : Nat, s.heap.size ≤ q → A q) (hG : xG cs A s s.heap)
    (hM : Met l y wsM rm (va_Pc As (mP D cs Bc.flatten H.size)) (qI D cs v B1.flatten (va_A Bc.flatten H.size)) mc ms (va_A Bc.flatten H.size)) (cw : vx_CSW R s args own index y bytes maxL ret hh wsM rm mc ms n)
    (nB : Nat) (hp0 : (isR ++ isC).Perm (List.range nB)) (hn1 : Bs.length = nB) (hn2 : Bn.length = nB) (hR1 : bPick isR Bs = Br) (hC1 : bPick isC Bs = Bc) (hR2 : bPick isR Bn = Br) (hC2 : bPick isC Bn = B1)
    (hAs : As.length = n) (hls : ls.size = nL) (hst : st = As.reverse ++ rest) (hW : (rest.map fun v => v.category).sum ≤ 8) (hcell : cells + mc ≤ R.cells ∧ slots + ms ≤ R.slots) (hdg : decode cc pc = .ok (.invokestatic index, 3))
    (kk : ∀ (H1 : Heap) (locs1 : List Loc), va_P D vwCl Bn.flatten H1 → va_D A Bn.flatten → va_S A s.heap H1 locs1 → W p l e R s m args below meth c H1 locs1 (cells + mc) (slots + ms) Q (F0 m (pc + 3) ls (.int v :: rest))) :
    W p l e R s m args below meth c H locs cells slots Q (F0 m pc ls st) := by
  have hs1 := bSplit (by rw [hn1]; exact hp0) hR1 hC1
  have hs2 := bSplit (by rw [hn2]; exact hp0) hR2 hC2
  obtain ⟨hPc, hDc, hF⟩ := bPre hP hD hS hA hs1
  refine va_calli (vx_runSW (As := As) (rest := rest) S hM cw ⟨mP_blind _ _ _ _ _, fun U hU hW => ⟨rfl, by rw [hU], by rw [hU]; exact hPc, va_K.moved hW.alike hK, hDc, by rw [hU]; exact xG.warm hW ((hG.kept hS.2.1).narrow hF)⟩⟩ rfl hAs hls hst (lv_room hW) hdg hcell) hS (fun q _ h => hF q h) hF (fun r u t H1 locs1 ht hvm hw hB hz1 hk1 hS1 => ?_)
  subst hw
  obtain ⟨g1, g2⟩ := bJoin hP hD hS hA hs1 hs2 ht hB hk1
  exact kk H1 locs1 g1 g2 hS1
end MW
