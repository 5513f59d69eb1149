/-! objects made: what a constructor is given, rows -/
def zS : St := (fun _ => 0, fun _ _ => 0)
/-- the words about arrays of references -/
def mX (U : State) : Prop := va_AO "TwinLamps$Town" U ∧ va_AO "java/lang/String" U ∧ va_AOA .int U
theorem mX.moved {u U : State} (h : u.vm.Alike U.vm) (g : mX u) : mX U := ⟨g.1.moved h, g.2.1.moved h, g.2.2.moved h⟩
def mCo (D : va_G) (cs : xE) (w : va_W) (sz : Nat) : State → Prop := fun U => mP D cs w sz U ∧ mX U
theorem mCo_blind (As : List Value) (D : va_G) (cs : xE) (w : va_W) (sz : Nat) : FrameBlind (va_Pc As (mCo D cs w sz)) := by
  intro a U g mk q
  obtain ⟨q0, q1, q2⟩ := q
  obtain ⟨r0, r1⟩ := mP_blind As D cs w sz a U g mk ⟨q0, q1⟩
  exact ⟨r0, r1, mX.moved (u := U) (U := U.calling g mk a) (Vm.Alike.refl U.vm) q2⟩
/-- a constructor's end: the blocks that it makes, by the addresses x -/
def qC {X : Type} (D : va_G) (cs : xE) (Wf : X → List va_W) (A : Nat → Prop) : Array Value → State → Outcome → State → Prop := va_Qv (fun _ : X => True) (fun x => mB D cs (Wf x).flatten A) A
theorem mgC {X : Type} {Wf : X → List va_W} {l : Launch} {y : MethodName} {ws ws' : List Cond} {fr mc ms lo : Nat} {As : List Value} {D : va_G} {cs : xE} {w : va_W} {sz : Nat} {cc : ByteArray} {maxL : Nat}
    (hy : plainName y.cls = true) (hw : ws = Cond.code y cc maxL none :: ws') (hn : (lg_sl As).length ≤ maxL) (hyn : y.name = "<init>")
    (body : ∀ (p : Program) (e : Env) (s : State) (m : MethodId) (below : List Frame) (meth : Method) (c : Code) (ls : Array Slot) (A : Nat → Prop) (Q : State → Prop) (args : Array Value) (H : Heap), Q = MQ below (qC D cs Wf A) args s mc ms A → p.tables.exec = Jvm.exec → c.code = cc → c.maxLocals = maxL → meth.sig.returnType = none → meth.locks = false → meth.name = "<init>" → s.vm.findClass y.cls = some m.cls → (∀ w ∈ ws, w.before args s = true) → va_P D vwCl w H → va_K D vwCl (tyL cs) s → va_D A w → (∀ q : Nat, s.heap.size ≤ q → A q) → va_S A s.heap H [] → xG cs A s s.heap → mX s → lv_has ls maxL (lv_args 0 As) →
      W p l e { frames := fr, cells := mc, slots := ms, locals := lo } s m args below meth c H [] 0 0 Q (F0 m 0 ls [])) :
    Met l y ws { frames := fr, cells := mc, slots := ms, locals := lo } (va_Pc As (mCo D cs w sz)) (qC D cs Wf (va_A w sz)) mc ms (va_A w sz) := by
  refine Met.ofW (cc := cc) (maxL := maxL) (ret := none) hy hw ?_
  intro p e s m args below meth c s₁ B hml hv
  obtain ⟨rfl, ⟨hsz, hP, hK, hD0, hG⟩, hX⟩ := hv
  subst hsz
  rw [lg_entry_eq]
  exact body p e s m below meth c _ (va_A w s.heap.size) _ _ _ rfl B.exec B.bytes hml B.returns B.notSynchronized ((name_of_methodNamed B.named B.method).1.trans hyn) (findClass_of_methodNamed B.named) (atoms_spec (ws := ws) B.pre) hP hK hD0.self (fun q h => Or.inr h) va_S.rf hG hX (lv_entry As hn)
section MK
variable {p : Program} {l : Launch} {e : Env} {R : Room} {s : State} {m : MethodId} {args : Array Value} {below : List Frame} {meth : Method} {c : Code} {H : Heap} {locs : List Loc} {cells slots : Nat} {Q : State → Prop}
variable {D : va_G} {cs : xE} {A : Nat → Prop} {cc : ByteArray} {pc : Nat} {ls : Array Slot} {B0 : va_W} {Br Bs : List va_W}
theorem flat_ins (B0 x : va_W) (Br : List va_W) : ((B0 :: Br).flatten ++ x).Perm (B0 :: x :: Br).flatten := by
  simp only [List.flatten_cons, List.append_assoc]
  exact (List.perm_append_comm).append_left _
theorem flat_insN (B0 : va_W) (X Br : List va_W) : ((B0 :: Br).flatten ++ X.flatten).Perm (B0 :: (X ++ Br)).flatten := by
  simp only [List.flatten_cons, List.append_assoc, List.flatten_append]
  exact (List.perm_append_comm).append_left _
/-- new int[n] -/
theorem cNI {n : Int32} {N : Nat} {rest : List Value} (hx : p.tables.exec = Jvm.exec) (hb : c.code = cc) (hW : ∀ w ∈ WG, w.before args s = true) (hK : va_K D vwCl (tyL cs) s) (hP : va_P D vwCl (B0 :: Br).flatten H) (hD : va_D A (B0 :: Br).flatten) (hS : va_S A s.heap H locs) (hA : ∀ q : Nat, s.heap.size ≤ q → A q)
    (hn : ¬ n < 0) (hN : n.toNatClampNeg = N) (hbytes : N * 4 ≤ 536870912) (hcells : cells + 1 ≤ R.cells) (hslots : slots + N ≤ R.slots) (hdg : decode cc pc = .ok (.newarray .int, 2))
    (kk : ∀ (q : Nat) (H1 : Heap), va_P D vwCl (B0 :: [(q, .inl (cs.1 0, N, .inl (fun _ => 0)))] :: Br).flatten H1 → va_D A (B0 :: [(q, .inl (cs.1 0, N, .inl (fun _ => 0)))] :: Br).flatten → va_S A s.heap H1 locs → W p l e R s m args below meth c H1 locs (cells + 1) (slots + N) Q (F0 m (pc + 2) ls (.ref q :: rest))) :
    W p l e R s m args below meth c H locs cells slots Q (F0 m pc ls (.int n :: rest)) := by
  refine va_newa (atype := .int) (ty := .int) (a0 := (N, .inl (fun _ => 0))) hx hb (hW _ wd206) rfl hK hP hD hS hA (fun cA => rfl) hn hN hbytes hcells hslots hdg (fun q cA H1 k1 p1 d1 s1 => ?_)
  have e : cA = cs.1 0 := ra_one (k1.2 6 (cA, .int) rfl).2 (hK.2 0 (cs.1 0, .int) rfl).2
  subst e
  exact kk q H1 (vaP_perm (flat_ins B0 _ Br) p1) (vaD_perm (flat_ins B0 _ Br) d1) s1
theorem cNB {n : Int32} {N : Nat} {rest : List Value} (hx : p.tables.exec = Jvm.exec) (hb : c.code = cc) (hW : ∀ w ∈ WG, w.before args s = true) (hK : va_K D vwCl (tyL cs) s) (hP : va_P D vwCl (B0 :: Br).flatten H) (hD : va_D A (B0 :: Br).flatten) (hS : va_S A s.heap H locs) (hA : ∀ q : Nat, s.heap.size ≤ q → A q)
    (hn : ¬ n < 0) (hN : n.toNatClampNeg = N) (hbytes : N * 1 ≤ 536870912) (hcells : cells + 1 ≤ R.cells) (hslots : slots + N ≤ R.slots) (hdg : decode cc pc = .ok (.newarray .byte, 2))
    (kk : ∀ (q : Nat) (H1 : Heap), va_P D vwCl (B0 :: [(q, .inl (cs.1 1, N, .inl (fun _ => 0)))] :: Br).flatten H1 → va_D A (B0 :: [(q, .inl (cs.1 1, N, .inl (fun _ => 0)))] :: Br).flatten → va_S A s.heap H1 locs → W p l e R s m args below meth c H1 locs (cells + 1) (slots + N) Q (F0 m (pc + 2) ls (.ref q :: rest))) :
    W p l e R s m args below meth c H locs cells slots Q (F0 m pc ls (.int n :: rest)) := by
  refine va_newa (atype := .byte) (ty := .byte) (a0 := (N, .inl (fun _ => 0))) hx hb (hW _ wd267) rfl hK hP hD hS hA (fun cA => rfl) hn hN hbytes hcells hslots hdg (fun q cA H1 k1 p1 d1 s1 => ?_)
  have e : cA = cs.1 1 := ra_one (k1.2 6 (cA, .byte) rfl).2 (hK.2 1 (cs.1 1, .byte) rfl).2
  subst e
  exact kk q H1 (vaP_perm (flat_ins B0 _ Br) p1) (vaD_perm (flat_ins B0 _ Br) d1) s1
/-- a final field of the object that is made -/
theorem cPF {a ci k N index : Nat} {C : String} {T : u_T} {fs fs' : List Value} {v : Value} {rest : List Value} (ty0 : Nat → FieldType) (hty : ∀ k, k < N → parseFieldDescriptor (T k).2.2.1 = some (ty0 k)) (hnm : ∀ a, a < N → ∀ b, b < N → a ≠ b → (T a).2.1 ≠ (T b).2.1) (hx : p.tables.exec = Jvm.exec) (hb : c.code = cc) (hT : ∀ w ∈ u_ws C T N, w.before args s = true) (hown : s.vm.findClass C = some m.cls) (hK : va_K D vwCl (tyL cs) s) (hP : va_P D vwCl ([(a, .inr (ci, fs))] :: Br).flatten H) (hD : va_D A ([(a, .inr (ci, fs))] :: Br).flatten) (hS : va_S A s.heap H locs) (hc : vwCl[ci]? = some (C, T, N)) (hk : k < N) (hlink : (Cond.fieldLink C index (T k).1 (T k).2.1 (T k).2.2.1).before args s = true) (hfin : (T k).2.2.2 = true) (hin : meth.name = "<init>") (hdecl : (T k).1 = C) (hn : narrow (ty0 k) v = v) (hfit : fits (ty0 k) v = true) (hl : k < fs.length) (hdg : decode cc pc = .ok (.putfield index, 3)) (hfs : fs.set k v = fs')
    (kk : ∀ (H1 : Heap) (locs1 : List Loc), va_P D vwCl ([(a, .inr (ci, fs'))] :: Br).flatten H1 → va_D A ([(a, .inr (ci, fs'))] :: Br).flatten → va_S A s.heap H1 locs1 → W p l e R s m args below meth c H1 locs1 cells slots Q (F0 m (pc + 3) ls rest)) : W p l e R s m args below meth c H locs cells slots Q (F0 m pc ls (v :: .ref a :: rest)) := by
  subst hfs
  exact va_putF (C := C) (T := T) (N := N) (ty := ty0 k) hx hb hT (fun _ h => h) ty0 hty hnm hown hK hP hD hS 0 rfl hc k hk hlink (fun _ h => h) hfin hin hdecl (hty k hk) hn hfit hl hdg kk
theorem cPN {a ci k N index : Nat} {C : String} {T : u_T} {fs fs' : List Value} {v : Value} {rest : List Value} (ty0 : Nat → FieldType) (hty : ∀ k, k < N → parseFieldDescriptor (T k).2.2.1 = some (ty0 k)) (hnm : ∀ a, a < N → ∀ b, b < N → a ≠ b → (T a).2.1 ≠ (T b).2.1) (hx : p.tables.exec = Jvm.exec) (hb : c.code = cc) (hT : ∀ w ∈ u_ws C T N, w.before args s = true) (hown : s.vm.findClass C = some m.cls) (hK : va_K D vwCl (tyL cs) s) (hP : va_P D vwCl ([(a, .inr (ci, fs))] :: Br).flatten H) (hD : va_D A ([(a, .inr (ci, fs))] :: Br).flatten) (hS : va_S A s.heap H locs) (hc : vwCl[ci]? = some (C, T, N)) (hk : k < N) (hlink : (Cond.fieldLink C index (T k).1 (T k).2.1 (T k).2.2.1).before args s = true) (hfin : (T k).2.2.2 = false) (hn : narrow (ty0 k) v = v) (hfit : fits (ty0 k) v = true) (hl : k < fs.length) (hdg : decode cc pc = .ok (.putfield index, 3)) (hfs : fs.set k v = fs')
    (kk : ∀ (H1 : Heap) (locs1 : List Loc), va_P D vwCl ([(a, .inr (ci, fs'))] :: Br).flatten H1 → va_D A ([(a, .inr (ci, fs'))] :: Br).flatten → va_S A s.heap H1 locs1 → W p l e R s m args below meth c H1 locs1 cells slots Q (F0 m (pc + 3) ls rest)) : W p l e R s m args below meth c H locs cells slots Q (F0 m pc ls (v :: .ref a :: rest)) := by
  subst hfs
  exact va_put (C := C) (T := T) (N := N) (ty := ty0 k) hx hb hT (fun _ h => h) ty0 hty hnm hown hK hP hD hS 0 rfl hc k hk hlink (fun _ h => h) hfin (hty k hk) hn hfit hl hdg kk
theorem joinC {q : Nat} {ci : Nat} {fs : List Value} {X : List va_W} {H1 H2 : Heap} {t : State} (hP : va_P D vwCl ((B0 :: Br).flatten ++ [(q, .inr (ci, fs))]) H1) (hD : va_D A ((B0 :: Br).flatten ++ [(q, .inr (ci, fs))])) (hS : va_S A s.heap H1 locs) (hA : ∀ q : Nat, s.heap.size ≤ q → A q) (ht : t.heap = H2) (hB : mB D cs X.flatten (va_A [(q, .inr (ci, fs))] H1.size) t) (hk1 : ∀ z : Nat, z < H1.size → ¬ va_A [(q, .inr (ci, fs))] H1.size z → H2[z]? = H1[z]?) : va_P D vwCl (B0 :: (X ++ Br)).flatten H2 ∧ va_D A (B0 :: (X ++ Br)).flatten :=
  bJoin (Bs := [(B0 :: Br).flatten, [(q, .inr (ci, fs))]]) (wr := (B0 :: Br).flatten) (wc := [(q, .inr (ci, fs))]) (by simpa using hP) (by simpa using hD) hS hA (by simp) (flat_insN B0 X Br).symm ht hB hk1
theorem preC {q : Nat} {ci : Nat} {fs : List Value} {H1 : Heap} {w : va_W} (hP : va_P D vwCl (w ++ [(q, .inr (ci, fs))]) H1) (hD : va_D A (w ++ [(q, .inr (ci, fs))])) (hS : va_S A s.heap H1 locs) (hA : ∀ q : Nat, s.heap.size ≤ q → A q) : va_P D vwCl [(q, .inr (ci, fs))] H1 ∧ va_D (fun _ => True) [(q, .inr (ci, fs))] ∧ ∀ z, va_A [(q, .inr (ci, fs))] H1.size z → A z :=
  bPre (Bs := [w, [(q, .inr (ci, fs))]]) (wr := w) (by simpa using hP) (by simpa using hD) hS hA (by simp)
variable {y : MethodName} {bytes : ByteArray} {maxL nL index ix N ci mc ms : Nat} {wsM Ts : List Cond} {rm : Room} {own host C : String} {T : u_T} {fs0 rest : List Value} {X : Type} {Wf : Nat → X → List va_W}
/-- new C(), its constructor private -/
theorem cNWn (S : CallFix p m c cc nL s args Ts own) (ty : Nat → FieldType) (hty : ∀ k, k < N → parseFieldDescriptor (T k).2.2.1 = some (ty k)) (hT : ∀ w ∈ u_ws C T N, w.before args s = true) (hcl : (Cond.classLink own index C).before args s = true) (hinst : (Cond.instantiable C N).before args s = true) (hini : (Cond.initialized C).before args s = true)
    (hK : va_K D vwCl (tyL cs) s) (hP : va_P D vwCl (B0 :: Br).flatten H) (hD : va_D A (B0 :: Br).flatten) (hS : va_S A s.heap H locs) (hA : ∀ q : Nat, s.heap.size ≤ q → A q) (hG : xG cs A s s.heap) (hX : mX s) (hc : vwCl[ci]? = some (C, T, N)) (hfs : ∀ j, j < N → defaultValue (ty j) = vp_V fs0 j)
    (hM : ∀ q sz : Nat, Met l y wsM rm (va_Pc [.ref q] (mCo D cs [(q, .inr (ci, fs0))] sz)) (qC D cs (Wf q) (va_A [(q, .inr (ci, fs0))] sz)) mc ms (va_A [(q, .inr (ci, fs0))] sz))
    (cw : va_CN R s args own ix y host bytes maxL none wsM rm mc ms 0 ∧ y.name = "<init>" ∧ (Cond.instanceMethod y).before args s = true)
    (hls : ls.size = nL) (hW : (rest.map fun v => v.category).sum ≤ 7) (hcells : cells + 1 + mc ≤ R.cells) (hslots : slots + N + ms ≤ R.slots) (d0 : decode cc pc = .ok (.new index, 3)) (d3 : decode cc (pc + 3) = .ok (.dup, 1)) (d4 : decode cc (pc + 4) = .ok (.invokespecial ix, 3))
    (kk : ∀ (q : Nat) (x : X) (H1 : Heap) (locs1 : List Loc), va_P D vwCl (B0 :: (Wf q x ++ Br)).flatten H1 → va_D A (B0 :: (Wf q x ++ Br)).flatten → va_S A s.heap H1 locs1 → W p l e R s m args below meth c H1 locs1 (cells + 1 + mc) (slots + N + ms) Q (F0 m (pc + 7) ls (.ref q :: rest))) :
    W p l e R s m args below meth c H locs cells slots Q (F0 m pc ls rest) := by
  refine va_new (ci := ci) (fs := fs0) (C := C) (T := T) (N := N) S.1 S.2.1 hT (fun _ h => h) ty hty S.2.2.2.1 hcl hinst hini hK hP hD hS hA hc hfs (by omega) (by omega) d0 (fun q H1 p1 d1 s1 => ?_)
  refine lv_dup S.1 S.2.1 d3 rfl ?_
  obtain ⟨hPc, hDc, hF⟩ := preC p1 d1 s1 hA
  refine va_callv (va_runIN (As := []) (rest := .ref q :: rest) S (hM q H1.size) cw ⟨mCo_blind _ _ _ _ _, fun U hU hw => ⟨rfl, ⟨by rw [hU], by rw [hU]; exact hPc, va_K.moved hw.alike hK, hDc, by rw [hU]; exact xG.warm hw ((hG.kept s1.2.1).narrow hF)⟩, mX.moved hw.alike hX⟩⟩ rfl rfl hls rfl (lv_room (by simp only [List.map_cons, List.sum_cons]; show 1 + _ ≤ 8; omega)) d4 ⟨hcells, hslots⟩) s1 (fun q _ h => hF q h) hF (fun u t H2 locs1 ht hvm hw hB hz1 hk1 hS1 => ?_)
  obtain ⟨g1, g2⟩ := joinC p1 d1 s1 hA ht hB hk1
  exact kk q u H2 locs1 g1 g2 hS1
theorem cNWl (S : CallFix p m c cc nL s args Ts own) (ty : Nat → FieldType) (hty : ∀ k, k < N → parseFieldDescriptor (T k).2.2.1 = some (ty k)) (hT : ∀ w ∈ u_ws C T N, w.before args s = true) (hcl : (Cond.classLink own index C).before args s = true) (hinst : (Cond.instantiable C N).before args s = true) (hini : (Cond.initialized C).before args s = true)
    (hK : va_K D vwCl (tyL cs) s) (hP : va_P D vwCl (B0 :: Br).flatten H) (hD : va_D A (B0 :: Br).flatten) (hS : va_S A s.heap H locs) (hA : ∀ q : Nat, s.heap.size ≤ q → A q) (hG : xG cs A s s.heap) (hX : mX s) (hc : vwCl[ci]? = some (C, T, N)) (hfs : ∀ j, j < N → defaultValue (ty j) = vp_V fs0 j)
    (hM : ∀ q sz : Nat, Met l y wsM rm (va_Pc [.ref q] (mCo D cs [(q, .inr (ci, fs0))] sz)) (qC D cs (Wf q) (va_A [(q, .inr (ci, fs0))] sz)) mc ms (va_A [(q, .inr (ci, fs0))] sz))
    (cw : CallB R s args own ix y bytes maxL none wsM rm mc ms 0 ∧ y.name = "<init>" ∧ (Cond.instanceMethod y).before args s = true)
    (hls : ls.size = nL) (hW : (rest.map fun v => v.category).sum ≤ 7) (hcells : cells + 1 + mc ≤ R.cells) (hslots : slots + N + ms ≤ R.slots) (d0 : decode cc pc = .ok (.new index, 3)) (d3 : decode cc (pc + 3) = .ok (.dup, 1)) (d4 : decode cc (pc + 4) = .ok (.invokespecial ix, 3))
    (kk : ∀ (q : Nat) (x : X) (H1 : Heap) (locs1 : List Loc), va_P D vwCl (B0 :: (Wf q x ++ Br)).flatten H1 → va_D A (B0 :: (Wf q x ++ Br)).flatten → va_S A s.heap H1 locs1 → W p l e R s m args below meth c H1 locs1 (cells + 1 + mc) (slots + N + ms) Q (F0 m (pc + 7) ls (.ref q :: rest))) :
    W p l e R s m args below meth c H locs cells slots Q (F0 m pc ls rest) := by
  refine va_new (ci := ci) (fs := fs0) (C := C) (T := T) (N := N) S.1 S.2.1 hT (fun _ h => h) ty hty S.2.2.2.1 hcl hinst hini hK hP hD hS hA hc hfs (by omega) (by omega) d0 (fun q H1 p1 d1 s1 => ?_)
  refine lv_dup S.1 S.2.1 d3 rfl ?_
  obtain ⟨hPc, hDc, hF⟩ := preC p1 d1 s1 hA
  refine va_callv (va_runI (As := []) (rest := .ref q :: rest) S (hM q H1.size) cw ⟨mCo_blind _ _ _ _ _, fun U hU hw => ⟨rfl, ⟨by rw [hU], by rw [hU]; exact hPc, va_K.moved hw.alike hK, hDc, by rw [hU]; exact xG.warm hw ((hG.kept s1.2.1).narrow hF)⟩, mX.moved hw.alike hX⟩⟩ rfl rfl hls rfl (lv_room (by simp only [List.map_cons, List.sum_cons]; show 1 + _ ≤ 8; omega)) d4 ⟨hcells, hslots⟩) s1 (fun q _ h => hF q h) hF (fun u t H2 locs1 ht hvm hw hB hz1 hk1 hS1 => ?_)
  obtain ⟨g1, g2⟩ := joinC p1 d1 s1 hA ht hB hk1
  exact kk q u H2 locs1 g1 g2 hS1
/-- the end: the blocks in another order -/
theorem cOrd {is : List Nat} {Bt : List va_W} (nB : Nat) (hP : va_P D vwCl Bs.flatten H) (hD : va_D A Bs.flatten) (hn : Bs.length = nB) (hp : is.Perm (List.range nB)) (ht : bPick is Bs = Bt) : va_P D vwCl Bt.flatten H ∧ va_D A Bt.flatten := by
  subst ht; subst hn
  have h := (bPerm hp).flatten.symm
  exact ⟨vaP_perm h hP, vaD_perm h hD⟩
theorem cRet {mc0 ms0 : Nat} {x : X} {Wx : X → List va_W} (hx : p.tables.exec = Jvm.exec) (hb : c.code = cc) (hr : meth.sig.returnType = none) (hlocks : meth.locks = false) (hK : va_K D vwCl (tyL cs) s) (hP : va_P D vwCl (Wx x).flatten H) (hD : va_D A (Wx x).flatten) (hS : va_S A s.heap H locs) (hQ : Q = MQ below (qC D cs Wx A) args s mc0 ms0 A) (hdg : decode cc pc = .ok (.return_, 1)) :
    W p l e R s m args below meth c H locs mc0 ms0 Q (F0 m pc ls []) := by
  subst hQ
  exact W.vret hx hb hr (fun _ ht hW => ⟨⟨x, rfl, trivial, by rw [ht]; exact hP, va_K.moved hW.alike hK, hD⟩, hS.F ht⟩) hS.2.2 hdg
theorem arrV_cong {cI : ClassId} {N : Nat} {f g : Nat → Value} (h : ∀ j, j < N → f j = g j) : arrV cI N f = arrV cI N g := by
  unfold arrV
  congr 2
  funext j
  exact h j.1 j.2
/-- an array of references is what it holds below its length -/
theorem extP {q n : Nat} {cA : ClassId} {f g : Nat → Option Nat} (h : ∀ j, j < n → f j = g j) (hP : va_P D vwCl (B0 :: [(q, .inl (cA, n, .inr (.inr (.inr (.inr f)))))] :: Br).flatten H) : va_P D vwCl (B0 :: [(q, .inl (cA, n, .inr (.inr (.inr (.inr g)))))] :: Br).flatten H := by
  rw [vaP_iff] at hP ⊢
  intro z hz
  simp only [List.flatten_cons, List.mem_append, List.mem_singleton] at hz hP
  rcases hz with hz | rfl | hz
  · exact hP z (.inl hz)
  · have h1 := hP (q, .inl (cA, n, .inr (.inr (.inr (.inr f))))) (.inr (.inl rfl))
    show H[q]? = some (vp_cell _ _)
    rw [vp_cell_q, ← arrV_cong (fun j hj => congrArg va_rf (h j hj))]
    exact h1
  · exact hP z (.inr (.inr hz))
theorem extD {q : Nat} {x y : va_E} (hD : va_D A (B0 :: [(q, x)] :: Br).flatten) : va_D A (B0 :: [(q, y)] :: Br).flatten := by
  rw [vaD_iff] at hD ⊢
  refine ⟨?_, fun z hz => ?_⟩
  · have h1 := hD.1
    simp only [List.flatten_cons, List.map_append, List.map_cons, List.map_nil] at h1 ⊢
    exact h1
  · simp only [List.flatten_cons, List.mem_append, List.mem_singleton] at hz hD
    rcases hz with hz | rfl | hz
    · exact hD.2 z (.inl hz)
    · exact hD.2 (q, x) (.inr (.inl rfl))
    · exact hD.2 z (.inr (.inr hz))
/-- new int[n][k] -/
theorem cNM {n k : Int32} {n' k' : Nat} {rest : List Value} (hx : p.tables.exec = Jvm.exec) (hb : c.code = cc) (hown : s.vm.findClass own = some m.cls) (hcl : (Cond.classLink own index "[[I").before args s = true) (hW : ∀ w ∈ WG, w.before args s = true) (hX : mX s) (hK : va_K D vwCl (tyL cs) s) (hP : va_P D vwCl (B0 :: Br).flatten H) (hD : va_D A (B0 :: Br).flatten) (hS : va_S A s.heap H locs) (hA : ∀ q : Nat, s.heap.size ≤ q → A q)
    (hn : ¬ n < 0) (hk : ¬ k < 0) (hN : n.toNatClampNeg = n') (hM : k.toNatClampNeg = k') (hb1 : n' * 4 ≤ 536870912) (hb2 : k' * 4 ≤ 536870912) (hcells : cells + (1 + n') ≤ R.cells) (hslots : slots + (n' + n' * k') ≤ R.slots) (hdg : decode cc pc = .ok (.multianewarray index 2, 4))
    (kk : ∀ (q : Nat) (r : Nat → Nat) (H1 : Heap), va_P D vwCl (B0 :: [(q, .inl (cs.1 3, n', .inr (.inr (.inr (.inr (fun i => some (r i)))))))] :: ((List.range n').map (fun i => ((r i, .inl (cs.1 0, k', .inl (fun _ => 0))) : Nat × va_E))) :: Br).flatten H1 → va_D A (B0 :: [(q, .inl (cs.1 3, n', .inr (.inr (.inr (.inr (fun i => some (r i)))))))] :: ((List.range n').map (fun i => ((r i, .inl (cs.1 0, k', .inl (fun _ => 0))) : Nat × va_E))) :: Br).flatten → va_S A s.heap H1 locs →
      W p l e R s m args below meth c H1 locs (cells + 1 + n') (slots + n' + n' * k') Q (F0 m (pc + 4) ls (.ref q :: rest))) :
    W p l e R s m args below meth c H locs cells slots Q (F0 m pc ls (.int k :: .int n :: rest)) := by
  have h0 : va_RA s (cs.1 0) .int := (hK.2 0 (cs.1 0, .int) rfl).2
  refine va_mna (X := (B0 :: Br).flatten) (L := []) (f := fun _ => .inl (0, 0, .inl (fun _ => 0))) (ty := .int) (cy := cs.1 0) (z := (k', .inl (fun _ => 0))) hx hb hown hcl hX.2.2 (hW _ wd206) h0 hK (by show va_P D vwCl (_ ++ []) H; rw [List.append_nil]; exact hP) (by show va_D A (_ ++ []); rw [List.append_nil]; exact hD) hS hA hn hk hN hM hb1 hb2 (by omega) rfl rfl hcells hslots (fun c => arrV_new c k' (defaultValue .int)) hdg (fun q r cA H1 h1 h2 k1 p1 d1 s1 => ?_)
  have e : cA = cs.1 3 := ra_one (k1.2 6 (cA, .array .int) rfl).2 (hK.2 3 (cs.1 3, .array .int) rfl).2
  subst e
  have e2 : va_pl ([] ++ (List.range n').map r) (vr_up (fun _ => .inl (0, 0, .inl (fun _ => 0))) ((List.range n').map r) (.inl (cs.1 0, (k', .inl (fun _ => 0))))) = (List.range n').map (fun i => ((r i, .inl (cs.1 0, k', .inl (fun _ => 0))) : Nat × va_E)) := by
    unfold va_pl
    rw [List.nil_append, List.map_map]
    refine List.map_congr_left fun i hi => ?_
    show (r i, vr_up _ _ _ (r i)) = _
    rw [vr_up_in (List.mem_map.mpr ⟨i, hi, rfl⟩)]
  rw [e2] at p1 d1
  have hp : (((B0 :: Br).flatten ++ [((q, .inl (cs.1 3, n', .inr (.inr (.inr (.inr (fun i => if i < n' then some (r i) else none)))))) : Nat × va_E)]) ++ (List.range n').map (fun i => ((r i, .inl (cs.1 0, k', .inl (fun _ => 0))) : Nat × va_E))).Perm (B0 :: [((q, .inl (cs.1 3, n', .inr (.inr (.inr (.inr (fun i => if i < n' then some (r i) else none)))))) : Nat × va_E)] :: ((List.range n').map (fun i => ((r i, .inl (cs.1 0, k', .inl (fun _ => 0))) : Nat × va_E))) :: Br).flatten := by
    rw [List.append_assoc]
    have := flat_insN B0 [[((q, .inl (cs.1 3, n', .inr (.inr (.inr (.inr (fun i => if i < n' then some (r i) else none)))))) : Nat × va_E)], (List.range n').map (fun i => ((r i, .inl (cs.1 0, k', .inl (fun _ => 0))) : Nat × va_E))] Br
    simp only [List.flatten_cons, List.flatten_nil, List.append_nil] at this ⊢
    exact this
  exact kk q r H1 (extP (fun j hj => if_pos hj) (vaP_perm hp p1)) (extD (vaD_perm hp d1)) s1
end MK
section MK2
variable {p : Program} {l : Launch} {e : Env} {R : Room} {s : State} {m : MethodId} {args : Array Value} {below : List Frame} {meth : Method} {c : Code} {H : Heap} {locs : List Loc} {cells slots : Nat} {Q : State → Prop}
variable {D : va_G} {cs : xE} {A : Nat → Prop} {cc : ByteArray} {pc : Nat} {ls : Array Slot} {B0 : va_W} {Br Bs : List va_W}
/-- new C[n] -/
theorem cNQ {own C : String} {t0 index : Nat} {n : Int32} {N : Nat} {rest : List Value} (ht0 : (tyL cs)[t0]? = some (cs.1 t0, .object C)) (hx : p.tables.exec = Jvm.exec) (hb : c.code = cc) (hown : s.vm.findClass own = some m.cls) (hcl : (Cond.classLink own index C).before args s = true) (hO : va_AO C s) (hK : va_K D vwCl (tyL cs) s) (hP : va_P D vwCl (B0 :: Br).flatten H) (hD : va_D A (B0 :: Br).flatten) (hS : va_S A s.heap H locs) (hA : ∀ q : Nat, s.heap.size ≤ q → A q)
    (hn : ¬ n < 0) (hN : n.toNatClampNeg = N) (hbytes : N * 4 ≤ 536870912) (hcells : cells + 1 ≤ R.cells) (hslots : slots + N ≤ R.slots) (hdg : decode cc pc = .ok (.anewarray index, 3))
    (kk : ∀ (q : Nat) (H1 : Heap), va_P D vwCl (B0 :: [(q, .inl (cs.1 t0, N, .inr (.inr (.inr (.inr (fun _ => none))))))] :: Br).flatten H1 → va_D A (B0 :: [(q, .inl (cs.1 t0, N, .inr (.inr (.inr (.inr (fun _ => none))))))] :: Br).flatten → va_S A s.heap H1 locs → W p l e R s m args below meth c H1 locs (cells + 1) (slots + N) Q (F0 m (pc + 3) ls (.ref q :: rest))) :
    W p l e R s m args below meth c H locs cells slots Q (F0 m pc ls (.int n :: rest)) := by
  refine va_newq hx hb hown hcl hO hK hP hD hS hA hn hN hbytes hcells hslots hdg (fun q cA H1 k1 p1 d1 s1 => ?_)
  have e : cA = cs.1 t0 := ra_one (k1.2 6 (cA, .object C) rfl).2 (hK.2 t0 _ ht0).2
  subst e
  exact kk q H1 (vaP_perm (flat_ins B0 _ Br) p1) (vaD_perm (flat_ins B0 _ Br) d1) s1
/-- a text into its row -/
theorem cSA {o ci q n i0 j : Nat} {fs : List Value} {f : Nat → Option Nat} {i : Int32} {rest : List Value} (hx : p.tables.exec = Jvm.exec) (hb : c.code = cc) (hG : xG cs A s s.heap) (hK : va_K D vwCl (tyL cs) s) (hP : va_P D vwCl ([(o, .inr (ci, fs))] :: [(q, .inl (cs.1 4, n, .inr (.inr (.inr (.inr f)))))] :: Br).flatten H) (hD : va_D A ([(o, .inr (ci, fs))] :: [(q, .inl (cs.1 4, n, .inr (.inr (.inr (.inr f)))))] :: Br).flatten) (hS : va_S A s.heap H locs) (hj : j < 16) (hi : i.toNatClampNeg = i0) (hin : vp_in i n) (hdg : decode cc pc = .ok (.aastore, 1))
    (kk : ∀ (H1 : Heap) (locs1 : List Loc), va_P D vwCl ([(o, .inr (ci, fs))] :: [(q, .inl (cs.1 4, n, .inr (.inr (.inr (.inr (va_up f i0 (some (cs.2.1 j))))))))] :: Br).flatten H1 → va_D A ([(o, .inr (ci, fs))] :: [(q, .inl (cs.1 4, n, .inr (.inr (.inr (.inr (va_up f i0 (some (cs.2.1 j))))))))] :: Br).flatten → va_S A s.heap H1 locs1 → W p l e R s m args below meth c H1 locs1 cells slots Q (F0 m (pc + 1) ls rest)) :
    W p l e R s m args below meth c H locs cells slots Q (F0 m pc ls (.ref (cs.2.1 j) :: .int i :: .ref q :: rest)) := by
  subst hi
  obtain ⟨cell, h1, h2, h3, -⟩ := ((hG.2.1.kept hS.2.1).1 j hj).1
  exact vb_astq (E := "java/lang/String") (C := "java/lang/String") hx hb hK hP hD hS 1 4 rfl rfl ⟨cell, h1, h2, h3⟩ vb_asgS hin hdg kk
end MK2
theorem w9_cong {cs : xE} {o : Nat} {a b : Nat → Nat} {σ : St} (h : ∀ k, 5 ≤ k → k ≤ 10 → a k = b k) : w9 cs o a σ = w9 cs o b σ := by
  unfold w9 fs9
  rw [h 5 (by decide) (by decide), h 6 (by decide) (by decide), h 7 (by decide) (by decide), h 8 (by decide) (by decide), h 9 (by decide) (by decide), h 10 (by decide) (by decide)]
def zR : St := sS zS 3 (-1)
def zX : St := sS zS 7 (-1)
def zM : St := sS zS 22 (-1)
def zH : HSt := (fun _ => 0, fun j => j, fun _ => zS)
