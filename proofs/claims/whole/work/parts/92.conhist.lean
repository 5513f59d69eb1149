/-! forty towns made -/
section
variable {p : Program} {l : Launch} {e : Env} {R : Room} {s : State} {m : MethodId} {args : Array Value} {below : List Frame} {meth : Method} {c : Code} {H : Heap} {locs : List Loc} {cells slots : Nat} {Q : State → Prop}
variable {D : va_G} {cs : xE} {A : Nat → Prop} {cc : ByteArray} {pc : Nat} {ls : Array Slot} {Br Bs : List va_W}
/-- a town into its slot -/
theorem cTA {o ci q n i0 v : Nat} {a : Nat → Nat} {σ : St} {fs : List Value} {f : Nat → Option Nat} {i : Int32} {rest : List Value} (hx : p.tables.exec = Jvm.exec) (hb : c.code = cc) (hK : va_K D vwCl (tyL cs) s) (hP : va_P D vwCl ([(o, .inr (ci, fs))] :: [(q, .inl (cs.1 2, n, .inr (.inr (.inr (.inr f)))))] :: Br).flatten H) (hD : va_D A ([(o, .inr (ci, fs))] :: [(q, .inl (cs.1 2, n, .inr (.inr (.inr (.inr f)))))] :: Br).flatten) (hS : va_S A s.heap H locs) (hv : w9 cs v a σ ∈ Br) (hi : i.toNatClampNeg = i0) (hin : vp_in i n) (hdg : decode cc pc = .ok (.aastore, 1))
    (kk : ∀ (H1 : Heap) (locs1 : List Loc), va_P D vwCl ([(o, .inr (ci, fs))] :: [(q, .inl (cs.1 2, n, .inr (.inr (.inr (.inr (va_up f i0 (some v)))))))] :: Br).flatten H1 → va_D A ([(o, .inr (ci, fs))] :: [(q, .inl (cs.1 2, n, .inr (.inr (.inr (.inr (va_up f i0 (some v)))))))] :: Br).flatten → va_S A s.heap H1 locs1 → W p l e R s m args below meth c H1 locs1 cells slots Q (F0 m (pc + 1) ls rest)) :
    W p l e R s m args below meth c H locs cells slots Q (F0 m pc ls (.ref v :: .int i :: .ref q :: rest)) := by
  subst hi
  obtain ⟨qk, hqk⟩ := List.getElem?_of_mem (show (v, .inr (9, fs9 a σ)) ∈ ([(o, .inr (ci, fs))] :: [(q, .inl (cs.1 2, n, .inr (.inr (.inr (.inr f)))))] :: Br).flatten from List.mem_flatten.mpr ⟨_, List.mem_cons_of_mem _ (List.mem_cons_of_mem _ hv), List.mem_cons_self⟩)
  exact va_astq (r := (RX9, TX9, 11)) hx hb hK hP hD hS 1 2 qk 9 rfl rfl hqk rfl hin hdg kk
end
def cwf (b : Nat → Nat) (a : Nat → Nat → Nat) (cs : xE) (j : Nat) : va_W := w9 cs (b j) (a j) zS
theorem cwf_push {b : Nat → Nat} {a : Nat → Nat → Nat} {cs : xE} {i q : Nat} {x : Nat → Nat} : (List.range (i + 1)).map (cwf (va_up b i q) (va_up a i x) cs) = (List.range i).map (cwf b a cs) ++ [w9 cs q x zS] := by
  rw [List.range_succ, List.map_append]
  congr 1
  · refine List.map_congr_left fun j hj => ?_
    have := List.mem_range.mp hj
    unfold cwf
    rw [va_up_ne _ _ (by omega), va_up_ne _ _ (by omega)]
  · show [cwf _ _ cs i] = _
    unfold cwf
    rw [va_up_self, va_up_self]
set_option maxHeartbeats 4000000 in
set_option maxRecDepth 100000 in
theorem i3_loop {p : Program} {l : Launch} {e : Env} {s : State} {m : MethodId} {args : Array Value} {below : List Frame} {meth : Method} {c : Code} {A : Nat → Prop} {Q : State → Prop} {D : va_G} {cs : xE} {o q1 : Nat} (hx : p.tables.exec = Jvm.exec) (hb : c.code = cX3_init) (hml : c.maxLocals = 2) (hr : meth.sig.returnType = none) (hlocks : meth.locks = false) (hown : s.vm.findClass RX3 = some m.cls) (hts : ∀ w ∈ Cond.code yX3_init cX3_init 2 none :: WG, w.before args s = true) (hK : va_K D vwCl (tyL cs) s) (hA : ∀ q : Nat, s.heap.size ≤ q → A q) (hG : xG cs A s s.heap) (hX : mX s) (hQ : Q = MQ below (qC D cs (fun x : Nat → Nat => [w3 cs o x zH]) A) args s 281 2880 A) :
    ∀ (d i : Nat) (b : Nat → Nat) (a : Nat → Nat → Nat) (H : Heap) (locs : List Loc) (ls : Array Slot), i + d = 40 →
      va_P D vwCl ([(o, .inr (3, [.int 0, .ref q1]))] :: [(q1, .inl (cs.1 2, 40, .inr (.inr (.inr (.inr (fun j => if j < i then some (b j) else none))))))] :: (List.range i).map (cwf b a cs)).flatten H → va_D A ([(o, .inr (3, [.int 0, .ref q1]))] :: [(q1, .inl (cs.1 2, 40, .inr (.inr (.inr (.inr (fun j => if j < i then some (b j) else none))))))] :: (List.range i).map (cwf b a cs)).flatten → va_S A s.heap H locs → lv_has ls 2 [(0, .ref o), (1, .int (nI i))] →
      W p l e { frames := 2, cells := 281, slots := 2880, locals := 32 } s m args below meth c H locs (1 + 7 * i) (40 + 71 * i) Q (F0 m 15 ls []) := by
  have hW : ∀ w ∈ WG, w.before args s = true := fun w h => hts w (List.mem_cons_of_mem _ h)
  have htX3 : ∀ w ∈ u_ws RX3 TX3 2, w.before args s = true := fun w h => hW w (inW_X3 w h)
  intro d
  induction d with
  | zero =>
    intro i b a H locs ls hi hP hD hS hl
    obtain rfl : i = 40 := by omega
    refine lv_iload_n hx hb dX3_init_15 rfl (lv_at hl 1 rfl) ?_
    refine lv_bipush (v := 40) hx hb dX3_init_16 (by decide) ?_
    refine lv_icmp_ge (tgt := 40) hx hb dX3_init_18 (by decide) (fun _ => ?_) (fun hc => absurd (Int32.le_refl _) hc)
    have e : ∀ j, j < 40 → (fun j => if j < 40 then some (b j) else none) j = (fun j => some ((fun k => if k = 1 then q1 else if k < 1040 then b (k - 1000) else a ((k - 2000) / 20) ((k - 2000) % 20)) (1000 + zH.2.1 j))) j := fun j hj => by
      show (if j < 40 then some (b j) else none) = some (if 1000 + j = 1 then q1 else if 1000 + j < 1040 then b (1000 + j - 1000) else _)
      rw [if_pos hj, if_neg (by omega), if_pos (by omega), Nat.add_sub_cancel_left]
    have hP := extP e hP
    have hD := extD (y := .inl (cs.1 2, 40, .inr (.inr (.inr (.inr (fun j => some ((fun k => if k = 1 then q1 else if k < 1040 then b (k - 1000) else a ((k - 2000) / 20) ((k - 2000) % 20)) (1000 + zH.2.1 j)))))))) hD
    have e2 : (List.range 40).map (cwf b a cs) = (List.range 40).map (w3t cs (fun k => if k = 1 then q1 else if k < 1040 then b (k - 1000) else a ((k - 2000) / 20) ((k - 2000) % 20)) zH) := List.map_congr_left fun j hj => by
      have hj := List.mem_range.mp hj
      show w9 cs (b j) (a j) zS = w9 cs (if 1000 + j = 1 then q1 else if 1000 + j < 1040 then b (1000 + j - 1000) else _) (tA _ j) zS
      rw [if_neg (by omega), if_pos (by omega), Nat.add_sub_cancel_left]
      refine w9_cong fun k h1 h2 => ?_
      show a j k = if 2000 + 20 * j + k = 1 then q1 else if 2000 + 20 * j + k < 1040 then _ else a ((2000 + 20 * j + k - 2000) / 20) ((2000 + 20 * j + k - 2000) % 20)
      rw [if_neg (by omega), if_neg (by omega), show (2000 + 20 * j + k - 2000) / 20 = j by omega, show (2000 + 20 * j + k - 2000) % 20 = k by omega]
    rw [e2] at hP hD
    have e3 : ([(o, .inr (3, [.int 0, .ref q1]))] :: [(q1, .inl (cs.1 2, 40, .inr (.inr (.inr (.inr (fun j => some ((fun k => if k = 1 then q1 else if k < 1040 then b (k - 1000) else a ((k - 2000) / 20) ((k - 2000) % 20)) (1000 + zH.2.1 j))))))))] :: (List.range 40).map (w3t cs (fun k => if k = 1 then q1 else if k < 1040 then b (k - 1000) else a ((k - 2000) / 20) ((k - 2000) % 20)) zH)).flatten = ([w3 cs o (fun k => if k = 1 then q1 else if k < 1040 then b (k - 1000) else a ((k - 2000) / 20) ((k - 2000) % 20)) zH] : List va_W).flatten := by
      rw [List.flatten_cons, List.flatten_cons, List.flatten_cons, List.flatten_nil, List.append_nil]
      rfl
    rw [e3] at hP hD
    exact cRet (x := fun k => if k = 1 then q1 else if k < 1040 then b (k - 1000) else a ((k - 2000) / 20) ((k - 2000) % 20)) (Wx := fun x : Nat → Nat => [w3 cs o x zH]) hx hb hr hlocks hK hP hD hS hQ dX3_init_40
  | succ d ih =>
    intro i b a H locs ls hi hP hD hS hl
    have hi40 : i < 40 := by omega
    refine lv_iload_n hx hb dX3_init_15 rfl (lv_at hl 1 rfl) ?_
    refine lv_bipush (v := 40) hx hb dX3_init_16 (by decide) ?_
    refine lv_icmp_ge (tgt := 40) hx hb dX3_init_18 (by decide) (fun hc => absurd hc (nI_ge (b := 40) hi40 (by decide))) (fun _ => ?_)
    refine lv_aload_n hx hb dX3_init_21 rfl (lv_at hl 0 rfl) ?_
    refine gfB (i0 := 0) (own := RX3) (T := TX3) (k := 1) (v := .ref q1) hx hb htX3 hown hK hP rfl rfl rfl (by decide) (hW _ wd283) rfl dX3_init_22 ?_
    refine lv_iload_n hx hb dX3_init_25 rfl (lv_at hl 1 rfl) ?_
    refine cNWn (own := RX3) (C := RX9) (T := TX9) (N := 11) (ci := 9) (y := yX9_init) (fs0 := [.int 0, .int 0, .int 0, .int 0, .int 0, .null, .null, .null, .null, .null, .null]) (Wf := fun o x => [w9 cs o x zS]) ⟨hx, hb, hml, hown, hts⟩ tyX9 tyX9_ok (fun w h => hW w (inW_X9 w h)) (hW _ wd278) (hW _ wd144) (hW _ wd107) hK hP hD hS hA hG hX rfl (fun j hj => by rcases (show j = 0 ∨ j = 1 ∨ j = 2 ∨ j = 3 ∨ j = 4 ∨ j = 5 ∨ j = 6 ∨ j = 7 ∨ j = 8 ∨ j = 9 ∨ j = 10 by omega) with rfl | rfl | rfl | rfl | rfl | rfl | rfl | rfl | rfl | rfl | rfl <;> rfl) (fun q sz => i9 l D cs q sz) (⟨va_cnB 0 hts (gI wd147) rfl rfl rfl (hG.2.2.2.2.2.2.1 _ (by decide +kernel) : va_Nw (Cond.methodLinkNest "TwinLamps$History" 17 yX9_init "TwinLamps") s) (hW _ wd107) (by decide +kernel) ⟨Nat.le_of_ble_eq_true rfl, Nat.le_of_ble_eq_true rfl⟩, rfl, hW _ wd146⟩) hl.1 (Nat.le_of_ble_eq_true rfl) (by show 1 + 7 * i + 1 + 6 ≤ 281; omega) (by show 40 + 71 * i + 11 + 60 ≤ 2880; omega) dX3_init_26 dX3_init_29 dX3_init_30 (fun q x H locs hP hD hS => ?_)
    have hp : ([(o, .inr (3, [.int 0, .ref q1]))] :: ([w9 cs q x zS] ++ [(q1, .inl (cs.1 2, 40, .inr (.inr (.inr (.inr (fun j => if j < i then some (b j) else none))))))] :: (List.range i).map (cwf b a cs)) : List va_W).flatten.Perm ([(o, .inr (3, [.int 0, .ref q1]))] :: [(q1, .inl (cs.1 2, 40, .inr (.inr (.inr (.inr (fun j => if j < i then some (b j) else none))))))] :: ((List.range i).map (cwf b a cs) ++ [w9 cs q x zS]) : List va_W).flatten := by
      refine List.Perm.flatten ?_
      refine List.Perm.cons _ ?_
      show (w9 cs q x zS :: _ :: _).Perm _
      refine (List.Perm.swap _ _ _).trans (List.Perm.cons _ ?_)
      exact (List.perm_append_comm (l₁ := [w9 cs q x zS]) (l₂ := (List.range i).map (cwf b a cs)))
    have hP := vaP_perm hp hP
    have hD := vaD_perm hp hD
    refine cTA (i0 := i) (v := q) (a := x) (σ := zS) hx hb hK hP hD hS (List.mem_append_right _ List.mem_cons_self) (nI_clamp (by omega)) (vp_in_nI hi40 (by decide)) dX3_init_33 (fun H locs hP hD hS => ?_)
    rw [← cwf_push] at hP hD
    have e : ∀ j, j < 40 → va_up (fun j => if j < i then some (b j) else none) i (some q) j = (fun j => if j < i + 1 then some (va_up b i q j) else none) j := fun j _ => by
      show va_up _ i _ j = if j < i + 1 then some (va_up b i q j) else none
      by_cases z : j = i
      · rw [z, va_up_self, va_up_self, if_pos (by omega)]
      · rw [va_up_ne _ _ z, va_up_ne _ _ z]
        by_cases y : j < i
        · rw [if_pos y, if_pos (by omega)]
        · rw [if_neg y, if_neg (by omega)]
    have hP := extP e hP
    have hD := extD (y := .inl (cs.1 2, 40, .inr (.inr (.inr (.inr (fun j => if j < i + 1 then some (va_up b i q j) else none)))))) hD
    refine lv_iinc (v := nI (i + 1)) (lv' := [(1, .int (nI (i + 1))), (0, .ref o)]) hx hb dX3_init_34 hl (k := 1) rfl (nI_1 i) (by decide) rfl (fun ls hl => ?_)
    refine lv_goto (tgt := 15) hx hb dX3_init_37 (by decide) ?_
    have g := ih (i + 1) (va_up b i q) (va_up a i x) H locs ls (by omega) hP hD hS (lv_sub hl [1, 0] rfl)
    rw [show 1 + 7 * (i + 1) = 1 + 7 * i + 1 + 6 by omega, show 40 + 71 * (i + 1) = 40 + 71 * i + 11 + 60 by omega] at g
    exact g
set_option maxHeartbeats 4000000 in
set_option maxRecDepth 100000 in
theorem i3 (l : Launch) (D : va_G) (cs : xE) (o sz : Nat) : Met l yX3_init (Cond.code yX3_init cX3_init 2 none :: WG) { frames := 2, cells := 281, slots := 2880, locals := 32 } (va_Pc [.ref o] (mCo D cs [(o, .inr (3, [.int 0, .null]))] sz)) (qC D cs (fun x : Nat → Nat => [w3 cs o x zH]) (va_A [(o, .inr (3, [.int 0, .null]))] sz)) 281 2880 (va_A [(o, .inr (3, [.int 0, .null]))] sz) := by
  refine mgC (cc := cX3_init) (maxL := 2) (by decide) rfl (Nat.le_of_ble_eq_true rfl) rfl ?_
  intro p e s m below meth c ls A Q args H hQ hx hb hml hr hlocks hin hown hts hP hK hD hA hS hG hX hl
  have hown : s.vm.findClass RX3 = some m.cls := hown
  have hl : lv_has ls 2 [(0, .ref o)] := hl
  have hW : ∀ w ∈ WG, w.before args s = true := fun w h => hts w (List.mem_cons_of_mem _ h)
  have htX3 : ∀ w ∈ u_ws RX3 TX3 2, w.before args s = true := fun w h => hW w (inW_X3 w h)
  have hP : va_P D vwCl ([(o, .inr (3, [.int 0, .null]))] :: []).flatten H := hP
  have hD : va_D A ([(o, .inr (3, [.int 0, .null]))] :: []).flatten := hD
  refine lv_aload_n hx hb dX3_init_0 rfl (lv_at hl 0 rfl) ?_
  refine W.objInit hx hb hown (hW _ wd277) (hW _ wd135) (hW _ wd136) rfl (hl.1.trans hml.symm) rfl dX3_init_1 (Nat.le_of_ble_eq_true rfl) (Nat.le_of_ble_eq_true rfl) ?_
  refine W.eq (g2 := F0 m 4 ls []) rfl ?_
  refine lv_aload_n hx hb dX3_init_4 rfl (lv_at hl 0 rfl) ?_
  refine lv_bipush (v := 40) hx hb dX3_init_5 (by decide) ?_
  refine cNQ (t0 := 2) (N := 40) rfl hx hb hown (hW _ wd278) hX.1 hK hP hD hS hA (by decide) (by decide +kernel) (Nat.le_of_ble_eq_true rfl) (Nat.le_of_ble_eq_true rfl) (Nat.le_of_ble_eq_true rfl) dX3_init_7 (fun q7 H hP hD hS => ?_)
  refine cPF (k := 1) (C := RX3) (T := TX3) (N := 2) (fs' := [.int 0, .ref q7]) tyX3 tyX3_ok nmX3 hx hb htX3 hown hK hP hD hS rfl (by decide) (hW _ wd283) rfl hin rfl rfl rfl (Nat.le_of_ble_eq_true rfl) dX3_init_10 rfl (fun H locs hP hD hS => ?_)
  refine lv_iconst (v := 0) hx hb dX3_init_13 (by decide) ?_
  refine lv_istore_n (lv' := [(1, .int 0), (0, .ref o)]) hx hb dX3_init_14 rfl hl (by decide) rfl (fun ls hl => ?_)
  exact i3_loop hx hb hml hr hlocks hown hts hK hA hG hX hQ 40 0 (fun _ => 0) (fun _ _ => 0) H locs ls rfl (extP (fun j _ => (if_neg (Nat.not_lt_zero j)).symm) hP) (extD hD) hS (lv_sub hl [1, 0] rfl)
