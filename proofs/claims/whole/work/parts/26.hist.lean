/-! the history: 40 towns, and which slot holds which -/
abbrev HSt := (Nat → Int32) × (Nat → Nat) × (Nat → St)
def tA (a : Nat → Nat) (i : Nat) : Nat → Nat := fun k => a (2000 + 20 * i + k)
def sH (σ : HSt) (k : Nat) (v : Int32) : HSt := (fun j => if j = k then v else σ.1 j, σ.2)
def sP (σ : HSt) (i q : Nat) : HSt := (σ.1, fun j => if j = i then q else σ.2.1 j, σ.2.2)
def sT (σ : HSt) (q : Nat) (st : St) : HSt := (σ.1, σ.2.1, fun j => if j = q then st else σ.2.2 j)
def fs3 (a : Nat → Nat) (σ : HSt) : List Value := [.int (σ.1 0), .ref (a 1)]
def w3t (cs : xE) (a : Nat → Nat) (σ : HSt) (i : Nat) : va_W := w9 cs (a (1000 + i)) (tA a i) (σ.2.2 i)
def w3h (cs : xE) (o : Nat) (a : Nat → Nat) (σ : HSt) : va_W := [(o, .inr (3, fs3 a σ)), (a 1, .inl (cs.1 2, 40, .inr (.inr (.inr (.inr (fun j => some (a (1000 + σ.2.1 j))))))))]
def w3 (cs : xE) (o : Nat) (a : Nat → Nat) (σ : HSt) : va_W := (o, .inr (3, fs3 a σ)) :: (a 1, .inl (cs.1 2, 40, .inr (.inr (.inr (.inr (fun j => some (a (1000 + σ.2.1 j)))))))) :: ((List.range 40).map (w3t cs a σ)).flatten
def w3r (cs : xE) (o : Nat) (a : Nat → Nat) (σ : HSt) (q : Nat) : va_W := w3h cs o a σ ++ (((List.range 40).erase q).map (w3t cs a σ)).flatten
theorem e3 {cs : xE} {o : Nat} {a : Nat → Nat} {σ : HSt} : (w3 cs o a σ)[0]? = some (o, .inr (3, fs3 a σ)) := rfl
theorem u3_0 {cs : xE} {o : Nat} {a : Nat → Nat} {σ : HSt} {v : Int32} : (w3 cs o a σ).set 0 (o, .inr (3, (fs3 a σ).set 0 (.int v))) = w3 cs o a (sH σ 0 v) := rfl
theorem a3_1 {cs : xE} {o : Nat} {a : Nat → Nat} {σ : HSt} : (w3 cs o a σ)[1]? = some (a 1, .inl (cs.1 2, 40, .inr (.inr (.inr (.inr (fun j => some (a (1000 + σ.2.1 j)))))))) := rfl
theorem bOpen {Bs : List va_W} {i : Nat} {B R S : va_W} (hB : Bs[i]? = some B) (h : B.Perm (R ++ S)) : Bs.flatten.Perm (Bs.set i R ++ [S]).flatten := by
  obtain ⟨M, h1, h2⟩ := perm_split Bs i B hB
  refine h1.flatten.trans ?_
  rw [List.flatten_append]
  refine List.Perm.trans ?_ ((h2 R).flatten.append_right _).symm
  simp only [List.flatten_cons, List.flatten_nil, List.append_nil]
  refine (h.append_right _).trans ?_
  rw [List.append_assoc, List.append_assoc]
  exact (List.perm_append_comm).append_left _
theorem w3_perm {cs : xE} {a : Nat → Nat} {σ : HSt} {q : Nat} (hq : q < 40) : (((List.range 40).map (w3t cs a σ)).flatten).Perm ((((List.range 40).erase q).map (w3t cs a σ)).flatten ++ w3t cs a σ q) := by
  have h := ((List.perm_cons_erase (List.mem_range.mpr hq)).map (w3t cs a σ)).flatten
  simp only [List.map_cons, List.flatten_cons] at h
  exact h.trans List.perm_append_comm
theorem w3_open {cs : xE} {o : Nat} {a : Nat → Nat} {σ : HSt} {q : Nat} (hq : q < 40) : (w3 cs o a σ).Perm (w3r cs o a σ q ++ w9 cs (a (1000 + q)) (tA a q) (σ.2.2 q)) := by
  show (w3h cs o a σ ++ _).Perm ((w3h cs o a σ ++ _) ++ w3t cs a σ q)
  rw [List.append_assoc]
  exact (w3_perm hq).append_left _
theorem w3_close {cs : xE} {o : Nat} {a : Nat → Nat} {σ z : HSt} {q : Nat} {st : St} (hq : q < 40) (e : sT σ q st = z) : (w3 cs o a z).Perm (w3r cs o a σ q ++ w9 cs (a (1000 + q)) (tA a q) st) := by
  subst e
  have h := w3_open (cs := cs) (o := o) (a := a) (σ := sT σ q st) hq
  have e1 : w3r cs o a (sT σ q st) q = w3r cs o a σ q := by
    unfold w3r
    refine congrArg (fun z => w3h cs o a σ ++ List.flatten z) (List.map_congr_left fun j hj => ?_)
    have hne : j ≠ q := fun z => by
      subst z
      exact (List.Nodup.not_mem_erase List.nodup_range) hj
    show w9 _ _ _ (if j = q then st else _) = _
    rw [if_neg hne]
    rfl
  have e2 : (sT σ q st).2.2 q = st := if_pos rfl
  rw [e1, e2] at h
  exact h
section HX
variable {p : Program} {l : Launch} {e : Env} {R : Room} {s : State} {m : MethodId} {args : Array Value} {below : List Frame} {meth : Method} {c : Code} {H : Heap} {locs : List Loc} {cells slots : Nat} {Q : State → Prop}
variable {D : va_G} {cs : xE} {A : Nat → Prop} {cc : ByteArray} {pc : Nat} {ls : Array Slot} {Bs Bn : List va_W} {i0 : Nat}
theorem astH {o : Nat} {a : Nat → Nat} {σ : HSt} {q : Nat} {i : Int32} {rest : List Value} (hx : p.tables.exec = Jvm.exec) (hb : c.code = cc) (hK : va_K D vwCl (tyL cs) s) (hP : va_P D vwCl Bs.flatten H) (hD : va_D A Bs.flatten) (hS : va_S A s.heap H locs) (hB : Bs[i0]? = some (w3 cs o a σ)) (hin : vp_in i 40) (hq : q < 40) (hdg : decode cc pc = .ok (.aastore, 1)) (hn2 : Bs.set i0 (w3 cs o a (sP σ i.toNatClampNeg q)) = Bn)
    (kk : ∀ (H1 : Heap) (locs1 : List Loc), va_P D vwCl Bn.flatten H1 → va_D A Bn.flatten → va_S A s.heap H1 locs1 → W p l e R s m args below meth c H1 locs1 cells slots Q (F0 m (pc + 1) ls rest)) : W p l e R s m args below meth c H locs cells slots Q (F0 m pc ls (.ref (a (1000 + q)) :: .int i :: .ref (a 1) :: rest)) := by
  subst hn2
  obtain ⟨R0, h1, h2⟩ := flat_split hB a3_1
  have hm : (a (1000 + q), Sum.inr (9, fs9 (tA a q) (σ.2.2 q))) ∈ Bs.flatten := by
    refine List.mem_flatten.mpr ⟨_, List.mem_of_getElem? hB, ?_⟩
    refine List.mem_cons_of_mem _ (List.mem_cons_of_mem _ (List.mem_flatten.mpr ⟨w3t cs a σ q, List.mem_map.mpr ⟨q, List.mem_range.mpr hq, rfl⟩, List.mem_of_getElem? (i := 0) e9⟩))
  obtain ⟨qk, hv⟩ := List.getElem?_of_mem (h1.mem_iff.mp hm)
  have hu : va_up (fun j => some (a (1000 + σ.2.1 j))) i.toNatClampNeg (some (a (1000 + q))) = fun j => some (a (1000 + (sP σ i.toNatClampNeg q).2.1 j)) := by
    funext j
    show (if j = _ then _ else _) = some (a (1000 + if j = _ then _ else _))
    split <;> rfl
  have h3 := h2 (a 1, .inl (cs.1 2, 40, .inr (.inr (.inr (.inr (fun j => some (a (1000 + (sP σ i.toNatClampNeg q).2.1 j))))))))
  refine va_astq hx hb hK (vaP_perm h1 hP) (vaD_perm h1 hD) hS 0 2 qk 9 rfl rfl hv rfl hin hdg (fun H1 locs1 g1 g2 g3 => ?_)
  rw [hu] at g1 g2
  exact kk H1 locs1 (vaP_perm h3.symm g1) (vaD_perm h3.symm g2) g3
end HX
/-! TwinLamps$History.clear -/
noncomputable def f3_clear (s_h : HSt) : Option (HSt) :=
  (some (sH s_h 0 0)).bind fun s1 =>
  some s1
set_option maxHeartbeats 4000000 in
set_option maxRecDepth 100000 in
theorem c3_clear (l : Launch) (D : va_G) (cs : xE) (o_h : Nat) (a_h : Nat → Nat) (s_h : HSt) (sz : Nat) (res : HSt) (hf : f3_clear s_h = some res) : Met l yX3_clear (Cond.code yX3_clear cX3_clear 1 none :: WG) { frames := 0, cells := 0, slots := 0, locals := 0 } (va_Pc [.ref o_h] (mP D cs (List.flatten [w3 cs o_h a_h s_h]) sz)) (qV D cs (List.flatten [w3 cs o_h a_h res]) (va_A (List.flatten [w3 cs o_h a_h s_h]) sz)) 0 0 (va_A (List.flatten [w3 cs o_h a_h s_h]) sz) := by
  refine mgo (Qc := qV D cs (List.flatten [w3 cs o_h a_h res])) (cc := cX3_clear) (maxL := 1) (ret := none) (by decide) rfl (Nat.le_of_ble_eq_true rfl) ?_
  intro p e s m below meth c ls A R Q args H hR hQ hx hb hml hr hlocks hown hts hP hK hD hA hS hG hl
  have hown : s.vm.findClass RX3 = some m.cls := hown
  have hl : lv_has ls 1 [(0, .ref o_h)] := hl
  have hW : ∀ w ∈ WG, w.before args s = true := fun w h => hts w (List.mem_cons_of_mem _ h)
  have htX3 : ∀ w ∈ u_ws RX3 TX3 2, w.before args s = true := fun w h => hW w (inW_X3 w h)
  unfold f3_clear at hf
  refine lv_aload_n hx hb dX3_clear_0 rfl (lv_at hl 0 rfl) ?_
  refine lv_iconst (v := 0) hx hb dX3_clear_1 (by decide) ?_
  obtain ⟨s1, es1, hf⟩ := bnd hf
  replace es1 := Option.some.inj es1
  refine pfB (i0 := 0) (own := RX3) (T := TX3) (k := 0) (Bn := [w3 cs o_h a_h s1]) tyX3 tyX3_ok nmX3 hx hb htX3 hown hK hP hD hS rfl e3 rfl (by decide) (hW _ wd281) rfl rfl rfl (Nat.le_of_ble_eq_true rfl) dX3_clear_2 (by rw [← es1]; exact u3_0) rfl (fun H locs hP hD hS => ?_)
  obtain rfl := Option.some.inj hf
  exact mretV hx hb hr hlocks hK hP hD hS hQ dX3_clear_5
/-! TwinLamps$History.dropOldest -/
noncomputable def f3_dropOldest_L3  (v4 : Int32 × HSt) : Option ((Int32 × HSt) ⊕ (HSt)) :=
  if (40 : Int32) ≤ v4.1 then some (.inr v4.2) else (ckO 40 v4.1).bind fun q5 =>
  (bdO 40 (v4.2.2.1 q5)).bind fun q6 =>
  (ckO 40 (v4.1 - 1)).bind fun q7 =>
  (some (sP v4.2 q7 q6)).bind fun s8 =>
  some (.inl ((v4.1 + 1), s8))
noncomputable def f3_dropOldest (s_h : HSt) : Option (HSt) :=
  (ckO 40 (0 : Int32)).bind fun q1 =>
  (bdO 40 (s_h.2.1 q1)).bind fun q2 =>
  (lpw (f3_dropOldest_L3) (1, s_h)).bind fun q3 =>
  (ckO 40 (39 : Int32)).bind fun q9 =>
  (some (sP q3 q9 q2)).bind fun s10 =>
  (some (sH s10 0 39)).bind fun s11 =>
  some s11
set_option maxHeartbeats 4000000 in
set_option maxRecDepth 100000 in
theorem c3_dropOldest (l : Launch) (D : va_G) (cs : xE) (o_h : Nat) (a_h : Nat → Nat) (s_h : HSt) (sz : Nat) (res : HSt) (hf : f3_dropOldest s_h = some res) : Met l yX3_dropOldest (Cond.code yX3_dropOldest cX3_dropOldest 3 none :: WG) { frames := 0, cells := 0, slots := 0, locals := 0 } (va_Pc [.ref o_h] (mP D cs (List.flatten [w3 cs o_h a_h s_h]) sz)) (qV D cs (List.flatten [w3 cs o_h a_h res]) (va_A (List.flatten [w3 cs o_h a_h s_h]) sz)) 0 0 (va_A (List.flatten [w3 cs o_h a_h s_h]) sz) := by
  refine mgo (Qc := qV D cs (List.flatten [w3 cs o_h a_h res])) (cc := cX3_dropOldest) (maxL := 3) (ret := none) (by decide) rfl (Nat.le_of_ble_eq_true rfl) ?_
  intro p e s m below meth c ls A R Q args H hR hQ hx hb hml hr hlocks hown hts hP hK hD hA hS hG hl
  have hown : s.vm.findClass RX3 = some m.cls := hown
  have hl : lv_has ls 3 [(0, .ref o_h)] := hl
  have hW : ∀ w ∈ WG, w.before args s = true := fun w h => hts w (List.mem_cons_of_mem _ h)
  have htX3 : ∀ w ∈ u_ws RX3 TX3 2, w.before args s = true := fun w h => hW w (inW_X3 w h)
  unfold f3_dropOldest at hf
  refine lv_aload_n hx hb dX3_dropOldest_0 rfl (lv_at hl 0 rfl) ?_
  refine gfB (i0 := 0) (own := RX3) (T := TX3) (k := 1) (v := .ref (a_h 1)) hx hb htX3 hown hK hP rfl e3 rfl (by decide) (hW _ wd283) rfl dX3_dropOldest_1 ?_
  refine lv_iconst (v := 0) hx hb dX3_dropOldest_4 (by decide) ?_
  obtain ⟨q1, eq1, hf⟩ := bnd hf
  obtain ⟨gq1, eq1, bq1⟩ := ckO_e eq1
  obtain ⟨q2, eq2, hf⟩ := bnd hf
  obtain ⟨bq2, eq2⟩ := bdO_e eq2
  rw [eq2] at bq2
  refine qldB (i0 := 0) 2 rfl hx hb hK hP rfl a3_1 gq1 dX3_dropOldest_5 ?_
  refine lv_nmr (a := a_h (1000 + q2)) (by rw [eq1, eq2]; rfl) ?_
  refine lv_astore_n (lv' := [(1, .ref (a_h (1000 + q2))), (0, .ref o_h)]) hx hb dX3_dropOldest_6 rfl hl (by decide) rfl (fun ls hl => ?_)
  refine lv_iconst (v := 1) hx hb dX3_dropOldest_7 (by decide) ?_
  refine lv_istore_n (lv' := [(2, .int 1), (1, .ref (a_h (1000 + q2))), (0, .ref o_h)]) hx hb dX3_dropOldest_8 rfl hl (by decide) rfl (fun ls hl => ?_)
  obtain ⟨q3, hq3, hf⟩ := bnd hf
  obtain ⟨n3, hq3⟩ := lpw_ex hq3
  have Jq3_0 : ∀ rr3_0 : HSt, q3 = rr3_0 → ∀ (H : Heap) (locs : List Loc) (ls : Array Slot), va_P D vwCl (List.flatten [w3 cs o_h a_h rr3_0]) H → va_D A (List.flatten [w3 cs o_h a_h rr3_0]) → va_S A s.heap H locs → lv_has ls 3 [(0, .ref o_h), (1, .ref (a_h (1000 + q2)))] → W p l e R s m args below meth c H locs 0 0 Q (F0 m 35 ls []) := by
    intro rr3_0 eq3 H locs ls hP hD hS hl
    subst eq3
    refine lv_aload_n hx hb dX3_dropOldest_35 rfl (lv_at hl 0 rfl) ?_
    refine gfB (i0 := 0) (own := RX3) (T := TX3) (k := 1) (v := .ref (a_h 1)) hx hb htX3 hown hK hP rfl e3 rfl (by decide) (hW _ wd283) rfl dX3_dropOldest_36 ?_
    refine lv_bipush (v := 39) hx hb dX3_dropOldest_39 (by decide) ?_
    refine lv_aload_n hx hb dX3_dropOldest_41 rfl (lv_at hl 1 rfl) ?_
    obtain ⟨q9, eq9, hf⟩ := bnd hf
    obtain ⟨gq9, eq9, bq9⟩ := ckO_e eq9
    obtain ⟨s10, es10, hf⟩ := bnd hf
    replace es10 := Option.some.inj es10
    refine astH (i0 := 0) (Bn := [w3 cs o_h a_h s10]) hx hb hK hP hD hS rfl gq9 bq2 dX3_dropOldest_42 (by rw [eq9, es10]; rfl) (fun H locs hP hD hS => ?_)
    refine lv_aload_n hx hb dX3_dropOldest_43 rfl (lv_at hl 0 rfl) ?_
    refine lv_bipush (v := 39) hx hb dX3_dropOldest_44 (by decide) ?_
    obtain ⟨s11, es11, hf⟩ := bnd hf
    replace es11 := Option.some.inj es11
    refine pfB (i0 := 0) (own := RX3) (T := TX3) (k := 0) (Bn := [w3 cs o_h a_h s11]) tyX3 tyX3_ok nmX3 hx hb htX3 hown hK hP hD hS rfl e3 rfl (by decide) (hW _ wd281) rfl rfl rfl (Nat.le_of_ble_eq_true rfl) dX3_dropOldest_46 (by rw [← es11]; exact u3_0) rfl (fun H locs hP hD hS => ?_)
    obtain rfl := Option.some.inj hf
    exact mretV hx hb hr hlocks hK hP hD hS hQ dX3_dropOldest_49
  clear hf
  have L3 : ∀ n3, ∀ v4 : Int32 × HSt, lp n3 (f3_dropOldest_L3) v4 = some q3 → ∀ (H : Heap) (locs : List Loc) (ls : Array Slot), va_P D vwCl (List.flatten [w3 cs o_h a_h v4.2]) H → va_D A (List.flatten [w3 cs o_h a_h v4.2]) → va_S A s.heap H locs → lv_has ls 3 [(0, .ref o_h), (1, .ref (a_h (1000 + q2))), (2, .int v4.1)] → W p l e R s m args below meth c H locs 0 0 Q (F0 m 9 ls []) := by
    intro n3
    induction n3 with
    | zero => intro v4 hn; cases hn
    | succ n3 ih3 =>
      intro v4 hn3 H locs ls hP hD hS hl
      obtain ⟨y3, hf, hn3⟩ := lp_succ hn3
      unfold f3_dropOldest_L3 at hf
      refine lv_iload_n hx hb dX3_dropOldest_9 rfl (lv_at hl 2 rfl) ?_
      refine lv_bipush (v := 40) hx hb dX3_dropOldest_10 (by decide) ?_
      refine lv_icmp_ge (tgt := 35) hx hb dX3_dropOldest_12 (by decide) (fun hc => ?_) (fun hc => ?_)
      · have hf := ifp hc hf
        cases hf
        exact Jq3_0 _ (Option.some.inj hn3).symm _ _ _ hP hD hS (lv_sub hl [0, 1] rfl)
      · have hf := ifn hc hf
        refine lv_aload_n hx hb dX3_dropOldest_15 rfl (lv_at hl 0 rfl) ?_
        refine gfB (i0 := 0) (own := RX3) (T := TX3) (k := 1) (v := .ref (a_h 1)) hx hb htX3 hown hK hP rfl e3 rfl (by decide) (hW _ wd283) rfl dX3_dropOldest_16 ?_
        refine lv_iload_n hx hb dX3_dropOldest_19 rfl (lv_at hl 2 rfl) ?_
        refine lv_iconst (v := 1) hx hb dX3_dropOldest_20 (by decide) ?_
        refine lv_isub hx hb dX3_dropOldest_21 ?_
        refine lv_aload_n hx hb dX3_dropOldest_22 rfl (lv_at hl 0 rfl) ?_
        refine gfB (i0 := 0) (own := RX3) (T := TX3) (k := 1) (v := .ref (a_h 1)) hx hb htX3 hown hK hP rfl e3 rfl (by decide) (hW _ wd283) rfl dX3_dropOldest_23 ?_
        refine lv_iload_n hx hb dX3_dropOldest_26 rfl (lv_at hl 2 rfl) ?_
        obtain ⟨q5, eq5, hf⟩ := bnd hf
        obtain ⟨gq5, eq5, bq5⟩ := ckO_e eq5
        obtain ⟨q6, eq6, hf⟩ := bnd hf
        obtain ⟨bq6, eq6⟩ := bdO_e eq6
        rw [eq6] at bq6
        refine qldB (i0 := 0) 2 rfl hx hb hK hP rfl a3_1 gq5 dX3_dropOldest_27 ?_
        refine lv_nmr (a := a_h (1000 + q6)) (by rw [eq5, eq6]; rfl) ?_
        obtain ⟨q7, eq7, hf⟩ := bnd hf
        obtain ⟨gq7, eq7, bq7⟩ := ckO_e eq7
        obtain ⟨s8, es8, hf⟩ := bnd hf
        replace es8 := Option.some.inj es8
        refine astH (i0 := 0) (Bn := [w3 cs o_h a_h s8]) hx hb hK hP hD hS rfl gq7 bq6 dX3_dropOldest_28 (by rw [eq7, es8]; rfl) (fun H locs hP hD hS => ?_)
        refine lv_iinc (v := (v4.1 + 1)) (lv' := [(2, .int (v4.1 + 1)), (0, .ref o_h), (1, .ref (a_h (1000 + q2)))]) hx hb dX3_dropOldest_29 hl (k := 2) rfl rfl (by decide) rfl (fun ls hl => ?_)
        refine lv_goto (tgt := 9) hx hb dX3_dropOldest_32 (by decide) ?_
        cases hf
        exact ih3 _ hn3 _ _ _ hP hD hS (lv_sub hl [1, 2, 0] rfl)
  exact L3 _ _ hq3 _ _ _ hP hD hS (lv_sub hl [2, 1, 0] rfl)
/-! TwinLamps$History.keep -/
noncomputable def f3_keep (s_h : HSt) (s_t : St) : Option (HSt) :=
  ((if (s_h.1 0) < 40 then some s_h else (f3_dropOldest s_h).bind fun q2 =>
  some q2 : Option (HSt))).bind fun q1 =>
  (ckO 40 (q1.1 0)).bind fun q3 =>
  (bdO 40 (q1.2.1 q3)).bind fun q4 =>
  (f9_copyFrom (q1.2.2 q4) s_t).bind fun q5 =>
  (some (sT q1 q4 q5)).bind fun s6 =>
  (some (sH s6 0 ((s6.1 0) + 1))).bind fun s7 =>
  some s7
set_option maxHeartbeats 4000000 in
set_option maxRecDepth 100000 in
theorem c3_keep (l : Launch) (D : va_G) (cs : xE) (o_h : Nat) (a_h : Nat → Nat) (o_t : Nat) (a_t : Nat → Nat) (s_h : HSt) (s_t : St) (sz : Nat) (res : HSt) (hf : f3_keep s_h s_t = some res) : Met l yX3_keep (Cond.code yX3_keep cX3_keep 2 none :: WG) { frames := 2, cells := 0, slots := 0, locals := 47 } (va_Pc [.ref o_h, .ref o_t] (mP D cs (List.flatten [w3 cs o_h a_h s_h, w9 cs o_t a_t s_t]) sz)) (qV D cs (List.flatten [w3 cs o_h a_h res, w9 cs o_t a_t s_t]) (va_A (List.flatten [w3 cs o_h a_h s_h, w9 cs o_t a_t s_t]) sz)) 0 0 (va_A (List.flatten [w3 cs o_h a_h s_h, w9 cs o_t a_t s_t]) sz) := by
  refine mgo (Qc := qV D cs (List.flatten [w3 cs o_h a_h res, w9 cs o_t a_t s_t])) (cc := cX3_keep) (maxL := 2) (ret := none) (by decide) rfl (Nat.le_of_ble_eq_true rfl) ?_
  intro p e s m below meth c ls A R Q args H hR hQ hx hb hml hr hlocks hown hts hP hK hD hA hS hG hl
  have hown : s.vm.findClass RX3 = some m.cls := hown
  have hl : lv_has ls 2 [(0, .ref o_h), (1, .ref o_t)] := hl
  have hW : ∀ w ∈ WG, w.before args s = true := fun w h => hts w (List.mem_cons_of_mem _ h)
  have htX3 : ∀ w ∈ u_ws RX3 TX3 2, w.before args s = true := fun w h => hW w (inW_X3 w h)
  unfold f3_keep at hf
  refine lv_aload_n hx hb dX3_keep_0 rfl (lv_at hl 0 rfl) ?_
  refine gfB (i0 := 0) (own := RX3) (T := TX3) (k := 0) (v := .int (s_h.1 0)) hx hb htX3 hown hK hP rfl e3 rfl (by decide) (hW _ wd281) rfl dX3_keep_1 ?_
  refine lv_bipush (v := 40) hx hb dX3_keep_4 (by decide) ?_
  obtain ⟨q1, hq1, hf⟩ := bnd hf
  have Jq1 : ∀ r1 : HSt, q1 = r1 → ∀ (H : Heap) (locs : List Loc) (ls : Array Slot), va_P D vwCl (List.flatten [w3 cs o_h a_h r1, w9 cs o_t a_t s_t]) H → va_D A (List.flatten [w3 cs o_h a_h r1, w9 cs o_t a_t s_t]) → va_S A s.heap H locs → lv_has ls 2 [(0, .ref o_h), (1, .ref o_t)] → W p l e R s m args below meth c H locs 0 0 Q (F0 m 13 ls []) := by
    intro r1 eq1 H locs ls hP hD hS hl
    subst eq1
    refine lv_aload_n hx hb dX3_keep_13 rfl (lv_at hl 0 rfl) ?_
    refine gfB (i0 := 0) (own := RX3) (T := TX3) (k := 1) (v := .ref (a_h 1)) hx hb htX3 hown hK hP rfl e3 rfl (by decide) (hW _ wd283) rfl dX3_keep_14 ?_
    refine lv_aload_n hx hb dX3_keep_17 rfl (lv_at hl 0 rfl) ?_
    refine gfB (i0 := 0) (own := RX3) (T := TX3) (k := 0) (v := .int (q1.1 0)) hx hb htX3 hown hK hP rfl e3 rfl (by decide) (hW _ wd281) rfl dX3_keep_18 ?_
    obtain ⟨q3, eq3, hf⟩ := bnd hf
    obtain ⟨gq3, eq3, bq3⟩ := ckO_e eq3
    obtain ⟨q4, eq4, hf⟩ := bnd hf
    obtain ⟨bq4, eq4⟩ := bdO_e eq4
    rw [eq4] at bq4
    refine qldB (i0 := 0) 2 rfl hx hb hK hP rfl a3_1 gq3 dX3_keep_21 ?_
    refine lv_nmr (a := a_h (1000 + q4)) (by rw [eq3, eq4]; rfl) ?_
    refine lv_aload_n hx hb dX3_keep_22 rfl (lv_at hl 1 rfl) ?_
    obtain ⟨q5, eq5, hf⟩ := bnd hf
    have hp : (List.flatten [w3 cs o_h a_h q1, w9 cs o_t a_t s_t]).Perm (List.flatten [w3r cs o_h a_h q1 q4, w9 cs o_t a_t s_t, w9 cs (a_h (1000 + q4)) (tA a_h q4) (q1.2.2 q4)]) := bOpen (i := 0) rfl (w3_open bq4)
    have hP := vaP_perm hp hP
    have hD := vaD_perm hp hD
    clear hp
    refine mcVv (rest := []) (Bs := [w3r cs o_h a_h q1 q4, w9 cs o_t a_t s_t, w9 cs (a_h (1000 + q4)) (tA a_h q4) (q1.2.2 q4)]) (Bn := [w3r cs o_h a_h q1 q4, w9 cs o_t a_t s_t, w9 cs (a_h (1000 + q4)) (tA a_h q4) q5]) (isR := [0]) (isC := [2, 1]) (i0 := 2) ⟨hx, hb, hml, hown, hts⟩ hK hP hD hS hA hG (c9_copyFrom l D cs (a_h (1000 + q4)) (tA a_h q4) o_t a_t (q1.2.2 q4) s_t H.size _ eq5) (cwV 1 hts (gV wd499 wd500 wd501 wd107 wd502) rfl rfl rfl (by decide +kernel) ⟨by rw [hR]; exact Nat.le_of_ble_eq_true rfl, by rw [hR]; exact Nat.le_of_ble_eq_true rfl⟩) 3 (by decide) rfl rfl rfl rfl rfl rfl rfl e9 rfl rfl rfl hl.1 rfl (Nat.le_of_ble_eq_true rfl) ⟨Nat.zero_le _, Nat.zero_le _⟩ dX3_keep_23 (fun H locs hP hD hS => ?_)
    obtain ⟨s6, es6, hf⟩ := bnd hf
    replace es6 := Option.some.inj es6
    have hp : (List.flatten [w3r cs o_h a_h q1 q4, w9 cs o_t a_t s_t, w9 cs (a_h (1000 + q4)) (tA a_h q4) q5]).Perm (List.flatten [w3 cs o_h a_h s6, w9 cs o_t a_t s_t]) := (bOpen (Bs := [w3 cs o_h a_h s6, w9 cs o_t a_t s_t]) (i := 0) rfl (w3_close bq4 es6)).symm
    have hP := vaP_perm hp hP
    have hD := vaD_perm hp hD
    clear hp
    refine lv_aload_n hx hb dX3_keep_26 rfl (lv_at hl 0 rfl) ?_
    refine lv_dup hx hb dX3_keep_27 rfl ?_
    refine gfB (i0 := 0) (own := RX3) (T := TX3) (k := 0) (v := .int (s6.1 0)) hx hb htX3 hown hK hP rfl e3 rfl (by decide) (hW _ wd281) rfl dX3_keep_28 ?_
    refine lv_iconst (v := 1) hx hb dX3_keep_31 (by decide) ?_
    refine lv_iadd hx hb dX3_keep_32 ?_
    obtain ⟨s7, es7, hf⟩ := bnd hf
    replace es7 := Option.some.inj es7
    refine pfB (i0 := 0) (own := RX3) (T := TX3) (k := 0) (Bn := [w3 cs o_h a_h s7, w9 cs o_t a_t s_t]) tyX3 tyX3_ok nmX3 hx hb htX3 hown hK hP hD hS rfl e3 rfl (by decide) (hW _ wd281) rfl rfl rfl (Nat.le_of_ble_eq_true rfl) dX3_keep_33 (by rw [← es7]; exact u3_0) rfl (fun H locs hP hD hS => ?_)
    obtain rfl := Option.some.inj hf
    exact mretV hx hb hr hlocks hK hP hD hS hQ dX3_keep_36
  clear hf
  have hf := hq1
  refine lv_icmp_lt (tgt := 13) hx hb dX3_keep_6 (by decide) (fun hc => ?_) (fun hc => ?_)
  · have hf := ifp hc hf
    exact Jq1 _ (Option.some.inj hf).symm _ _ _ hP hD hS (lv_sub hl [0, 1] rfl)
  · have hf := ifn hc hf
    refine lv_aload_n hx hb dX3_keep_9 rfl (lv_at hl 0 rfl) ?_
    obtain ⟨q2, eq2, hf⟩ := bnd hf
    refine mcVv (rest := []) (Bn := [w3 cs o_h a_h q2, w9 cs o_t a_t s_t]) (isR := [1]) (isC := [0]) (i0 := 0) ⟨hx, hb, hml, hown, hts⟩ hK hP hD hS hA hG (c3_dropOldest l D cs o_h a_h s_h H.size _ eq2) (cwV 0 hts (gV wd495 wd497 wd1 wd109 wd498) rfl rfl rfl (by decide +kernel) ⟨by rw [hR]; exact Nat.le_of_ble_eq_true rfl, by rw [hR]; exact Nat.le_of_ble_eq_true rfl⟩) 2 (by decide) rfl rfl rfl rfl rfl rfl rfl e3 rfl rfl rfl hl.1 rfl (Nat.le_of_ble_eq_true rfl) ⟨Nat.zero_le _, Nat.zero_le _⟩ dX3_keep_10 (fun H locs hP hD hS => ?_)
    exact Jq1 _ (Option.some.inj hf).symm _ _ _ hP hD hS (lv_sub hl [0, 1] rfl)
/-! TwinLamps$History.takeBack -/
noncomputable def f3_takeBack (s_h : HSt) (s_t : St) : Option (HSt × St) :=
  ((if (s_h.1 0) ≤ 0 then some (s_h, s_t) else (some (sH s_h 0 ((s_h.1 0) - 1))).bind fun s2 =>
  (ckO 40 (s2.1 0)).bind fun q3 =>
  (bdO 40 (s2.2.1 q3)).bind fun q4 =>
  (f9_copyFrom s_t (s2.2.2 q4)).bind fun q5 =>
  some (s2, q5) : Option (HSt × St))).bind fun q1 =>
  some (q1.1, q1.2)
set_option maxHeartbeats 4000000 in
set_option maxRecDepth 100000 in
theorem c3_takeBack (l : Launch) (D : va_G) (cs : xE) (o_h : Nat) (a_h : Nat → Nat) (o_t : Nat) (a_t : Nat → Nat) (s_h : HSt) (s_t : St) (sz : Nat) (res : HSt × St) (hf : f3_takeBack s_h s_t = some res) : Met l yX3_takeBack (Cond.code yX3_takeBack cX3_takeBack 2 none :: WG) { frames := 2, cells := 0, slots := 0, locals := 47 } (va_Pc [.ref o_h, .ref o_t] (mP D cs (List.flatten [w3 cs o_h a_h s_h, w9 cs o_t a_t s_t]) sz)) (qV D cs (List.flatten [w3 cs o_h a_h res.1, w9 cs o_t a_t res.2]) (va_A (List.flatten [w3 cs o_h a_h s_h, w9 cs o_t a_t s_t]) sz)) 0 0 (va_A (List.flatten [w3 cs o_h a_h s_h, w9 cs o_t a_t s_t]) sz) := by
  refine mgo (Qc := qV D cs (List.flatten [w3 cs o_h a_h res.1, w9 cs o_t a_t res.2])) (cc := cX3_takeBack) (maxL := 2) (ret := none) (by decide) rfl (Nat.le_of_ble_eq_true rfl) ?_
  intro p e s m below meth c ls A R Q args H hR hQ hx hb hml hr hlocks hown hts hP hK hD hA hS hG hl
  have hown : s.vm.findClass RX3 = some m.cls := hown
  have hl : lv_has ls 2 [(0, .ref o_h), (1, .ref o_t)] := hl
  have hW : ∀ w ∈ WG, w.before args s = true := fun w h => hts w (List.mem_cons_of_mem _ h)
  have htX3 : ∀ w ∈ u_ws RX3 TX3 2, w.before args s = true := fun w h => hW w (inW_X3 w h)
  unfold f3_takeBack at hf
  refine lv_aload_n hx hb dX3_takeBack_0 rfl (lv_at hl 0 rfl) ?_
  refine gfB (i0 := 0) (own := RX3) (T := TX3) (k := 0) (v := .int (s_h.1 0)) hx hb htX3 hown hK hP rfl e3 rfl (by decide) (hW _ wd281) rfl dX3_takeBack_1 ?_
  obtain ⟨q1, hq1, hf⟩ := bnd hf
  have Jq1 : ∀ r1 : HSt × St, q1 = r1 → ∀ (H : Heap) (locs : List Loc) (ls : Array Slot), va_P D vwCl (List.flatten [w3 cs o_h a_h r1.1, w9 cs o_t a_t r1.2]) H → va_D A (List.flatten [w3 cs o_h a_h r1.1, w9 cs o_t a_t r1.2]) → va_S A s.heap H locs → lv_has ls 2 [] → W p l e R s m args below meth c H locs 0 0 Q (F0 m 30 ls []) := by
    intro r1 eq1 H locs ls hP hD hS hl
    subst eq1
    obtain rfl := Option.some.inj hf
    exact mretV hx hb hr hlocks hK hP hD hS hQ dX3_takeBack_30
  clear hf
  have hf := hq1
  refine lv_if_le (tgt := 30) hx hb dX3_takeBack_4 (by decide) (fun hc => ?_) (fun hc => ?_)
  · have hf := ifp hc hf
    exact Jq1 _ (Option.some.inj hf).symm _ _ _ hP hD hS (lv_sub hl [] rfl)
  · have hf := ifn hc hf
    refine lv_aload_n hx hb dX3_takeBack_7 rfl (lv_at hl 0 rfl) ?_
    refine lv_dup hx hb dX3_takeBack_8 rfl ?_
    refine gfB (i0 := 0) (own := RX3) (T := TX3) (k := 0) (v := .int (s_h.1 0)) hx hb htX3 hown hK hP rfl e3 rfl (by decide) (hW _ wd281) rfl dX3_takeBack_9 ?_
    refine lv_iconst (v := 1) hx hb dX3_takeBack_12 (by decide) ?_
    refine lv_isub hx hb dX3_takeBack_13 ?_
    obtain ⟨s2, es2, hf⟩ := bnd hf
    replace es2 := Option.some.inj es2
    refine pfB (i0 := 0) (own := RX3) (T := TX3) (k := 0) (Bn := [w3 cs o_h a_h s2, w9 cs o_t a_t s_t]) tyX3 tyX3_ok nmX3 hx hb htX3 hown hK hP hD hS rfl e3 rfl (by decide) (hW _ wd281) rfl rfl rfl (Nat.le_of_ble_eq_true rfl) dX3_takeBack_14 (by rw [← es2]; exact u3_0) rfl (fun H locs hP hD hS => ?_)
    refine lv_aload_n hx hb dX3_takeBack_17 rfl (lv_at hl 1 rfl) ?_
    refine lv_aload_n hx hb dX3_takeBack_18 rfl (lv_at hl 0 rfl) ?_
    refine gfB (i0 := 0) (own := RX3) (T := TX3) (k := 1) (v := .ref (a_h 1)) hx hb htX3 hown hK hP rfl e3 rfl (by decide) (hW _ wd283) rfl dX3_takeBack_19 ?_
    refine lv_aload_n hx hb dX3_takeBack_22 rfl (lv_at hl 0 rfl) ?_
    refine gfB (i0 := 0) (own := RX3) (T := TX3) (k := 0) (v := .int (s2.1 0)) hx hb htX3 hown hK hP rfl e3 rfl (by decide) (hW _ wd281) rfl dX3_takeBack_23 ?_
    obtain ⟨q3, eq3, hf⟩ := bnd hf
    obtain ⟨gq3, eq3, bq3⟩ := ckO_e eq3
    obtain ⟨q4, eq4, hf⟩ := bnd hf
    obtain ⟨bq4, eq4⟩ := bdO_e eq4
    rw [eq4] at bq4
    refine qldB (i0 := 0) 2 rfl hx hb hK hP rfl a3_1 gq3 dX3_takeBack_26 ?_
    refine lv_nmr (a := a_h (1000 + q4)) (by rw [eq3, eq4]; rfl) ?_
    obtain ⟨q5, eq5, hf⟩ := bnd hf
    have hp : (List.flatten [w3 cs o_h a_h s2, w9 cs o_t a_t s_t]).Perm (List.flatten [w3r cs o_h a_h s2 q4, w9 cs o_t a_t s_t, w9 cs (a_h (1000 + q4)) (tA a_h q4) (s2.2.2 q4)]) := bOpen (i := 0) rfl (w3_open bq4)
    have hP := vaP_perm hp hP
    have hD := vaD_perm hp hD
    clear hp
    refine mcVv (rest := []) (Bs := [w3r cs o_h a_h s2 q4, w9 cs o_t a_t s_t, w9 cs (a_h (1000 + q4)) (tA a_h q4) (s2.2.2 q4)]) (Bn := [w3r cs o_h a_h s2 q4, w9 cs o_t a_t q5, w9 cs (a_h (1000 + q4)) (tA a_h q4) (s2.2.2 q4)]) (isR := [0]) (isC := [1, 2]) (i0 := 1) ⟨hx, hb, hml, hown, hts⟩ hK hP hD hS hA hG (c9_copyFrom l D cs o_t a_t (a_h (1000 + q4)) (tA a_h q4) s_t (s2.2.2 q4) H.size _ eq5) (cwV 1 hts (gV wd499 wd500 wd501 wd107 wd502) rfl rfl rfl (by decide +kernel) ⟨by rw [hR]; exact Nat.le_of_ble_eq_true rfl, by rw [hR]; exact Nat.le_of_ble_eq_true rfl⟩) 3 (by decide) rfl rfl rfl rfl rfl rfl rfl e9 rfl rfl rfl hl.1 rfl (Nat.le_of_ble_eq_true rfl) ⟨Nat.zero_le _, Nat.zero_le _⟩ dX3_takeBack_27 (fun H locs hP hD hS => ?_)
    have hp : (List.flatten [w3r cs o_h a_h s2 q4, w9 cs o_t a_t q5, w9 cs (a_h (1000 + q4)) (tA a_h q4) (s2.2.2 q4)]).Perm (List.flatten [w3 cs o_h a_h s2, w9 cs o_t a_t q5]) := (bOpen (Bs := [w3 cs o_h a_h s2, w9 cs o_t a_t q5]) (i := 0) rfl (w3_open bq4)).symm
    have hP := vaP_perm hp hP
    have hD := vaD_perm hp hD
    clear hp
    exact Jq1 _ (Option.some.inj hf).symm _ _ _ hP hD hS (lv_sub hl [] rfl)
/-! TwinLamps$History.copyFrom -/
noncomputable def f3_copyFrom_L2 (s_h2 : HSt) (v3 : Int32 × HSt) : Option ((Int32 × HSt) ⊕ (HSt)) :=
  if (v3.2.1 0) ≤ v3.1 then some (.inr v3.2) else (ckO 40 v3.1).bind fun q4 =>
  (bdO 40 (v3.2.2.1 q4)).bind fun q5 =>
  (ckO 40 v3.1).bind fun q6 =>
  (bdO 40 (s_h2.2.1 q6)).bind fun q7 =>
  (f9_copyFrom (v3.2.2.2 q5) (s_h2.2.2 q7)).bind fun q8 =>
  (some (sT v3.2 q5 q8)).bind fun s9 =>
  some (.inl ((v3.1 + 1), s9))
noncomputable def f3_copyFrom (s_h : HSt) (s_h2 : HSt) : Option (HSt) :=
  (some (sH s_h 0 (s_h2.1 0))).bind fun s1 =>
  (lpw (f3_copyFrom_L2 s_h2) (0, s1)).bind fun q2 =>
  some q2
set_option maxHeartbeats 4000000 in
set_option maxRecDepth 100000 in
theorem c3_copyFrom (l : Launch) (D : va_G) (cs : xE) (o_h : Nat) (a_h : Nat → Nat) (o_h2 : Nat) (a_h2 : Nat → Nat) (s_h : HSt) (s_h2 : HSt) (sz : Nat) (res : HSt) (hf : f3_copyFrom s_h s_h2 = some res) : Met l yX3_copyFrom (Cond.code yX3_copyFrom cX3_copyFrom 3 none :: WG) { frames := 2, cells := 0, slots := 0, locals := 47 } (va_Pc [.ref o_h, .ref o_h2] (mP D cs (List.flatten [w3 cs o_h a_h s_h, w3 cs o_h2 a_h2 s_h2]) sz)) (qV D cs (List.flatten [w3 cs o_h a_h res, w3 cs o_h2 a_h2 s_h2]) (va_A (List.flatten [w3 cs o_h a_h s_h, w3 cs o_h2 a_h2 s_h2]) sz)) 0 0 (va_A (List.flatten [w3 cs o_h a_h s_h, w3 cs o_h2 a_h2 s_h2]) sz) := by
  refine mgo (Qc := qV D cs (List.flatten [w3 cs o_h a_h res, w3 cs o_h2 a_h2 s_h2])) (cc := cX3_copyFrom) (maxL := 3) (ret := none) (by decide) rfl (Nat.le_of_ble_eq_true rfl) ?_
  intro p e s m below meth c ls A R Q args H hR hQ hx hb hml hr hlocks hown hts hP hK hD hA hS hG hl
  have hown : s.vm.findClass RX3 = some m.cls := hown
  have hl : lv_has ls 3 [(0, .ref o_h), (1, .ref o_h2)] := hl
  have hW : ∀ w ∈ WG, w.before args s = true := fun w h => hts w (List.mem_cons_of_mem _ h)
  have htX3 : ∀ w ∈ u_ws RX3 TX3 2, w.before args s = true := fun w h => hW w (inW_X3 w h)
  unfold f3_copyFrom at hf
  refine lv_aload_n hx hb dX3_copyFrom_0 rfl (lv_at hl 0 rfl) ?_
  refine lv_aload_n hx hb dX3_copyFrom_1 rfl (lv_at hl 1 rfl) ?_
  refine gfB (i0 := 1) (own := RX3) (T := TX3) (k := 0) (v := .int (s_h2.1 0)) hx hb htX3 hown hK hP rfl e3 rfl (by decide) (hW _ wd281) rfl dX3_copyFrom_2 ?_
  obtain ⟨s1, es1, hf⟩ := bnd hf
  replace es1 := Option.some.inj es1
  refine pfB (i0 := 0) (own := RX3) (T := TX3) (k := 0) (Bn := [w3 cs o_h a_h s1, w3 cs o_h2 a_h2 s_h2]) tyX3 tyX3_ok nmX3 hx hb htX3 hown hK hP hD hS rfl e3 rfl (by decide) (hW _ wd281) rfl rfl rfl (Nat.le_of_ble_eq_true rfl) dX3_copyFrom_5 (by rw [← es1]; exact u3_0) rfl (fun H locs hP hD hS => ?_)
  refine lv_iconst (v := 0) hx hb dX3_copyFrom_8 (by decide) ?_
  refine lv_istore_n (lv' := [(2, .int 0), (0, .ref o_h), (1, .ref o_h2)]) hx hb dX3_copyFrom_9 rfl hl (by decide) rfl (fun ls hl => ?_)
  obtain ⟨q2, hq2, hf⟩ := bnd hf
  obtain ⟨n2, hq2⟩ := lpw_ex hq2
  have Jq2_0 : ∀ rr2_0 : HSt, q2 = rr2_0 → ∀ (H : Heap) (locs : List Loc) (ls : Array Slot), va_P D vwCl (List.flatten [w3 cs o_h a_h rr2_0, w3 cs o_h2 a_h2 s_h2]) H → va_D A (List.flatten [w3 cs o_h a_h rr2_0, w3 cs o_h2 a_h2 s_h2]) → va_S A s.heap H locs → lv_has ls 3 [] → W p l e R s m args below meth c H locs 0 0 Q (F0 m 39 ls []) := by
    intro rr2_0 eq2 H locs ls hP hD hS hl
    subst eq2
    obtain rfl := Option.some.inj hf
    exact mretV hx hb hr hlocks hK hP hD hS hQ dX3_copyFrom_39
  clear hf
  have L2 : ∀ n2, ∀ v3 : Int32 × HSt, lp n2 (f3_copyFrom_L2 s_h2) v3 = some q2 → ∀ (H : Heap) (locs : List Loc) (ls : Array Slot), va_P D vwCl (List.flatten [w3 cs o_h a_h v3.2, w3 cs o_h2 a_h2 s_h2]) H → va_D A (List.flatten [w3 cs o_h a_h v3.2, w3 cs o_h2 a_h2 s_h2]) → va_S A s.heap H locs → lv_has ls 3 [(0, .ref o_h), (1, .ref o_h2), (2, .int v3.1)] → W p l e R s m args below meth c H locs 0 0 Q (F0 m 10 ls []) := by
    intro n2
    induction n2 with
    | zero => intro v3 hn; cases hn
    | succ n2 ih2 =>
      intro v3 hn2 H locs ls hP hD hS hl
      obtain ⟨y2, hf, hn2⟩ := lp_succ hn2
      unfold f3_copyFrom_L2 at hf
      refine lv_iload_n hx hb dX3_copyFrom_10 rfl (lv_at hl 2 rfl) ?_
      refine lv_aload_n hx hb dX3_copyFrom_11 rfl (lv_at hl 0 rfl) ?_
      refine gfB (i0 := 0) (own := RX3) (T := TX3) (k := 0) (v := .int (v3.2.1 0)) hx hb htX3 hown hK hP rfl e3 rfl (by decide) (hW _ wd281) rfl dX3_copyFrom_12 ?_
      refine lv_icmp_ge (tgt := 39) hx hb dX3_copyFrom_15 (by decide) (fun hc => ?_) (fun hc => ?_)
      · have hf := ifp hc hf
        cases hf
        exact Jq2_0 _ (Option.some.inj hn2).symm _ _ _ hP hD hS (lv_sub hl [] rfl)
      · have hf := ifn hc hf
        refine lv_aload_n hx hb dX3_copyFrom_18 rfl (lv_at hl 0 rfl) ?_
        refine gfB (i0 := 0) (own := RX3) (T := TX3) (k := 1) (v := .ref (a_h 1)) hx hb htX3 hown hK hP rfl e3 rfl (by decide) (hW _ wd283) rfl dX3_copyFrom_19 ?_
        refine lv_iload_n hx hb dX3_copyFrom_22 rfl (lv_at hl 2 rfl) ?_
        obtain ⟨q4, eq4, hf⟩ := bnd hf
        obtain ⟨gq4, eq4, bq4⟩ := ckO_e eq4
        obtain ⟨q5, eq5, hf⟩ := bnd hf
        obtain ⟨bq5, eq5⟩ := bdO_e eq5
        rw [eq5] at bq5
        refine qldB (i0 := 0) 2 rfl hx hb hK hP rfl a3_1 gq4 dX3_copyFrom_23 ?_
        refine lv_nmr (a := a_h (1000 + q5)) (by rw [eq4, eq5]; rfl) ?_
        refine lv_aload_n hx hb dX3_copyFrom_24 rfl (lv_at hl 1 rfl) ?_
        refine gfB (i0 := 1) (own := RX3) (T := TX3) (k := 1) (v := .ref (a_h2 1)) hx hb htX3 hown hK hP rfl e3 rfl (by decide) (hW _ wd283) rfl dX3_copyFrom_25 ?_
        refine lv_iload_n hx hb dX3_copyFrom_28 rfl (lv_at hl 2 rfl) ?_
        obtain ⟨q6, eq6, hf⟩ := bnd hf
        obtain ⟨gq6, eq6, bq6⟩ := ckO_e eq6
        obtain ⟨q7, eq7, hf⟩ := bnd hf
        obtain ⟨bq7, eq7⟩ := bdO_e eq7
        rw [eq7] at bq7
        refine qldB (i0 := 1) 2 rfl hx hb hK hP rfl a3_1 gq6 dX3_copyFrom_29 ?_
        refine lv_nmr (a := a_h2 (1000 + q7)) (by rw [eq6, eq7]; rfl) ?_
        obtain ⟨q8, eq8, hf⟩ := bnd hf
        have hp : (List.flatten [w3 cs o_h a_h v3.2, w3 cs o_h2 a_h2 s_h2]).Perm (List.flatten [w3r cs o_h a_h v3.2 q5, w3 cs o_h2 a_h2 s_h2, w9 cs (a_h (1000 + q5)) (tA a_h q5) (v3.2.2.2 q5)]) := bOpen (i := 0) rfl (w3_open bq5)
        have hP := vaP_perm hp hP
        have hD := vaD_perm hp hD
        clear hp
        have hp : (List.flatten [w3r cs o_h a_h v3.2 q5, w3 cs o_h2 a_h2 s_h2, w9 cs (a_h (1000 + q5)) (tA a_h q5) (v3.2.2.2 q5)]).Perm (List.flatten [w3r cs o_h a_h v3.2 q5, w3r cs o_h2 a_h2 s_h2 q7, w9 cs (a_h (1000 + q5)) (tA a_h q5) (v3.2.2.2 q5), w9 cs (a_h2 (1000 + q7)) (tA a_h2 q7) (s_h2.2.2 q7)]) := bOpen (i := 1) rfl (w3_open bq7)
        have hP := vaP_perm hp hP
        have hD := vaD_perm hp hD
        clear hp
        refine mcVv (rest := []) (Bs := [w3r cs o_h a_h v3.2 q5, w3r cs o_h2 a_h2 s_h2 q7, w9 cs (a_h (1000 + q5)) (tA a_h q5) (v3.2.2.2 q5), w9 cs (a_h2 (1000 + q7)) (tA a_h2 q7) (s_h2.2.2 q7)]) (Bn := [w3r cs o_h a_h v3.2 q5, w3r cs o_h2 a_h2 s_h2 q7, w9 cs (a_h (1000 + q5)) (tA a_h q5) q8, w9 cs (a_h2 (1000 + q7)) (tA a_h2 q7) (s_h2.2.2 q7)]) (isR := [0, 1]) (isC := [2, 3]) (i0 := 2) ⟨hx, hb, hml, hown, hts⟩ hK hP hD hS hA hG (c9_copyFrom l D cs (a_h (1000 + q5)) (tA a_h q5) (a_h2 (1000 + q7)) (tA a_h2 q7) (v3.2.2.2 q5) (s_h2.2.2 q7) H.size _ eq8) (cwV 1 hts (gV wd499 wd500 wd501 wd107 wd502) rfl rfl rfl (by decide +kernel) ⟨by rw [hR]; exact Nat.le_of_ble_eq_true rfl, by rw [hR]; exact Nat.le_of_ble_eq_true rfl⟩) 4 (by decide) rfl rfl rfl rfl rfl rfl rfl e9 rfl rfl rfl hl.1 rfl (Nat.le_of_ble_eq_true rfl) ⟨Nat.zero_le _, Nat.zero_le _⟩ dX3_copyFrom_30 (fun H locs hP hD hS => ?_)
        have hp : (List.flatten [w3r cs o_h a_h v3.2 q5, w3r cs o_h2 a_h2 s_h2 q7, w9 cs (a_h (1000 + q5)) (tA a_h q5) q8, w9 cs (a_h2 (1000 + q7)) (tA a_h2 q7) (s_h2.2.2 q7)]).Perm (List.flatten [w3r cs o_h a_h v3.2 q5, w3 cs o_h2 a_h2 s_h2, w9 cs (a_h (1000 + q5)) (tA a_h q5) q8]) := (bOpen (Bs := [w3r cs o_h a_h v3.2 q5, w3 cs o_h2 a_h2 s_h2, w9 cs (a_h (1000 + q5)) (tA a_h q5) q8]) (i := 1) rfl (w3_open bq7)).symm
        have hP := vaP_perm hp hP
        have hD := vaD_perm hp hD
        clear hp
        obtain ⟨s9, es9, hf⟩ := bnd hf
        replace es9 := Option.some.inj es9
        have hp : (List.flatten [w3r cs o_h a_h v3.2 q5, w3 cs o_h2 a_h2 s_h2, w9 cs (a_h (1000 + q5)) (tA a_h q5) q8]).Perm (List.flatten [w3 cs o_h a_h s9, w3 cs o_h2 a_h2 s_h2]) := (bOpen (Bs := [w3 cs o_h a_h s9, w3 cs o_h2 a_h2 s_h2]) (i := 0) rfl (w3_close bq5 es9)).symm
        have hP := vaP_perm hp hP
        have hD := vaD_perm hp hD
        clear hp
        refine lv_iinc (v := (v3.1 + 1)) (lv' := [(2, .int (v3.1 + 1)), (0, .ref o_h), (1, .ref o_h2)]) hx hb dX3_copyFrom_33 hl (k := 2) rfl rfl (by decide) rfl (fun ls hl => ?_)
        refine lv_goto (tgt := 10) hx hb dX3_copyFrom_36 (by decide) ?_
        cases hf
        exact ih2 _ hn2 _ _ _ hP hD hS (lv_sub hl [1, 2, 0] rfl)
  exact L2 _ _ hq2 _ _ _ hP hD hS (lv_sub hl [1, 2, 0] rfl)
