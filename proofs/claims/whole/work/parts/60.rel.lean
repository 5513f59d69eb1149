/-! what ties the class's object to the reference's -/
abbrev SV : Type := Nat × (Nat → Nat) × (Nat → Nat) × (Nat → Bool)
def RcV (V : SV) (L : Nat) (sv : St) : Prop := V.1 ≤ 8 ∧ sv.1 0 = nI V.1 ∧ Bm V.1 V.2.2.2 (sv.1 1) ∧ ∀ k, k < V.1 → V.2.1 k < L ∧ 1 ≤ V.2.2.1 k ∧ V.2.2.1 k ≤ 48 ∧ sv.2 2 k = nI (V.2.1 k) ∧ sv.2 3 k = nI (V.2.2.1 k)
def RmV (V : SV) (n : Int32) (a b c : Nat → Int32) : Prop := n = nI V.1 ∧ ∀ k, k < V.1 → a k = nI (V.2.1 k) ∧ b k = nI (V.2.2.1 k) ∧ c k = zB (V.2.2.2 k)
def OkT (T U : TW) : Prop := WfT U ∧ LiO U ∧ LiT U ∧ U.o ≤ 9999 ∧ Same U T
def RTape (sr m : St) : Prop := ∃ n, n ≤ 600 ∧ sr.1 2 = nI n ∧ m.1 13 = nI n ∧ ∀ k, k < n → ∃ b, b < 256 ∧ m.2 12 k = nI b ∧ sr.2 4 k = (nI b).toInt8.toInt32
def RSta (f g : Nat → Int32) : Prop := ∀ i, i < 3 → f i = g i
def aloneN (T : TW) : Nat := fb_ct (fun l => decide (T.tw l = none)) T.L
def Rel (r : RU) (T : TW) (k : Nat) (hs : Nat → TW) (V : SV) (sx sr st sg : St) (sh : HSt) (sv m : St) : Prop :=
  RTape sr m ∧ sx.1 7 = m.1 22 ∧ RSta (sx.2 5) (m.2 11) ∧ okR r.1 r.2 ∧ RcR r.1 r.2 sg ∧ RmR r.1 r.2 m ∧ RcT T st ∧ RmT T m ∧ OkT T T ∧ RcH k hs sh ∧ RmH k hs m ∧ (∀ i, i < k → OkT T (hs i)) ∧ RcV V T.L sv ∧ RmV V (m.1 32) (m.2 43) (m.2 44) (m.2 45) ∧ m.2 3 2 = nI ((T.L - aloneN T) / 2)
def ImR (T : TW) (sp spt : St) (sph : HSt) (spv m : St) : Prop := RcP sph ∧ ∃ b : Bool, sp.1 0 = zB b ∧ m.1 49 = zB b ∧ (b = true → ∃ U k hs V, OkT T U ∧ RcT U spt ∧ PK U (m.2 52) 0 ∧ RcH k hs sph ∧ m.1 50 = nI k ∧ (∀ i, i < k → PK (hs i) (m.2 53) (43 * i) ∧ OkT T (hs i)) ∧ RcV V T.L spv ∧ RmV V (m.1 51) (m.2 54) (m.2 55) (m.2 56) ∧ RSta (sp.2 4) (m.2 57))
section
variable {r : RU} {T U : TW} {k : Nat} {hs : Nat → TW} {V : SV} {sx sr st sg sv m sp spt spv : St} {sh sph : HSt}
theorem Rel.tape (h : Rel r T k hs V sx sr st sg sh sv m) : RTape sr m := h.1
theorem Rel.fp (h : Rel r T k hs V sx sr st sg sh sv m) : sx.1 7 = m.1 22 := h.2.1
theorem Rel.sta (h : Rel r T k hs V sx sr st sg sh sv m) : RSta (sx.2 5) (m.2 11) := h.2.2.1
theorem Rel.ok (h : Rel r T k hs V sx sr st sg sh sv m) : okR r.1 r.2 := h.2.2.2.1
theorem Rel.cr (h : Rel r T k hs V sx sr st sg sh sv m) : RcR r.1 r.2 sg := h.2.2.2.2.1
theorem Rel.mr (h : Rel r T k hs V sx sr st sg sh sv m) : RmR r.1 r.2 m := h.2.2.2.2.2.1
theorem Rel.ct (h : Rel r T k hs V sx sr st sg sh sv m) : RcT T st := h.2.2.2.2.2.2.1
theorem Rel.mt (h : Rel r T k hs V sx sr st sg sh sv m) : RmT T m := h.2.2.2.2.2.2.2.1
theorem Rel.okT (h : Rel r T k hs V sx sr st sg sh sv m) : OkT T T := h.2.2.2.2.2.2.2.2.1
theorem Rel.ch (h : Rel r T k hs V sx sr st sg sh sv m) : RcH k hs sh := h.2.2.2.2.2.2.2.2.2.1
theorem Rel.mh (h : Rel r T k hs V sx sr st sg sh sv m) : RmH k hs m := h.2.2.2.2.2.2.2.2.2.2.1
theorem Rel.okH (h : Rel r T k hs V sx sr st sg sh sv m) : ∀ i, i < k → OkT T (hs i) := h.2.2.2.2.2.2.2.2.2.2.2.1
theorem Rel.cv (h : Rel r T k hs V sx sr st sg sh sv m) : RcV V T.L sv := h.2.2.2.2.2.2.2.2.2.2.2.2.1
theorem Rel.mv (h : Rel r T k hs V sx sr st sg sh sv m) : RmV V (m.1 32) (m.2 43) (m.2 44) (m.2 45) := h.2.2.2.2.2.2.2.2.2.2.2.2.2.1
theorem Rel.tws (h : Rel r T k hs V sx sr st sg sh sv m) : m.2 3 2 = nI ((T.L - aloneN T) / 2) := h.2.2.2.2.2.2.2.2.2.2.2.2.2.2
theorem Rel.W (h : Rel r T k hs V sx sr st sg sh sv m) : WfT T := h.okT.1
theorem Rel.liO (h : Rel r T k hs V sx sr st sg sh sv m) : LiO T := h.okT.2.1
theorem Rel.liT (h : Rel r T k hs V sx sr st sg sh sv m) : LiT T := h.okT.2.2.1
theorem Rel.o9 (h : Rel r T k hs V sx sr st sg sh sv m) : T.o ≤ 9999 := h.okT.2.2.2.1
theorem Rel.k40 (h : Rel r T k hs V sx sr st sg sh sv m) : k ≤ 40 := h.ch.1
/-- a question leaves all as it is -/
theorem Rel.q {sg' m' : St} (h : Rel r T k hs V sx sr st sg sh sv m) (hq : QP r T m sg' m') : Rel r T k hs V sx sr st sg' sh sv m' := by
  obtain ⟨h1, h2, h3⟩ := hq
  refine ⟨?_, ?_, ?_, h.ok, h1, h.mr.fr h3, h.ct, h2, h.okT, h.ch, ?_, h.okH, h.cv, ?_, ?_⟩
  · obtain ⟨n, a1, a2, a3, a4⟩ := h.tape
    exact ⟨n, a1, a2, (h3.1 13 (by decide)).trans a3, by rw [h3.2 12 (by decide)]; exact a4⟩
  · rw [h3.1 22 (by decide)]; exact h.fp
  · rw [h3.2 11 (by decide)]; exact h.sta
  · unfold RmH
    rw [h3.1 31 (by decide), h3.2 27 (by decide)]; exact h.mh
  · rw [h3.1 32 (by decide), h3.2 43 (by decide), h3.2 44 (by decide), h3.2 45 (by decide)]; exact h.mv
  · rw [h3.2 3 (by decide)]; exact h.tws
theorem ImR.fr {S A : List Nat} {m' : St} (h : ImR T sp spt sph spv m) (f : Fr S A m m') (h1 : 49 ∉ S := by decide) (h2 : 50 ∉ S := by decide) (h3 : 51 ∉ S := by decide) (a1 : 52 ∉ A := by decide) (a2 : 53 ∉ A := by decide) (a3 : 54 ∉ A := by decide) (a4 : 55 ∉ A := by decide) (a5 : 56 ∉ A := by decide) (a6 : 57 ∉ A := by decide) : ImR T sp spt sph spv m' := by
  unfold ImR
  rw [f.1 49 h1, f.1 50 h2, f.1 51 h3, f.2 52 a1, f.2 53 a2, f.2 54 a3, f.2 55 a4, f.2 56 a5, f.2 57 a6]
  exact h
theorem Same.trans {S T U : TW} (h : Same S T) (g : Same T U) : Same S U := ⟨h.1.trans g.1, h.2.1.trans g.2.1, h.2.2.1.trans g.2.2.1, h.2.2.2.trans g.2.2.2⟩
theorem Same.symm {S T : TW} (h : Same S T) : Same T S := ⟨h.1.symm, h.2.1.symm, h.2.2.1.symm, h.2.2.2.symm⟩
theorem OkT.to {S T U : TW} (h : OkT T U) (g : Same T S) : OkT S U := ⟨h.1, h.2.1, h.2.2.1, h.2.2.2.1, h.2.2.2.2.trans g⟩
theorem ImR.to {S : TW} (h : ImR T sp spt sph spv m) (g : Same T S) : ImR S sp spt sph spv m := by
  obtain ⟨h0, b, h1, h2, h3⟩ := h
  refine ⟨h0, b, h1, h2, fun hb => ?_⟩
  obtain ⟨U, k, hs, V, a1, a2, a3, a4, a5, a6, a7, a8, a9⟩ := h3 hb
  exact ⟨U, k, hs, V, a1.to g, a2, a3, a4, a5, fun i hi => ⟨(a6 i hi).1, (a6 i hi).2.to g⟩, by rw [← g.2.1]; exact a7, a8, a9⟩
/-- the relation of all, whatever the values -/
def AllR (sx sr st sg : St) (sh : HSt) (sv sp spt : St) (sph : HSt) (spv m : St) : Prop := ∃ r T k hs V, Rel r T k hs V sx sr st sg sh sv m ∧ ImR T sp spt sph spv m
theorem AllR.q {sg' m' : St} (h : Rel r T k hs V sx sr st sg sh sv m) (hi : ImR T sp spt sph spv m) (hq : QP r T m sg' m') : AllR sx sr st sg' sh sv sp spt sph spv m' := ⟨r, T, k, hs, V, h.q hq, hi.fr hq.2.2⟩
theorem kp_i {T : TW} {k : Nat} {hs : Nat → TW} {P : TW → Prop} (hk : k ≤ 40) (h1 : P T) (h2 : ∀ i, i < k → P (hs i)) : ∀ i, i < kpN k → P (kpH k hs T i) := by
  intro i hi
  unfold kpN at hi
  unfold kpH
  by_cases h : k < 40
  · rw [if_pos h] at hi
    rw [if_pos h]
    by_cases e : i = k
    · rw [if_pos e]; exact h1
    · rw [if_neg e]; exact h2 i (by omega)
  · rw [if_neg h] at hi
    rw [if_neg h]
    by_cases e : i = 39
    · rw [if_pos e]; exact h1
    · rw [if_neg e]; exact h2 (i + 1) (by omega)
theorem kpN_40 (k : Nat) : kpN k ≤ 40 := by
  unfold kpN
  split <;> omega
/-- refused -/
theorem refuse_eq (h : Rel r T k hs V sx sr st sg sh sv m) {j : Nat} (hj : j < 3) : ∃ f, f10_refuse sx (nI j) = some (-1, sA sx 5 f) ∧ ∃ g, f11_refuse (sS m 2 0) (nI j) = some (-1, sA (sS m 2 0) 11 g) ∧ RSta f g := by
  refine ⟨upd (sx.2 5) j (sx.2 5 j + 1), ?_, upd (m.2 11) j (m.2 11 j + 1), ?_, fun i hi => ?_⟩
  · unfold f10_refuse
    rw [ldO_n _ hj (by decide), Option.bind_some, stS_n _ _ _ hj (by decide), Option.bind_some]
  · unfold f11_refuse
    rw [ldO_n _ hj (by decide), Option.bind_some, stS_n _ _ _ hj (by decide), Option.bind_some]
    rfl
  · by_cases e : i = j
    · rw [e, upd_e, upd_e, h.sta j hj]
    · rw [upd_n _ _ e, upd_n _ _ e, h.sta i hi]
theorem Rel.refused (h : Rel r T k hs V sx sr st sg sh sv m) (hi : ImR T sp spt sph spv m) {f g : Nat → Int32} (hf : RSta f g) : AllR (sA sx 5 f) sr st sg sh sv sp spt sph spv (sA (sS m 2 0) 11 g) := by
  have fr : Fr [2] [11] m (sA (sS m 2 0) 11 g) := (Fr.sS m 2 0 (by decide)).trans (Fr.sA _ 11 g (by decide))
  refine ⟨r, T, k, hs, V, ⟨?_, h.fp, hf, h.ok, h.cr, h.mr.fr fr, h.ct, h.mt.fr fr, h.okT, h.ch, h.mh, h.okH, h.cv, h.mv, h.tws⟩, hi.fr fr⟩
  obtain ⟨n, a1, a2, a3, a4⟩ := h.tape
  exact ⟨n, a1, a2, a3, a4⟩
/-- an act that changes the town -/
theorem Rel.act {U : TW} {st' m1 m2 : St} {sh' : HSt} {sg' : St} (h : Rel r T k hs V sx sr st sg sh sv m) (hi : ImR T sp spt sph spv m) (hch : RcH (kpN k) (kpH k hs T) sh') (hmh : RmH (kpN k) (kpH k hs T) m1) (hf1 : Fr [31] [27] (sS m 2 0) m1) (hf2 : Fr sS1 sA1 m1 m2) (hc : RcT U st') (hm : RmT U m2) (hO : LiO U) (hT : LiT U) (h9 : U.o ≤ 9999) (hS : Same U T) (hg : RcR r.1 r.2 sg') : AllR sx sr st' sg' sh' sv sp spt sph spv m2 := by
  have f : Fr [2, 31, 14, 15, 16, 17, 18, 19, 20, 21, 28, 29, 30, 35, 36, 48] [27, 5, 6, 7, 8, 9, 23, 24, 25, 26, 33, 34, 37, 38, 39, 40, 41, 42, 46, 47] m m2 := (((fr2 m).mono (by decide) (by decide)).trans (hf1.mono (by decide) (by decide))).trans (hf2.mono (by decide) (by decide))
  refine ⟨r, U, kpN k, kpH k hs T, V, ⟨?_, ?_, ?_, h.ok, hg, h.mr.fr f, hc, hm, ⟨hc.W, hO, hT, h9, ⟨rfl, rfl, rfl, rfl⟩⟩, hch, ?_, ?_, ?_, ?_, ?_⟩, (hi.fr f).to hS.symm⟩
  · obtain ⟨n, a1, a2, a3, a4⟩ := h.tape
    exact ⟨n, a1, a2, (f.1 13 (by decide)).trans a3, by rw [f.2 12 (by decide)]; exact a4⟩
  · rw [f.1 22 (by decide)]; exact h.fp
  · rw [f.2 11 (by decide)]; exact h.sta
  · unfold RmH
    rw [hf2.1 31 (by decide), hf2.2 27 (by decide)]; exact hmh
  · exact kp_i h.k40 (h.okT.to hS.symm) (fun i hi => (h.okH i hi).to hS.symm)
  · rw [hS.2.1]; exact h.cv
  · rw [f.1 32 (by decide), f.2 43 (by decide), f.2 44 (by decide), f.2 45 (by decide)]; exact h.mv
  · rw [f.2 3 (by decide), h.tws]
    unfold aloneN
    rw [hS.2.1, hS.2.2.2]
theorem Rel.keep (h : Rel r T k hs V sx sr st sg sh sv m) : (∃ sh', f3_keep sh st = some sh' ∧ RcH (kpN k) (kpH k hs T) sh') ∧ ∃ m1, f11_keep (sS m 2 0) = some m1 ∧ RmH (kpN k) (kpH k hs T) m1 ∧ Fr [31] [27] (sS m 2 0) m1 ∧ RmT T m1 := by
  refine ⟨C_keep h.ch h.ct, ?_⟩
  obtain ⟨m1, h1, h2, h3⟩ := M_keep h.mt.s2 h.k40 (hs := hs) (k := k) h.mh (fun i hi => ⟨(h.okH i hi).1.L12, (h.okH i hi).1.H8⟩)
  exact ⟨m1, h1, h2, h3, h.mt.s2.fr h3⟩
end
