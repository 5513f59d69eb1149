/-! what the Statement gives of the start -/
theorem mT1 {w : Cond} (i : Nat) (h0 : tables_1_1[i]? = some w) : w ∈ lw_tbl := by
  have h : w ∈ tables_1_1 := List.mem_of_getElem? h0
  exact List.mem_append_right (k2_sels lw_privs) (show w ∈ tables_1 from (List.mem_append_left _ h))
theorem mT2 {w : Cond} (i : Nat) (h0 : tables_1_2[i]? = some w) : w ∈ lw_tbl := by
  have h : w ∈ tables_1_2 := List.mem_of_getElem? h0
  exact List.mem_append_right (k2_sels lw_privs) (show w ∈ tables_1 from (List.mem_append_right _ (List.mem_append_left _ h)))
theorem mT3 {w : Cond} (i : Nat) (h0 : tables_1_3[i]? = some w) : w ∈ lw_tbl := by
  have h : w ∈ tables_1_3 := List.mem_of_getElem? h0
  exact List.mem_append_right (k2_sels lw_privs) (show w ∈ tables_1 from (List.mem_append_right _ (List.mem_append_right _ (List.mem_append_left _ h))))
theorem mT4 {w : Cond} (i : Nat) (h0 : tables_1_4[i]? = some w) : w ∈ lw_tbl := by
  have h : w ∈ tables_1_4 := List.mem_of_getElem? h0
  exact List.mem_append_right (k2_sels lw_privs) (show w ∈ tables_1 from (List.mem_append_right _ (List.mem_append_right _ (List.mem_append_right _ (List.mem_append_left _ h)))))
theorem mT5 {w : Cond} (i : Nat) (h0 : tables_1_5[i]? = some w) : w ∈ lw_tbl := by
  have h : w ∈ tables_1_5 := List.mem_of_getElem? h0
  exact List.mem_append_right (k2_sels lw_privs) (show w ∈ tables_1 from (List.mem_append_right _ (List.mem_append_right _ (List.mem_append_right _ (List.mem_append_right _ (List.mem_append_left _ h))))))
theorem mT6 {w : Cond} (i : Nat) (h0 : tables_1_6[i]? = some w) : w ∈ lw_tbl := by
  have h : w ∈ tables_1_6 := List.mem_of_getElem? h0
  exact List.mem_append_right (k2_sels lw_privs) (show w ∈ tables_1 from (List.mem_append_right _ (List.mem_append_right _ (List.mem_append_right _ (List.mem_append_right _ (List.mem_append_right _ (List.mem_append_left _ h)))))))
theorem mT7 {w : Cond} (i : Nat) (h0 : tables_1_7[i]? = some w) : w ∈ lw_tbl := by
  have h : w ∈ tables_1_7 := List.mem_of_getElem? h0
  exact List.mem_append_right (k2_sels lw_privs) (show w ∈ tables_1 from (List.mem_append_right _ (List.mem_append_right _ (List.mem_append_right _ (List.mem_append_right _ (List.mem_append_right _ (List.mem_append_right _ (List.mem_append_left _ h))))))))
theorem mT8 {w : Cond} (i : Nat) (h0 : tables_1_8[i]? = some w) : w ∈ lw_tbl := by
  have h : w ∈ tables_1_8 := List.mem_of_getElem? h0
  exact List.mem_append_right (k2_sels lw_privs) (show w ∈ tables_1 from (List.mem_append_right _ (List.mem_append_right _ (List.mem_append_right _ (List.mem_append_right _ (List.mem_append_right _ (List.mem_append_right _ (List.mem_append_right _ h))))))))
def NLc : List Cond := flatC (Cond.and given_1 narrow_1)
def rKs : List Nat := [170, 172, 174, 176, 178, 180, 182, 184, 186, 188, 190, 192, 194, 196, 198, 199]
def mKs : List Nat := [11, 13, 15, 17, 271, 276, 266, 257, 252, 244, 23, 25, 27, 29, 31, 33]
def xKs : List Nat := [104, 177, 198, 227, 257, 312, 331, 350, 374, 376, 378, 380]
def rPl : List Nat := [71, 79, 88, 97, 109, 117, 126, 135, 141, 148, 155, 163, 171, 178, 187, 196]
def mPl : List Nat := [494, 503, 513, 523, 625, 634, 592, 618, 610, 602, 536, 545, 554, 562, 572, 582]
def ePl : List Nat := [502, 512, 522, 535, 633, 643, 601, 624, 617, 609, 544, 553, 561, 571, 581, 591]
def xPl : List Nat := [37, 205, 257, 311, 339, 399, 426, 464, 231, 286, 381, 360]
def tmR (i : Nat) : Term := .string "TwinLamps$Reader" (rKs.getD i 0)
def tmM (i : Nat) : Term := .string "TwinLampsModel" (mKs.getD i 0)
def tmX (i : Nat) : Term := .string "TwinLamps" (xKs.getD i 0)
theorem nl_ex : ∀ i, i < 16 → NLc[rPl.getD i 0]? = some (Cond.exactly (tmR i) "java/lang/String") := by decide +kernel
theorem nl_co : ∀ i, i < 16 → NLc[rPl.getD i 0 + 1]? = some (Cond.eq (.field (tmR i) "java/lang/String" "coder" "B") (.int 0)) := by decide +kernel
theorem nl_ar : ∀ i, i < 16 → NLc[rPl.getD i 0 + 2]? = some (Cond.arrayOf (.field (tmR i) "java/lang/String" "value" "[B") .byte) := by decide +kernel
theorem nl_le : ∀ i, i < 16 → NLc[rPl.getD i 0 + 3]? = some (Cond.eq (.length (.field (tmR i) "java/lang/String" "value" "[B")) (.int (Int32.ofNat (xLen.getD i 0)))) := by decide +kernel
theorem nl_el : ∀ i, i < 16 → ∀ j, j < xLen.getD i 0 → NLc[rPl.getD i 0 + 4 + j]? = some (Cond.eq (.elem (.field (tmR i) "java/lang/String" "value" "[B") (.int (Int32.ofNat j))) (.int ((xByt.getD i []).getD j 0))) := by decide +kernel
theorem nl_mx : ∀ i, i < 16 → NLc[mPl.getD i 0]? = some (Cond.exactly (tmM i) "java/lang/String") := by decide +kernel
theorem nl_eq : ∀ i, i < 16 → NLc[ePl.getD i 0]? = some (Cond.eq (tmR i) (tmM i)) := by decide +kernel
theorem nl_xx : ∀ i, i < 12 → NLc[xPl.getD i 0]? = some (Cond.exactly (tmX i) "java/lang/String") := by decide +kernel
theorem rLen_lt9 : ∀ i, i < 16 → xLen.getD i 0 < 9 := by decide +kernel
theorem xByt_ne : ∀ i, i < 16 → ∀ j, j < 16 → xLen.getD i 0 = xLen.getD j 0 → (∀ k, k < xLen.getD i 0 → (xByt.getD i []).getD k 0 = (xByt.getD j []).getD k 0) → i = j := by decide +kernel
section NL
variable {args : Array Value} {s : State} {A : Nat → Prop}
theorem tx_S (hs : ∀ w ∈ NLc, w.before args s = true) (hA : ∀ a : Nat, a < s.heap.size → ¬ A a) : ∃ adK adV : Nat → Nat, vk_S 16 xLen xByt adK adV A s s.heap ∧ ∀ i : Nat, i < 16 → (tmR i).eval args s none [] s = some (.ref (adK i)) := by
  have hw : ∀ {i : Nat} {w : Cond}, NLc[i]? = some w → w.before args s = true := fun h => hs _ (List.mem_of_getElem? h)
  have h0 : ∀ i : Nat, ∃ q : Nat × Nat, i < 16 → (tmR i).eval args s none [] s = some (.ref q.1) ∧ va_O "java/lang/String" q.1 A s s.heap ∧ va_OF "java/lang/String" "coder" "B" (.int 0) q.1 A s s.heap ∧ va_OF "java/lang/String" "value" "[B" (.ref q.2) q.1 A s s.heap ∧ va_T .byte q.2 (xLen.getD i 0) (fun j => .int ((xByt.getD i []).getD j 0)) A s s.heap := by
    intro i
    by_cases hi : i < 16
    · obtain ⟨a, c, cA, kA, q1, q2, q3, q4, q5, q6, -⟩ := Cond.exactly_spec (args := args) (first := s) (o := none) (s := s) (idx := []) (t := tmR i) (cls := "java/lang/String") (hw (nl_ex i hi))
      obtain ⟨t, ht, hT⟩ := va_Tof (f := fun j => .int ((xByt.getD i []).getD j 0)) (A := A) (Nat.lt_trans (rLen_lt9 i hi) (by decide)) (hw (nl_ar i hi)) (va_eqt (hw (nl_le i hi))) (fun j hj => va_eqt (hw (nl_el i hi j hj))) hA
      exact ⟨(a, t), fun _ => ⟨q1, ⟨cA, q3, q5, by rw [q6]; exact q2, hA a (Array.getElem?_eq_some_iff.mp q3).1⟩, vk_OFof q1 (va_eqt (hw (nl_co i hi))) hA, vk_OFof q1 ht hA, hT⟩⟩
    · exact ⟨(0, 0), fun h => absurd h hi⟩
  obtain ⟨ad, had⟩ := Classical.axiomOfChoice h0
  refine ⟨fun i => (ad i).1, fun i => (ad i).2, ⟨fun i hi => (had i hi).2, fun i j hi hj e => ?_⟩, fun i hi => (had i hi).1⟩
  obtain ⟨-, -, -, ⟨cf, k, fi, f, cell, a1, a2, a3, a4, a5, a6⟩, ⟨c1, b1, b2, b3, b4, b5, b6, b7⟩⟩ := had i hi
  obtain ⟨-, -, -, ⟨cf', k', fi', f', cell', a1', a2', a3', a4', a5', a6'⟩, ⟨c1', b1', b2', b3', b4', b5', b6', b7'⟩⟩ := had j hj
  have e : (ad i).1 = (ad j).1 := e
  rw [e] at a3
  cases Option.some.inj (a3.symm.trans a3')
  cases Option.some.inj (a1.symm.trans a1')
  have e2 : Value.ref (ad i).2 = Value.ref (ad j).2 := Option.some.inj (a5.symm.trans a5')
  injection e2 with e2
  rw [e2] at b1
  cases Option.some.inj (b1.symm.trans b1')
  have e3 : xLen.getD i 0 = xLen.getD j 0 := by
    have h1 := congrArg Int32.toInt (b5.symm.trans b5')
    have l1 := rLen_lt9 i hi
    have l2 := rLen_lt9 j hj
    have h2 : (nI (xLen.getD i 0)).toInt = (nI (xLen.getD j 0)).toInt := h1
    rw [nI_toInt (by omega), nI_toInt (by omega)] at h2
    omega
  refine xByt_ne i hi j hj e3 (fun k hk => ?_)
  have h1 := b6 k hk
  have h2 := b6' k (by omega)
  have h3 := Option.some.inj (h1.symm.trans h2)
  injection h3
theorem tx_M (hs : ∀ w ∈ NLc, w.before args s = true) {i a : Nat} (hi : i < 16) (h : (tmR i).eval args s none [] s = some (.ref a)) : (tmM i).eval args s none [] s = some (.ref a) := by
  have hw : ∀ {i : Nat} {w : Cond}, NLc[i]? = some w → w.before args s = true := fun h => hs _ (List.mem_of_getElem? h)
  obtain ⟨a', c, cA, kA, q1, -⟩ := Cond.exactly_spec (args := args) (first := s) (o := none) (s := s) (idx := []) (t := tmM i) (cls := "java/lang/String") (hw (nl_mx i hi))
  have h2 := Cond.eq_refs (args := args) (first := s) (t := s) (out := none) (idx := []) (hw (nl_eq i hi)) q1 rfl
  rw [h] at h2
  rw [q1, h2]
theorem tx_X (hs : ∀ w ∈ NLc, w.before args s = true) : ∃ ad : Nat → Nat, ∀ i : Nat, i < 12 → (tmX i).eval args s none [] s = some (.ref (ad i)) := by
  have hw : ∀ {i : Nat} {w : Cond}, NLc[i]? = some w → w.before args s = true := fun h => hs _ (List.mem_of_getElem? h)
  have h0 : ∀ i : Nat, ∃ a : Nat, i < 12 → (tmX i).eval args s none [] s = some (.ref a) := by
    intro i
    by_cases hi : i < 12
    · obtain ⟨a, c, cA, kA, q1, -⟩ := Cond.exactly_spec (args := args) (first := s) (o := none) (s := s) (idx := []) (t := tmX i) (cls := "java/lang/String") (hw (nl_xx i hi))
      exact ⟨a, fun _ => q1⟩
    · exact ⟨0, fun h => absurd h hi⟩
  exact Classical.axiomOfChoice h0
/-- array classes -/
theorem ar_C {ty : FieldType} (h : (Cond.arrayClass ty).before args s = true) : ∃ c : ClassId, ArrOfT s c ty ∧ s.vm.findClass ("[" ++ ty.toString) = some c := by
  obtain ⟨c, k, comp, h1, h2, h3⟩ := Cond.arrayClass_spec h
  exact ⟨c, fun n z => ⟨(fun k h => by cases h), k, h2, comp, h3⟩, h1⟩
theorem ar_O {C : String} (h : (Cond.arrayOver (.object C)).before args s = true) : ∃ c : ClassId, ArrOfT s c (.object C) ∧ va_RA s c (.object C) := by
  obtain ⟨comp, c, k, h1, -, h3, h4, h5⟩ := Cond.arrayOver_spec h
  exact ⟨c, fun n z => ⟨(fun k h => by cases h), k, h3, comp, h4⟩, k, comp, h3, h4, h1, h5⟩
theorem ar_A {t : FieldType} (h : (Cond.arrayOver (.array t)).before args s = true) : ∃ c : ClassId, ArrOfT s c (.array t) ∧ s.vm.findClass ("[" ++ (FieldType.array t).toString) = some c := by
  simp only [Cond.before, Cond.holds, Cond.value] at h
  cases hc : s.vm.findClass (FieldType.array t).toString with
  | none => simp [hc] at h
  | some comp =>
    simp only [hc, Option.bind_some, beq_iff_eq, Option.bind_eq_some_iff, Option.map_eq_some_iff] at h
    obtain ⟨c, hi, k, hk, hb⟩ := h
    obtain ⟨hlt, hp, -⟩ := Array.findIdx?_eq_some_iff_getElem.mp hi
    have hkk : s.vm.classes[c] = k := (Array.getElem?_eq_some_iff.mp hk).2
    rw [hkk] at hp
    cases hkind : k.kind with
    | array component ty =>
      rw [hkind] at hp hb
      simp only [Bool.and_eq_true, beq_iff_eq, decide_eq_true_eq] at hb hp
      refine ⟨c, fun n z => ⟨(fun k h => by cases h), k, hk, component, ?_⟩, ?_⟩
      · rw [hkind, hb.1]
      · exact hb.2
    | _ => rw [hkind] at hp; simp at hp
theorem tx_R (hts : ∀ w ∈ lw_tbl, w.before args s = true) (hs : ∀ w ∈ NLc, w.before args s = true) {adK adX : Nat → Nat} (hR : ∀ i : Nat, i < 16 → (tmR i).eval args s none [] s = some (.ref (adK i))) (hX : ∀ i : Nat, i < 12 → (tmX i).eval args s none [] s = some (.ref (adX i))) : ∀ q ∈ xRT, vk_R q.1 q.2.1 q.2.2.1 ((fun j => if j < 16 then adK j else adX (j - 16)) q.2.2.2) s := 
  (List.forall_mem_cons.mpr ⟨vk_R.of (A := args) (hts _ (mT3 133 (by decide +kernel))) (by dsimp only; rw [if_pos (show 0 < 16 by decide)]; exact hR 0 (by decide)),
    (List.forall_mem_cons.mpr ⟨vk_R.of (A := args) (hts _ (mT3 134 (by decide +kernel))) (by dsimp only; rw [if_pos (show 1 < 16 by decide)]; exact hR 1 (by decide)),
    (List.forall_mem_cons.mpr ⟨vk_R.of (A := args) (hts _ (mT3 135 (by decide +kernel))) (by dsimp only; rw [if_pos (show 2 < 16 by decide)]; exact hR 2 (by decide)),
    (List.forall_mem_cons.mpr ⟨vk_R.of (A := args) (hts _ (mT3 136 (by decide +kernel))) (by dsimp only; rw [if_pos (show 3 < 16 by decide)]; exact hR 3 (by decide)),
    (List.forall_mem_cons.mpr ⟨vk_R.of (A := args) (hts _ (mT3 137 (by decide +kernel))) (by dsimp only; rw [if_pos (show 4 < 16 by decide)]; exact hR 4 (by decide)),
    (List.forall_mem_cons.mpr ⟨vk_R.of (A := args) (hts _ (mT3 138 (by decide +kernel))) (by dsimp only; rw [if_pos (show 5 < 16 by decide)]; exact hR 5 (by decide)),
    (List.forall_mem_cons.mpr ⟨vk_R.of (A := args) (hts _ (mT3 139 (by decide +kernel))) (by dsimp only; rw [if_pos (show 6 < 16 by decide)]; exact hR 6 (by decide)),
    (List.forall_mem_cons.mpr ⟨vk_R.of (A := args) (hts _ (mT3 140 (by decide +kernel))) (by dsimp only; rw [if_pos (show 7 < 16 by decide)]; exact hR 7 (by decide)),
    (List.forall_mem_cons.mpr ⟨vk_R.of (A := args) (hts _ (mT3 141 (by decide +kernel))) (by dsimp only; rw [if_pos (show 8 < 16 by decide)]; exact hR 8 (by decide)),
    (List.forall_mem_cons.mpr ⟨vk_R.of (A := args) (hts _ (mT3 142 (by decide +kernel))) (by dsimp only; rw [if_pos (show 9 < 16 by decide)]; exact hR 9 (by decide)),
    (List.forall_mem_cons.mpr ⟨vk_R.of (A := args) (hts _ (mT3 143 (by decide +kernel))) (by dsimp only; rw [if_pos (show 10 < 16 by decide)]; exact hR 10 (by decide)),
    (List.forall_mem_cons.mpr ⟨vk_R.of (A := args) (hts _ (mT3 144 (by decide +kernel))) (by dsimp only; rw [if_pos (show 11 < 16 by decide)]; exact hR 11 (by decide)),
    (List.forall_mem_cons.mpr ⟨vk_R.of (A := args) (hts _ (mT3 145 (by decide +kernel))) (by dsimp only; rw [if_pos (show 12 < 16 by decide)]; exact hR 12 (by decide)),
    (List.forall_mem_cons.mpr ⟨vk_R.of (A := args) (hts _ (mT3 146 (by decide +kernel))) (by dsimp only; rw [if_pos (show 13 < 16 by decide)]; exact hR 13 (by decide)),
    (List.forall_mem_cons.mpr ⟨vk_R.of (A := args) (hts _ (mT3 147 (by decide +kernel))) (by dsimp only; rw [if_pos (show 14 < 16 by decide)]; exact hR 14 (by decide)),
    (List.forall_mem_cons.mpr ⟨vk_R.of (A := args) (hts _ (mT3 148 (by decide +kernel))) (by dsimp only; rw [if_pos (show 15 < 16 by decide)]; exact hR 15 (by decide)),
    (List.forall_mem_cons.mpr ⟨vk_R.of (A := args) (hts _ (mT6 8 (by decide +kernel))) (by dsimp only; rw [if_pos (show 0 < 16 by decide)]; exact tx_M hs (i := 0) (by decide) (hR 0 (by decide))),
    (List.forall_mem_cons.mpr ⟨vk_R.of (A := args) (hts _ (mT6 9 (by decide +kernel))) (by dsimp only; rw [if_pos (show 1 < 16 by decide)]; exact tx_M hs (i := 1) (by decide) (hR 1 (by decide))),
    (List.forall_mem_cons.mpr ⟨vk_R.of (A := args) (hts _ (mT6 10 (by decide +kernel))) (by dsimp only; rw [if_pos (show 2 < 16 by decide)]; exact tx_M hs (i := 2) (by decide) (hR 2 (by decide))),
    (List.forall_mem_cons.mpr ⟨vk_R.of (A := args) (hts _ (mT6 11 (by decide +kernel))) (by dsimp only; rw [if_pos (show 3 < 16 by decide)]; exact tx_M hs (i := 3) (by decide) (hR 3 (by decide))),
    (List.forall_mem_cons.mpr ⟨vk_R.of (A := args) (hts _ (mT7 62 (by decide +kernel))) (by dsimp only; rw [if_pos (show 4 < 16 by decide)]; exact tx_M hs (i := 4) (by decide) (hR 4 (by decide))),
    (List.forall_mem_cons.mpr ⟨vk_R.of (A := args) (hts _ (mT7 71 (by decide +kernel))) (by dsimp only; rw [if_pos (show 5 < 16 by decide)]; exact tx_M hs (i := 5) (by decide) (hR 5 (by decide))),
    (List.forall_mem_cons.mpr ⟨vk_R.of (A := args) (hts _ (mT7 2 (by decide +kernel))) (by dsimp only; rw [if_pos (show 6 < 16 by decide)]; exact tx_M hs (i := 6) (by decide) (hR 6 (by decide))),
    (List.forall_mem_cons.mpr ⟨vk_R.of (A := args) (hts _ (mT7 53 (by decide +kernel))) (by dsimp only; rw [if_pos (show 7 < 16 by decide)]; exact tx_M hs (i := 7) (by decide) (hR 7 (by decide))),
    (List.forall_mem_cons.mpr ⟨vk_R.of (A := args) (hts _ (mT7 52 (by decide +kernel))) (by dsimp only; rw [if_pos (show 8 < 16 by decide)]; exact tx_M hs (i := 8) (by decide) (hR 8 (by decide))),
    (List.forall_mem_cons.mpr ⟨vk_R.of (A := args) (hts _ (mT7 23 (by decide +kernel))) (by dsimp only; rw [if_pos (show 9 < 16 by decide)]; exact tx_M hs (i := 9) (by decide) (hR 9 (by decide))),
    (List.forall_mem_cons.mpr ⟨vk_R.of (A := args) (hts _ (mT6 12 (by decide +kernel))) (by dsimp only; rw [if_pos (show 10 < 16 by decide)]; exact tx_M hs (i := 10) (by decide) (hR 10 (by decide))),
    (List.forall_mem_cons.mpr ⟨vk_R.of (A := args) (hts _ (mT6 13 (by decide +kernel))) (by dsimp only; rw [if_pos (show 11 < 16 by decide)]; exact tx_M hs (i := 11) (by decide) (hR 11 (by decide))),
    (List.forall_mem_cons.mpr ⟨vk_R.of (A := args) (hts _ (mT6 14 (by decide +kernel))) (by dsimp only; rw [if_pos (show 12 < 16 by decide)]; exact tx_M hs (i := 12) (by decide) (hR 12 (by decide))),
    (List.forall_mem_cons.mpr ⟨vk_R.of (A := args) (hts _ (mT6 15 (by decide +kernel))) (by dsimp only; rw [if_pos (show 13 < 16 by decide)]; exact tx_M hs (i := 13) (by decide) (hR 13 (by decide))),
    (List.forall_mem_cons.mpr ⟨vk_R.of (A := args) (hts _ (mT6 16 (by decide +kernel))) (by dsimp only; rw [if_pos (show 14 < 16 by decide)]; exact tx_M hs (i := 14) (by decide) (hR 14 (by decide))),
    (List.forall_mem_cons.mpr ⟨vk_R.of (A := args) (hts _ (mT6 17 (by decide +kernel))) (by dsimp only; rw [if_pos (show 15 < 16 by decide)]; exact tx_M hs (i := 15) (by decide) (hR 15 (by decide))),
    (List.forall_mem_cons.mpr ⟨vk_R.of (A := args) (hts _ (mT3 78 (by decide +kernel))) (by dsimp only; rw [if_neg (show ¬ 16 < 16 by decide)]; exact hX 0 (by decide)),
    (List.forall_mem_cons.mpr ⟨vk_R.of (A := args) (hts _ (mT4 99 (by decide +kernel))) (by dsimp only; rw [if_neg (show ¬ 17 < 16 by decide)]; exact hX 1 (by decide)),
    (List.forall_mem_cons.mpr ⟨vk_R.of (A := args) (hts _ (mT4 120 (by decide +kernel))) (by dsimp only; rw [if_neg (show ¬ 18 < 16 by decide)]; exact hX 2 (by decide)),
    (List.forall_mem_cons.mpr ⟨vk_R.of (A := args) (hts _ (mT4 144 (by decide +kernel))) (by dsimp only; rw [if_neg (show ¬ 19 < 16 by decide)]; exact hX 3 (by decide)),
    (List.forall_mem_cons.mpr ⟨vk_R.of (A := args) (hts _ (mT4 204 (by decide +kernel))) (by dsimp only; rw [if_neg (show ¬ 20 < 16 by decide)]; exact hX 4 (by decide)),
    (List.forall_mem_cons.mpr ⟨vk_R.of (A := args) (hts _ (mT5 135 (by decide +kernel))) (by dsimp only; rw [if_neg (show ¬ 21 < 16 by decide)]; exact hX 5 (by decide)),
    (List.forall_mem_cons.mpr ⟨vk_R.of (A := args) (hts _ (mT5 203 (by decide +kernel))) (by dsimp only; rw [if_neg (show ¬ 22 < 16 by decide)]; exact hX 6 (by decide)),
    (List.forall_mem_cons.mpr ⟨vk_R.of (A := args) (hts _ (mT5 227 (by decide +kernel))) (by dsimp only; rw [if_neg (show ¬ 23 < 16 by decide)]; exact hX 7 (by decide)),
    (List.forall_mem_cons.mpr ⟨vk_R.of (A := args) (hts _ (mT4 117 (by decide +kernel))) (by dsimp only; rw [if_neg (show ¬ 24 < 16 by decide)]; exact hX 8 (by decide)),
    (List.forall_mem_cons.mpr ⟨vk_R.of (A := args) (hts _ (mT4 132 (by decide +kernel))) (by dsimp only; rw [if_neg (show ¬ 25 < 16 by decide)]; exact hX 9 (by decide)),
    (List.forall_mem_cons.mpr ⟨vk_R.of (A := args) (hts _ (mT5 0 (by decide +kernel))) (by dsimp only; rw [if_neg (show ¬ 26 < 16 by decide)]; exact hX 10 (by decide)),
    (List.forall_mem_cons.mpr ⟨vk_R.of (A := args) (hts _ (mT4 215 (by decide +kernel))) (by dsimp only; rw [if_neg (show ¬ 27 < 16 by decide)]; exact hX 11 (by decide)),
    (fun _ h => absurd h List.not_mem_nil)⟩)⟩)⟩)⟩)⟩)⟩)⟩)⟩)⟩)⟩)⟩)⟩)⟩)⟩)⟩)⟩)⟩)⟩)⟩)⟩)⟩)⟩)⟩)⟩)⟩)⟩)⟩)⟩)⟩)⟩)⟩)⟩)⟩)⟩)⟩)⟩)⟩)⟩)⟩)⟩)⟩)⟩)⟩)⟩)
theorem tx_N (hts : ∀ w ∈ lw_tbl, w.before args s = true) : ∀ w ∈ xNW, va_Nw w s :=
  (List.forall_mem_cons.mpr ⟨va_Nw.of (A := args) rfl (hts _ (mT3 42 (by decide +kernel))),
    (List.forall_mem_cons.mpr ⟨va_Nw.of (A := args) rfl (hts _ (mT3 44 (by decide +kernel))),
    (List.forall_mem_cons.mpr ⟨va_Nw.of (A := args) rfl (hts _ (mT3 46 (by decide +kernel))),
    (List.forall_mem_cons.mpr ⟨va_Nw.of (A := args) rfl (hts _ (mT3 40 (by decide +kernel))),
    (List.forall_mem_cons.mpr ⟨va_Nw.of (A := args) rfl (hts _ (mT4 92 (by decide +kernel))),
    (List.forall_mem_cons.mpr ⟨va_Nw.of (A := args) rfl (hts _ (mT1 35 (by decide +kernel))),
    (List.forall_mem_cons.mpr ⟨va_Nw.of (A := args) rfl (hts _ (mT1 41 (by decide +kernel))),
    (List.forall_mem_cons.mpr ⟨va_Nw.of (A := args) rfl (hts _ (mT1 105 (by decide +kernel))),
    (List.forall_mem_cons.mpr ⟨va_Nw.of (A := args) rfl (hts _ (mT1 165 (by decide +kernel))),
    (List.forall_mem_cons.mpr ⟨va_Nw.of (A := args) rfl (hts _ (mT1 167 (by decide +kernel))),
    (List.forall_mem_cons.mpr ⟨va_Nw.of (A := args) rfl (hts _ (mT1 176 (by decide +kernel))),
    (List.forall_mem_cons.mpr ⟨va_Nw.of (A := args) rfl (hts _ (mT1 187 (by decide +kernel))),
    (List.forall_mem_cons.mpr ⟨va_Nw.of (A := args) rfl (hts _ (mT1 207 (by decide +kernel))),
    (List.forall_mem_cons.mpr ⟨va_Nw.of (A := args) rfl (hts _ (mT1 212 (by decide +kernel))),
    (List.forall_mem_cons.mpr ⟨va_Nw.of (A := args) rfl (hts _ (mT1 216 (by decide +kernel))),
    (List.forall_mem_cons.mpr ⟨va_Nw.of (A := args) rfl (hts _ (mT1 239 (by decide +kernel))),
    (List.forall_mem_cons.mpr ⟨va_Nw.of (A := args) rfl (hts _ (mT2 24 (by decide +kernel))),
    (List.forall_mem_cons.mpr ⟨va_Nw.of (A := args) rfl (hts _ (mT2 45 (by decide +kernel))),
    (List.forall_mem_cons.mpr ⟨va_Nw.of (A := args) rfl (hts _ (mT2 56 (by decide +kernel))),
    (fun _ h => absurd h List.not_mem_nil)⟩)⟩)⟩)⟩)⟩)⟩)⟩)⟩)⟩)⟩)⟩)⟩)⟩)⟩)⟩)⟩)⟩)⟩)⟩)
theorem tx_G (hts : ∀ w ∈ lw_tbl, w.before args s = true) (hs : ∀ w ∈ NLc, w.before args s = true) (hA : ∀ a : Nat, a < s.heap.size → ¬ A a) (ca : Nat → ClassId) : ∃ cs : xE, cs.1 = ca ∧ xG cs A s s.heap := by
  have hw : ∀ {w : Cond} (i : Nat), NLc[i]? = some w → w.before args s = true := fun i h => hs _ (List.mem_of_getElem? h)
  obtain ⟨adK, adV, hS, hR⟩ := tx_S hs hA
  obtain ⟨adX, hX⟩ := tx_X hs
  refine ⟨(ca, (fun j => if j < 16 then adK j else adX (j - 16)), adV), rfl, tx_R hts hs hR hX, ⟨fun i hi => ?_, fun i j hi hj e => ?_⟩, vx_Zqof (args := args) (hts _ (mT3 65 (by decide +kernel))) (hts _ (mT1 13 (by decide +kernel))) (hw 4 (by decide +kernel)) hA, vx_Zqof (args := args) (hts _ (mT3 67 (by decide +kernel))) (hts _ (mT1 13 (by decide +kernel))) (hw 5 (by decide +kernel)) hA, va_Zof (args := args) (hts _ (mT3 162 (by decide +kernel))) (hts _ (mT1 17 (by decide +kernel))) (va_eqt (hw 6 (by decide +kernel))) hA, va_Zqof (args := args) (hts _ (mT3 178 (by decide +kernel))) (hts _ (mT1 19 (by decide +kernel))) (hw 7 (by decide +kernel)) hA, tx_N hts, va_Nc.of (args := args) (hw 36 (by decide +kernel))⟩
  · have h := hS.1 i hi
    dsimp only
    rw [if_pos hi]
    exact h
  · dsimp only at e
    rw [if_pos hi, if_pos hj] at e
    exact hS.2 i j hi hj e
theorem tx_K (hW : ∀ w ∈ WG, w.before args s = true) (hts : ∀ w ∈ lw_tbl, w.before args s = true) : ∃ (D : va_G) (ca : Nat → ClassId), ∀ x : (Nat → Nat) × (Nat → Nat), va_K D vwCl (tyL (ca, x)) s := by
  obtain ⟨c0, j0, h0⟩ := u_known (C := RX0) (T := TX0) (N := 1) (n := 1) hW inW_X0 (hW _ wd388)
  obtain ⟨c1, j1, h1⟩ := u_known (C := RX1) (T := TX1) (N := 6) (n := 6) hW inW_X1 (hW _ wd399)
  obtain ⟨c2, j2, h2⟩ := u_known (C := RX2) (T := TX2) (N := 5) (n := 5) hW inW_X2 (hW _ wd342)
  obtain ⟨c3, j3, h3⟩ := u_known (C := RX3) (T := TX3) (N := 2) (n := 2) hW inW_X3 (hW _ wd273)
  obtain ⟨c4, j4, h4⟩ := u_known (C := RX4) (T := TX4) (N := 4) (n := 4) hW inW_X4 (hW _ wd367)
  obtain ⟨c5, j5, h5⟩ := u_known (C := RX5) (T := TX5) (N := 5) (n := 5) hW inW_X5 (hW _ wd310)
  obtain ⟨c6, j6, h6⟩ := u_known (C := RX6) (T := TX6) (N := 12) (n := 12) hW inW_X6 (hW _ wd138)
  obtain ⟨c7, j7, h7⟩ := u_known (C := RX7) (T := TX7) (N := 4) (n := 4) hW inW_X7 (hW _ wd208)
  obtain ⟨c8, j8, h8⟩ := u_known (C := RX8) (T := TX8) (N := 4) (n := 4) hW inW_X8 (hW _ wd290)
  obtain ⟨c9, j9, h9⟩ := u_known (C := RX9) (T := TX9) (N := 11) (n := 11) hW inW_X9 (hW _ wd144)
  obtain ⟨c10, j10, h10⟩ := u_known (C := RX10) (T := TX10) (N := 14) (n := 14) hW inW_X10 (hW _ wd130)
  obtain ⟨c11, j11, h11⟩ := u_known (C := RX11) (T := TX11) (N := 58) (n := 58) hW inW_X11 (hW _ wd1305)
  obtain ⟨a0, b0, d0⟩ := ar_C (hW _ wd206)
  obtain ⟨a1, b1, d1⟩ := ar_C (hW _ wd267)
  obtain ⟨a2, b2, d2⟩ := ar_O (C := "TwinLamps$Town") (hts _ (mT1 175 (by decide +kernel)))
  obtain ⟨a3, b3, d3⟩ := ar_A (t := .int) (hts _ (mT2 29 (by decide +kernel)))
  obtain ⟨a4, b4, d4⟩ := ar_O (C := "java/lang/String") (hts _ (mT6 7 (by decide +kernel)))
  obtain ⟨a5, b5, d5⟩ := ar_C (hW _ wd1950)
  refine ⟨(fun k => if k = 0 then c0 else if k = 1 then c1 else if k = 2 then c2 else if k = 3 then c3 else if k = 4 then c4 else if k = 5 then c5 else if k = 6 then c6 else if k = 7 then c7 else if k = 8 then c8 else if k = 9 then c9 else if k = 10 then c10 else c11, fun k => if k = 0 then j0 else if k = 1 then j1 else if k = 2 then j2 else if k = 3 then j3 else if k = 4 then j4 else if k = 5 then j5 else if k = 6 then j6 else if k = 7 then j7 else if k = 8 then j8 else if k = 9 then j9 else if k = 10 then j10 else j11), (fun k => if k = 0 then a0 else if k = 1 then a1 else if k = 2 then a2 else if k = 3 then a3 else if k = 4 then a4 else a5), fun x => ⟨fun k q hq => ?_, fun k q hq => ?_⟩⟩
  · match k, hq with
    | 0, hq => cases hq; exact h0
    | 1, hq => cases hq; exact h1
    | 2, hq => cases hq; exact h2
    | 3, hq => cases hq; exact h3
    | 4, hq => cases hq; exact h4
    | 5, hq => cases hq; exact h5
    | 6, hq => cases hq; exact h6
    | 7, hq => cases hq; exact h7
    | 8, hq => cases hq; exact h8
    | 9, hq => cases hq; exact h9
    | 10, hq => cases hq; exact h10
    | 11, hq => cases hq; exact h11
    | k + 12, hq => simp [vwCl] at hq
  · match k, hq with
    | 0, hq => cases hq; exact ⟨b0, d0⟩
    | 1, hq => cases hq; exact ⟨b1, d1⟩
    | 2, hq => cases hq; exact ⟨b2, d2⟩
    | 3, hq => cases hq; exact ⟨b3, d3⟩
    | 4, hq => cases hq; exact ⟨b4, d4⟩
    | 5, hq => cases hq; exact ⟨b5, d5⟩
    | k + 6, hq => simp [tyL] at hq
theorem tx_X2 (hts : ∀ w ∈ lw_tbl, w.before args s = true) : mX s := ⟨va_AO.of (A := args) (hts _ (mT1 175 (by decide +kernel))), va_AO.of (A := args) (hts _ (mT6 7 (by decide +kernel))), va_AOA.of (A := args) (hts _ (mT2 29 (by decide +kernel)))⟩
end NL
def tw0 : TW := (0, 0, 0, fun _ => 0, fun _ => 0, fun _ => 0, fun _ => 0, fun _ => 0, fun _ => none, fun _ => false, fun _ => false)
theorem tw0_W : WfT tw0 := ⟨Nat.zero_le 8, Nat.zero_le 12, by decide, fun k hk => absurd hk (Nat.not_lt_zero k), fun k hk => absurd hk (Nat.not_lt_zero k)⟩
theorem allR0 : AllR zX zR zS zS zH zS zS zS zH zS zM := by
  refine ⟨(0, fun _ => 0), tw0, 0, fun _ => tw0, (0, fun _ => 0, fun _ => 0, fun _ => false), ⟨⟨0, Nat.zero_le _, rfl, rfl, fun k hk => absurd hk (Nat.not_lt_zero k)⟩, rfl, fun _ _ => rfl, ⟨Nat.zero_le _, fun k hk => absurd hk (Nat.not_lt_zero k), fun h => absurd h (Nat.lt_irrefl 0)⟩, ⟨rfl, fun k hk => absurd hk (Nat.not_lt_zero k)⟩, ⟨rfl, fun k hk => absurd hk (Nat.not_lt_zero k)⟩, ⟨tw0_W, rfl, rfl, rfl, Bm.zero0 _, Bm.zero0 _, fun k hk => absurd hk (Nat.not_lt_zero k), fun k hk => absurd hk (Nat.not_lt_zero k)⟩, ⟨tw0_W, rfl, rfl, rfl, Bm.zero0 _, Bm.zero0 _, fun k hk => absurd hk (Nat.not_lt_zero k), fun k hk => absurd hk (Nat.not_lt_zero k)⟩, ⟨tw0_W, fun k hk => absurd hk (Nat.not_lt_zero k), fun k j hk => absurd hk (Nat.not_lt_zero k), Nat.zero_le _, ⟨rfl, rfl, rfl, rfl⟩⟩, ⟨Nat.zero_le _, rfl, ⟨fun _ h => h, fun _ _ _ _ h => h⟩, fun k hk => absurd hk (Nat.not_lt_zero k)⟩, ⟨rfl, fun k hk => absurd hk (Nat.not_lt_zero k)⟩, fun k hk => absurd hk (Nat.not_lt_zero k), ⟨Nat.zero_le _, rfl, Bm.zero0 _, fun k hk => absurd hk (Nat.not_lt_zero k)⟩, ⟨rfl, fun k hk => absurd hk (Nat.not_lt_zero k)⟩, ?_⟩, ⟨fun _ h => h, fun _ _ _ _ h => h⟩, false, rfl, rfl, fun h => absurd h (by decide)⟩
  show (0 : Int32) = nI ((0 - aloneN tw0) / 2)
  rw [Nat.zero_sub]
  rfl
