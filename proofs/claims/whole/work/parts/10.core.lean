/-! the pure words: states, reads that may fail, loops; and the rows that tie them to the machine -/
abbrev St : Type := (Nat → Int32) × (Nat → Nat → Int32)
def sS (σ : St) (k : Nat) (v : Int32) : St := (fun j => if j = k then v else σ.1 j, σ.2)
def sA (σ : St) (k : Nat) (f : Nat → Int32) : St := (σ.1, fun j => if j = k then f else σ.2 j)
def zB (b : Bool) : Int32 := if b then 1 else 0
def jmax (x y : Int32) : Int32 := if x < y then y else x
def jmin (x y : Int32) : Int32 := if y < x then y else x
def inb (i : Int32) (n : Nat) : Bool := decide (¬ (i < 0 ∨ n ≤ i.toNatClampNeg))
def ckO (n : Nat) (i : Int32) : Option Nat := if inb i n = true then some i.toNatClampNeg else none
def bdO (n k : Nat) : Option Nat := if k < n then some k else none
def ldO (n : Nat) (f : Nat → Int32) (i : Int32) : Option Int32 := if inb i n = true then some (f i.toNatClampNeg) else none
def stO (n : Nat) (f : Nat → Int32) (i x : Int32) : Option (Nat → Int32) := if inb i n = true then some (upd f i.toNatClampNeg x) else none
def stS (n : Nat) (σ : St) (k : Nat) (i x : Int32) : Option St := if inb i n = true then some (sA σ k (upd (σ.2 k) i.toNatClampNeg x)) else none
def dvO (x y : Int32) : Option Int32 := if y = 0 then none else some (x / y)
def rmO (x y : Int32) : Option Int32 := if y = 0 then none else some (x - x / y * y)
def lp {S R : Type} : Nat → (S → Option (S ⊕ R)) → S → Option R
  | 0, _, _ => none
  | n + 1, f, s => match f s with
    | none => none
    | some (.inl s') => lp n f s'
    | some (.inr r) => some r
theorem lp_succ {S R : Type} {n : Nat} {f : S → Option (S ⊕ R)} {s : S} {x : R} (h : lp (n + 1) f s = some x) : ∃ y, f s = some y ∧ (match y with | .inl s' => lp n f s' | .inr r => some r) = some x := by
  unfold lp at h
  cases hf : f s with
  | none => rw [hf] at h; cases h
  | some y => rw [hf] at h; refine ⟨y, rfl, ?_⟩; cases y <;> exact h
theorem lp_mono {S R : Type} {f : S → Option (S ⊕ R)} {x : R} : ∀ {n m : Nat} {s : S}, n ≤ m → lp n f s = some x → lp m f s = some x := by
  intro n
  induction n with
  | zero => intro m s _ h; cases h
  | succ n ih =>
    intro m s hm h
    obtain ⟨m, rfl⟩ : ∃ k, m = k + 1 := ⟨m - 1, by omega⟩
    obtain ⟨y, hy, h⟩ := lp_succ h
    unfold lp
    rw [hy]
    cases y with
    | inl s' => exact ih (by omega) h
    | inr r => exact h
noncomputable def lpw {S R : Type} (f : S → Option (S ⊕ R)) (s : S) : Option R :=
  @dite (Option R) (∃ n, (lp n f s).isSome = true) (Classical.propDecidable _) (fun h => lp h.choose f s) (fun _ => none)
theorem lpw_ex {S R : Type} {f : S → Option (S ⊕ R)} {s : S} {x : R} (h : lpw f s = some x) : ∃ n, lp n f s = some x := by
  unfold lpw at h
  by_cases hn : ∃ n, (lp n f s).isSome = true
  · rw [dif_pos hn] at h
    exact ⟨_, h⟩
  · rw [dif_neg hn] at h
    cases h
theorem lpw_of {S R : Type} {f : S → Option (S ⊕ R)} {s : S} {x : R} {n : Nat} (h : lp n f s = some x) : lpw f s = some x := by
  have hn : ∃ n, (lp n f s).isSome = true := ⟨n, by rw [h]; rfl⟩
  unfold lpw
  rw [dif_pos hn]
  have h2 := hn.choose_spec
  cases hc : lp hn.choose f s with
  | none => rw [hc] at h2; cases h2
  | some y =>
    have a := lp_mono (Nat.le_max_left n hn.choose) h
    have b := lp_mono (Nat.le_max_right n hn.choose) hc
    rw [a] at b
    exact b.symm
theorem lpw_inl {S R : Type} {f : S → Option (S ⊕ R)} {s s' : S} (h : f s = some (.inl s')) : lpw f s = lpw f s' := by
  have key : ∀ x, lpw f s = some x ↔ lpw f s' = some x := by
    intro x
    constructor
    · intro hx
      obtain ⟨n, hn⟩ := lpw_ex hx
      cases n with
      | zero => cases hn
      | succ n =>
        obtain ⟨y, hy, hn⟩ := lp_succ hn
        rw [h] at hy
        cases hy
        exact lpw_of hn
    · intro hx
      obtain ⟨n, hn⟩ := lpw_ex hx
      refine lpw_of (n := n + 1) ?_
      unfold lp
      rw [h]
      exact hn
  cases h1 : lpw f s with
  | none =>
    cases h2 : lpw f s' with
    | none => rfl
    | some y => rw [(key y).2 h2] at h1; cases h1
  | some y => exact ((key y).1 h1).symm
theorem lpw_inr {S R : Type} {f : S → Option (S ⊕ R)} {s : S} {r : R} (h : f s = some (.inr r)) : lpw f s = some r :=
  lpw_of (n := 1) (by unfold lp; rw [h])
/-- a loop under an invariant and a measure that falls -/
theorem lpw_rule {S R : Type} {f : S → Option (S ⊕ R)} (I : S → Prop) (μ : S → Nat) (P : R → Prop) (hs : ∀ s, I s → (∃ s', f s = some (.inl s') ∧ I s' ∧ μ s' < μ s) ∨ ∃ r, f s = some (.inr r) ∧ P r) : ∀ s, I s → ∃ r, lpw f s = some r ∧ P r := by
  have key : ∀ n s, μ s < n → I s → ∃ r, lpw f s = some r ∧ P r := by
    intro n
    induction n with
    | zero => intro s h; omega
    | succ n ih =>
      intro s hn hI
      rcases hs s hI with ⟨s', h1, h2, h3⟩ | ⟨r, h1, h2⟩
      · obtain ⟨r, h4, h5⟩ := ih s' (by omega) h2
        exact ⟨r, by rw [lpw_inl h1]; exact h4, h5⟩
      · exact ⟨r, lpw_inr h1, h2⟩
  exact fun s h => key (μ s + 1) s (by omega) h
theorem bnd {α β : Type} {e : Option α} {K : α → Option β} {r : β} (h : e.bind K = some r) : ∃ x, e = some x ∧ K x = some r := by
  cases e with
  | none => cases h
  | some x => exact ⟨x, rfl, h⟩
theorem ifp {α : Type} {c : Prop} {hc : Decidable c} {a b : α} {r : α} (h : c) (e : @ite α c hc a b = r) : a = r := by rw [if_pos h] at e; exact e
theorem ifn {α : Type} {c : Prop} {hc : Decidable c} {a b : α} {r : α} (h : ¬ c) (e : @ite α c hc a b = r) : b = r := by rw [if_neg h] at e; exact e
/-- the same for a test that stands turned round -/
theorem ifpN {α : Type} {c : Prop} {hc : Decidable (¬ c)} {a b : α} {r : α} (h : ¬ c) (e : @ite α (¬ c) hc a b = r) : a = r := by rw [if_pos h] at e; exact e
theorem ifnN {α : Type} {c : Prop} {hc : Decidable (¬ c)} {a b : α} {r : α} (h : c) (e : @ite α (¬ c) hc a b = r) : b = r := by rw [if_neg (fun q => q h)] at e; exact e
theorem inb_in {i : Int32} {n : Nat} (h : inb i n = true) : vp_in i n := by
  unfold vp_in
  exact of_decide_eq_true h
theorem ldO_e {n : Nat} {f : Nat → Int32} {i x : Int32} (h : ldO n f i = some x) : vp_in i n ∧ f i.toNatClampNeg = x := by
  unfold ldO at h
  by_cases hi : inb i n = true
  · rw [if_pos hi] at h; exact ⟨inb_in hi, Option.some.inj h⟩
  · rw [if_neg hi] at h; cases h
theorem stO_e {n : Nat} {f g : Nat → Int32} {i x : Int32} (h : stO n f i x = some g) : vp_in i n ∧ upd f i.toNatClampNeg x = g := by
  unfold stO at h
  by_cases hi : inb i n = true
  · rw [if_pos hi] at h; exact ⟨inb_in hi, Option.some.inj h⟩
  · rw [if_neg hi] at h; cases h
theorem stS_e {n k : Nat} {σ τ : St} {i x : Int32} (h : stS n σ k i x = some τ) : vp_in i n ∧ sA σ k (upd (σ.2 k) i.toNatClampNeg x) = τ := by
  unfold stS at h
  by_cases hi : inb i n = true
  · rw [if_pos hi] at h; exact ⟨inb_in hi, Option.some.inj h⟩
  · rw [if_neg hi] at h; cases h
theorem dvO_e {x y z : Int32} (h : dvO x y = some z) : ¬ y = 0 ∧ x / y = z := by
  unfold dvO at h
  by_cases hi : y = 0
  · rw [if_pos hi] at h; cases h
  · rw [if_neg hi] at h; exact ⟨hi, Option.some.inj h⟩
theorem rmO_e {x y z : Int32} (h : rmO x y = some z) : ¬ y = 0 ∧ x - x / y * y = z := by
  unfold rmO at h
  by_cases hi : y = 0
  · rw [if_pos hi] at h; cases h
  · rw [if_neg hi] at h; exact ⟨hi, Option.some.inj h⟩
theorem ckO_e {n q : Nat} {i : Int32} (h : ckO n i = some q) : vp_in i n ∧ i.toNatClampNeg = q ∧ q < n := by
  unfold ckO at h
  by_cases hi : inb i n = true
  · rw [if_pos hi] at h
    have h1 := inb_in hi
    have h2 := Option.some.inj h
    refine ⟨h1, h2, ?_⟩
    rw [← h2]
    exact Nat.not_le.mp fun z => h1 (Or.inr z)
  · rw [if_neg hi] at h; cases h
theorem bdO_e {n k q : Nat} (h : bdO n k = some q) : k < n ∧ k = q := by
  unfold bdO at h
  by_cases hi : k < n
  · rw [if_pos hi] at h; exact ⟨hi, Option.some.inj h⟩
  · rw [if_neg hi] at h; cases h
theorem vpc {i : Int32} {n : Nat} (h : inb i n = true) : vp_in i n := inb_in h
theorem zB_nar (b : Bool) : narrow .boolean (.int (zB b)) = .int (zB b) := by cases b <;> decide +kernel
theorem fm_of {α : Type} {is : List Nat} {ws w : List α} (h : is.map (fun i => ws[i]?) = w.map some) : is.filterMap (fun i => ws[i]?) = w := by
  induction is generalizing w with
  | nil => cases w with | nil => rfl | cons a b => cases h
  | cons i is ih =>
    cases w with
    | nil => cases h
    | cons a b =>
      injection h with h1 h2
      have h1 : ws[i]? = some a := h1
      rw [List.filterMap_cons, h1]
      simp only
      rw [ih h2]
/-! the machine -/
/-! what stays as it is all along: the array classes, the texts, the statics -/
abbrev xE : Type := (Nat → ClassId) × (Nat → Nat) × (Nat → Nat)
def xRT : List (String × Nat × String × Nat) := [("TwinLamps$Reader", 170, "home", 0), ("TwinLamps$Reader", 172, "tower", 1), ("TwinLamps$Reader", 174, "alley", 2), ("TwinLamps$Reader", 176, "ballroom", 3), ("TwinLamps$Reader", 178, "lamp", 4), ("TwinLamps$Reader", 180, "twins", 5), ("TwinLamps$Reader", 182, "wants", 6), ("TwinLamps$Reader", 184, "or", 7), ("TwinLamps$Reader", 186, "and", 8), ("TwinLamps$Reader", 188, "not", 9), ("TwinLamps$Reader", 190, "hour", 10), ("TwinLamps$Reader", 192, "kind", 11), ("TwinLamps$Reader", 194, "oil", 12), ("TwinLamps$Reader", 196, "house", 13), ("TwinLamps$Reader", 198, "lamps", 14), ("TwinLamps$Reader", 199, "awake", 15), ("TwinLampsModel", 11, "home", 0), ("TwinLampsModel", 13, "tower", 1), ("TwinLampsModel", 15, "alley", 2), ("TwinLampsModel", 17, "ballroom", 3), ("TwinLampsModel", 271, "lamp", 4), ("TwinLampsModel", 276, "twins", 5), ("TwinLampsModel", 266, "wants", 6), ("TwinLampsModel", 257, "or", 7), ("TwinLampsModel", 252, "and", 8), ("TwinLampsModel", 244, "not", 9), ("TwinLampsModel", 23, "hour", 10), ("TwinLampsModel", 25, "kind", 11), ("TwinLampsModel", 27, "oil", 12), ("TwinLampsModel", 29, "house", 13), ("TwinLampsModel", 31, "lamps", 14), ("TwinLampsModel", 33, "awake", 15), ("TwinLamps", 104, "the tape has not so many bytes", 16), ("TwinLamps", 177, "there is no such count", 17), ("TwinLamps", 198, "a house has no such thing", 18), ("TwinLamps", 227, "a lamp has no such thing", 19), ("TwinLamps", 257, "hours are 1 to 96", 20), ("TwinLamps", 312, "there are no such lamps", 21), ("TwinLamps", 331, "they are no twins, or can't be lit", 22), ("TwinLamps", 350, "a winter has no such thing", 23), ("TwinLamps", 374, "there is no such house", 24), ("TwinLamps", 376, "there is no such lamp", 25), ("TwinLamps", 378, "what is 0 or 1", 26), ("TwinLamps", 380, "hours are 0 to 96", 27)]
def xByt : List (List Int32) := [[104, 111, 109, 101], [116, 111, 119, 101, 114], [97, 108, 108, 101, 121], [98, 97, 108, 108, 114, 111, 111, 109], [108, 97, 109, 112], [116, 119, 105, 110, 115], [119, 97, 110, 116, 115], [111, 114], [97, 110, 100], [110, 111, 116], [104, 111, 117, 114], [107, 105, 110, 100], [111, 105, 108], [104, 111, 117, 115, 101], [108, 97, 109, 112, 115], [97, 119, 97, 107, 101]]
def xLen : List Nat := [4, 5, 5, 8, 4, 5, 5, 2, 3, 3, 4, 4, 3, 5, 5, 5]
/-- words that the tables keep, but that are none of a callee's: said of the state itself -/
def isNw : Cond → Bool
  | .castable _ _ => true
  | .declares _ => true
  | .methodLinkNest _ _ _ _ => true
  | _ => false
theorem nw_warm {w : Cond} (h : isNw w = true) {s U : State} (hW : s.WarmedH U.vm) (hZ : va_Nw w s) : va_Nw w U := by
  cases w <;> first | exact va_Nw.warmC hW hZ | exact va_Nw.warmD hW hZ | exact va_Nw.warmM hW hZ | cases h
theorem nw_same {w : Cond} (h : isNw w = true) {u U : State} (hv : U.vm = u.vm) (hZ : va_Nw w u) : va_Nw w U := by
  cases w <;> first | exact va_Nw.same rfl hv.symm hZ | cases h
def xNW : List Cond := [(Cond.declares ⟨"java/lang/RuntimeException", "<init>", "(Ljava/lang/String;)V"⟩), (Cond.declares ⟨"java/lang/Exception", "<init>", "(Ljava/lang/String;)V"⟩), (Cond.declares ⟨"java/lang/Throwable", "<init>", "(Ljava/lang/String;)V"⟩), (Cond.castable "java/lang/IllegalArgumentException" "java/lang/IllegalArgumentException"), (Cond.castable "java/util/NoSuchElementException" "java/util/NoSuchElementException"), (Jvm.Cond.methodLinkNest "TwinLamps" (9 : Nat) ({ cls := "TwinLamps$Reader", name := "<init>", desc := "()V" } : Jvm.MethodName) "TwinLamps"), (Jvm.Cond.methodLinkNest "TwinLamps$Reader" (11 : Nat) ({ cls := "TwinLamps$Town", name := "<init>", desc := "()V" } : Jvm.MethodName) "TwinLamps"), (Jvm.Cond.methodLinkNest "TwinLamps$Reader" (20 : Nat) ({ cls := "TwinLamps$Rule", name := "<init>", desc := "()V" } : Jvm.MethodName) "TwinLamps"), (Jvm.Cond.methodLinkNest "TwinLamps" (18 : Nat) ({ cls := "TwinLamps$Rule", name := "<init>", desc := "()V" } : Jvm.MethodName) "TwinLamps"), (Jvm.Cond.methodLinkNest "TwinLamps" (25 : Nat) ({ cls := "TwinLamps$Town", name := "<init>", desc := "()V" } : Jvm.MethodName) "TwinLamps"), (Jvm.Cond.methodLinkNest "TwinLamps$History" (17 : Nat) ({ cls := "TwinLamps$Town", name := "<init>", desc := "()V" } : Jvm.MethodName) "TwinLamps"), (Jvm.Cond.methodLinkNest "TwinLamps" (39 : Nat) ({ cls := "TwinLamps$Sightings", name := "<init>", desc := "()V" } : Jvm.MethodName) "TwinLamps"), (Jvm.Cond.methodLinkNest "TwinLamps" (50 : Nat) ({ cls := "TwinLamps$Picture", name := "<init>", desc := "()V" } : Jvm.MethodName) "TwinLamps"), (Jvm.Cond.methodLinkNest "TwinLamps$Picture" (9 : Nat) ({ cls := "TwinLamps$Town", name := "<init>", desc := "()V" } : Jvm.MethodName) "TwinLamps"), (Jvm.Cond.methodLinkNest "TwinLamps$Picture" (25 : Nat) ({ cls := "TwinLamps$Sightings", name := "<init>", desc := "()V" } : Jvm.MethodName) "TwinLamps"), (Jvm.Cond.methodLinkNest "TwinLamps" (61 : Nat) ({ cls := "TwinLamps$Evening", name := "<init>", desc := "()V" } : Jvm.MethodName) "TwinLamps"), (Jvm.Cond.methodLinkNest "TwinLamps" (71 : Nat) ({ cls := "TwinLamps$Matching", name := "<init>", desc := "()V" } : Jvm.MethodName) "TwinLamps"), (Jvm.Cond.methodLinkNest "TwinLamps" (78 : Nat) ({ cls := "TwinLamps$Dice", name := "<init>", desc := "()V" } : Jvm.MethodName) "TwinLamps"), (Jvm.Cond.methodLinkNest "TwinLamps" (85 : Nat) ({ cls := "TwinLamps$Duel", name := "<init>", desc := "()V" } : Jvm.MethodName) "TwinLamps")]
theorem xNW_is : ∀ w ∈ xNW, isNw w = true := by decide +kernel
def xG (cs : xE) (A : Nat → Prop) (U : State) (H : Heap) : Prop :=
  (∀ q ∈ xRT, vk_R q.1 q.2.1 q.2.2.1 (cs.2.1 q.2.2.2) U) ∧ vk_S 16 xLen xByt cs.2.1 cs.2.2 A U H ∧ vx_Zq Bundle.tN "UNASSIGNED_STACK" Bundle.steD A U H ∧ vx_Zq Bundle.tN "SUPPRESSED_SENTINEL" Bundle.listD A U H ∧ va_Z "java/lang/String" "COMPACT_STRINGS" "Z" (.int 1) A U H ∧ va_Zq "jdk/internal/util/Preconditions" "SIOOBE_FORMATTER" "Ljava/util/function/BiFunction;" A U H ∧ (∀ w ∈ xNW, va_Nw w U) ∧ va_Nc "java/lang/IllegalArgumentException" "java/util/NoSuchElementException" U
theorem xG.same {cs : xE} {A : Nat → Prop} {u U : State} {H : Heap} (hv : U.vm = u.vm) (h : xG cs A u H) : xG cs A U H :=
  have ha : u.vm.Alike U.vm := by rw [hv]; exact Vm.Alike.refl u.vm
  ⟨fun q hq => vk_R.same hv (h.1 q hq), h.2.1.moved ha, h.2.2.1.moved ha, h.2.2.2.1.moved ha, va_Z.moved ha h.2.2.2.2.1, va_Zq.moved ha h.2.2.2.2.2.1, fun w hw => nw_same (xNW_is w hw) hv (h.2.2.2.2.2.2.1 w hw), va_Nc.moved ha h.2.2.2.2.2.2.2⟩
theorem xG.warm {cs : xE} {A : Nat → Prop} {s U : State} {H : Heap} (hW : s.WarmedH U.vm) (h : xG cs A s H) : xG cs A U H :=
  ⟨fun q hq => vk_R.warm hW (h.1 q hq), h.2.1.moved hW.alike, h.2.2.1.moved hW.alike, h.2.2.2.1.moved hW.alike, va_Z.moved hW.alike h.2.2.2.2.1, va_Zq.moved hW.alike h.2.2.2.2.2.1, fun w hw => nw_warm (xNW_is w hw) hW (h.2.2.2.2.2.2.1 w hw), va_Nc.moved hW.alike h.2.2.2.2.2.2.2⟩
theorem xG.kept {cs : xE} {A : Nat → Prop} {U : State} {H H1 : Heap} (h : xG cs A U H) (hq : ∀ a : Nat, a < H.size → ¬ A a → H1[a]? = H[a]?) : xG cs A U H1 :=
  ⟨h.1, h.2.1.kept hq, h.2.2.1.kept hq, h.2.2.2.1.kept hq, h.2.2.2.2.1.kept hq, h.2.2.2.2.2.1.kept hq, h.2.2.2.2.2.2⟩
theorem xG.narrow {cs : xE} {A B : Nat → Prop} {U : State} {H : Heap} (h : xG cs A U H) (hAB : ∀ q, B q → A q) : xG cs B U H :=
  ⟨h.1, h.2.1.narrow hAB, h.2.2.1.narrow hAB, h.2.2.2.1.narrow hAB, h.2.2.2.2.1.narrow hAB, h.2.2.2.2.2.1.narrow hAB, h.2.2.2.2.2.2⟩
def tyL (cs : xE) : List (ClassId × FieldType) := [(cs.1 0, .int), (cs.1 1, .byte), (cs.1 2, .object "TwinLamps$Town"), (cs.1 3, .array .int), (cs.1 4, .object "java/lang/String"), (cs.1 5, .long)]
def mP (D : va_G) (cs : xE) (w : va_W) (sz : Nat) : State → Prop := fun U => U.heap.size = sz ∧ va_P D vwCl w U.heap ∧ va_K D vwCl (tyL cs) U ∧ va_D (fun _ => True) w ∧ xG cs (va_A w sz) U U.heap
def mB (D : va_G) (cs : xE) (w : va_W) (A : Nat → Prop) : State → Prop := fun t => va_P D vwCl w t.heap ∧ va_K D vwCl (tyL cs) t ∧ va_D A w
/-- ends: an int v, and the world w; nothing, and the world w -/
def qI (D : va_G) (cs : xE) (v : Int32) (w : va_W) (A : Nat → Prop) : Array Value → State → Outcome → State → Prop := va_Qi (fun r (_ : Unit) => r = v) (fun _ => mB D cs w A) A
def qV (D : va_G) (cs : xE) (w : va_W) (A : Nat → Prop) : Array Value → State → Outcome → State → Prop := va_Qv (fun (_ : Unit) => True) (fun _ => mB D cs w A) A
def qR (D : va_G) (cs : xE) (a : Nat) (w : va_W) (A : Nat → Prop) : Array Value → State → Outcome → State → Prop := va_Qr (fun (_ : Unit) => True) (fun _ ra t => ra = a ∧ mB D cs w A t) A
theorem mP_blind (As : List Value) (D : va_G) (cs : xE) (w : va_W) (sz : Nat) : FrameBlind (va_Pc As (mP D cs w sz)) := by
  intro a U g mk q
  obtain ⟨q0, q1, q2, q3, q4, q5⟩ := q
  exact ⟨q0, q1, q2, va_K.moved (u := U) (U := U.calling g mk a) (Vm.Alike.refl U.vm) q3, q4, (show xG cs (va_A w sz) (U.calling g mk a) U.heap from xG.same (u := U) rfl q5)⟩
theorem mgo {l : Launch} {y : MethodName} {ws ws' : List Cond} {fr lo : Nat} {As : List Value} {D : va_G} {cs : xE} {w : va_W} {sz : Nat} {Qc : (Nat → Prop) → Array Value → State → Outcome → State → Prop} {cc : ByteArray} {maxL : Nat} {ret : Option FieldType}
    (hy : plainName y.cls = true) (hw : ws = Cond.code y cc maxL ret :: ws') (hn : (lg_sl As).length ≤ maxL)
    (body : ∀ (p : Program) (e : Env) (s : State) (m : MethodId) (below : List Frame) (meth : Method) (c : Code) (ls : Array Slot) (A : Nat → Prop) (R : Room) (Q : State → Prop) (args : Array Value) (H : Heap), R = { frames := fr, cells := 0, slots := 0, locals := lo } → Q = MQ below (Qc A) args s 0 0 A → p.tables.exec = Jvm.exec → c.code = cc → c.maxLocals = maxL → meth.sig.returnType = ret → meth.locks = false → s.vm.findClass y.cls = some m.cls → (∀ w ∈ ws, w.before args s = true) → va_P D vwCl w H → va_K D vwCl (tyL cs) s → va_D A w → (∀ q : Nat, s.heap.size ≤ q → A q) → va_S A s.heap H [] → xG cs A s s.heap → lv_has ls maxL (lv_args 0 As) →
      W p l e R s m args below meth c H [] 0 0 Q (F0 m 0 ls [])) :
    Met l y ws { frames := fr, cells := 0, slots := 0, locals := lo } (va_Pc As (mP D cs w sz)) (Qc (va_A w sz)) 0 0 (va_A w sz) := by
  refine Met.ofW (cc := cc) (maxL := maxL) (ret := ret) hy hw ?_
  intro p e s m args below meth c s₁ B hml hv
  obtain ⟨rfl, hsz, hP, hK, hD0, hG⟩ := hv
  subst hsz
  rw [lg_entry_eq]
  exact body p e s m below meth c _ (va_A w s.heap.size) _ _ _ _ rfl rfl B.exec B.bytes hml B.returns B.notSynchronized (findClass_of_methodNamed B.named) (atoms_spec (ws := ws) B.pre) hP hK hD0.self (fun q h => Or.inr h) va_S.rf hG (lv_entry As hn)
section MR
variable {p : Program} {l : Launch} {e : Env} {R : Room} {s : State} {m : MethodId} {args : Array Value} {below : List Frame} {meth : Method} {c : Code} {H : Heap} {locs : List Loc} {cells slots : Nat} {Q : State → Prop}
variable {D : va_G} {cs : xE} {w ws wc w1 wr wn : va_W} {A : Nat → Prop} {cc : ByteArray} {pc : Nat} {ls : Array Slot}
theorem mretI (hx : p.tables.exec = Jvm.exec) (hb : c.code = cc) (hr : meth.sig.returnType = some .int) (hlocks : meth.locks = false) (hK : va_K D vwCl (tyL cs) s) (hP : va_P D vwCl w H) (hD : va_D A w) (hS : va_S A s.heap H locs) {v v' : Int32} (hv : v = v') (hQ : Q = MQ below (qI D cs v' w A) args s cells slots A) (hdg : decode cc pc = .ok (.ireturn, 1)) :
    W p l e R s m args below meth c H locs cells slots Q (F0 m pc ls [.int v]) := by
  subst hQ
  exact W.iret hx hb hr (fun _ ht hW => ⟨⟨v, (), rfl, hv, by rw [ht]; exact hP, va_K.moved hW.alike hK, hD⟩, hS.F ht⟩) hS.2.2 hdg
theorem mretZ (hx : p.tables.exec = Jvm.exec) (hb : c.code = cc) (hr : meth.sig.returnType = some .boolean) (hlocks : meth.locks = false) (hK : va_K D vwCl (tyL cs) s) (hP : va_P D vwCl w H) (hD : va_D A w) (hS : va_S A s.heap H locs) {v : Int32} {b : Bool} (hv : v = zB b) (hQ : Q = MQ below (qI D cs (zB b) w A) args s cells slots A) (hdg : decode cc pc = .ok (.ireturn, 1)) :
    W p l e R s m args below meth c H locs cells slots Q (F0 m pc ls [.int v]) := by
  subst hQ
  exact W.zret hx hb hr (by rw [hv]; exact zB_nar b) (fun _ ht hW => ⟨⟨v, (), rfl, hv, by rw [ht]; exact hP, va_K.moved hW.alike hK, hD⟩, hS.F ht⟩) hS.2.2 hdg
theorem mretV (hx : p.tables.exec = Jvm.exec) (hb : c.code = cc) (hr : meth.sig.returnType = none) (hlocks : meth.locks = false) (hK : va_K D vwCl (tyL cs) s) (hP : va_P D vwCl w H) (hD : va_D A w) (hS : va_S A s.heap H locs) (hQ : Q = MQ below (qV D cs w A) args s cells slots A) (hdg : decode cc pc = .ok (.return_, 1)) :
    W p l e R s m args below meth c H locs cells slots Q (F0 m pc ls []) := by
  subst hQ
  exact W.vret hx hb hr (fun _ ht hW => ⟨⟨(), rfl, trivial, by rw [ht]; exact hP, va_K.moved hW.alike hK, hD⟩, hS.F ht⟩) hS.2.2 hdg
/-! worlds as lists of blocks -/
theorem vaP_iff {ws : va_W} : va_P D vwCl ws H ↔ ∀ q ∈ ws, va_at D vwCl q H :=
  ⟨fun h q hq => by obtain ⟨k, hk⟩ := List.getElem?_of_mem hq; exact h k q hk, fun h _ q hk => h q (List.mem_of_getElem? hk)⟩
theorem vaD_iff {ws : va_W} : va_D A ws ↔ (ws.map Prod.fst).Nodup ∧ ∀ q ∈ ws, A q.1 := by
  rw [List.nodup_iff_pairwise_ne, List.pairwise_map, List.pairwise_iff_getElem]
  constructor
  · intro h
    refine ⟨fun i j hi hj hij he => ?_, fun q hq => by obtain ⟨k, hk⟩ := List.getElem?_of_mem hq; exact h.2 k q hk⟩
    have := h.1 i j ws[i] ws[j] (List.getElem?_eq_getElem hi) (List.getElem?_eq_getElem hj) he
    omega
  · intro h
    refine ⟨fun i j p q hi hj he => ?_, fun k q hk => h.2 q (List.mem_of_getElem? hk)⟩
    obtain ⟨hi1, hi2⟩ := List.getElem?_eq_some_iff.mp hi
    obtain ⟨hj1, hj2⟩ := List.getElem?_eq_some_iff.mp hj
    rcases Nat.lt_trichotomy i j with h1 | h1 | h1
    · exact absurd (by rw [hi2, hj2]; exact he) (h.1 i j hi1 hj1 h1)
    · exact h1
    · exact absurd (by rw [hi2, hj2]; exact he.symm) (h.1 j i hj1 hi1 h1)
theorem vaP_perm {w1 w2 : va_W} (h : w1.Perm w2) (hP : va_P D vwCl w1 H) : va_P D vwCl w2 H := vaP_iff.mpr fun q hq => vaP_iff.mp hP q (h.mem_iff.mpr hq)
theorem vaD_perm {w1 w2 : va_W} (h : w1.Perm w2) (hD : va_D A w1) : va_D A w2 := by
  rw [vaD_iff] at hD ⊢
  exact ⟨(h.map _).nodup hD.1, fun q hq => hD.2 q (h.mem_iff.mpr hq)⟩
theorem perm_split {α : Type} : ∀ (l : List α) (k : Nat) (x : α), l[k]? = some x → ∃ R, l.Perm (x :: R) ∧ ∀ x', (l.set k x').Perm (x' :: R)
  | [], k, x, h => by simp at h
  | a :: l, 0, x, h => by
    simp at h
    subst h
    exact ⟨l, List.Perm.refl _, fun x' => List.Perm.refl _⟩
  | a :: l, k + 1, x, h => by
    simp at h
    obtain ⟨R, h1, h2⟩ := perm_split l k x h
    refine ⟨a :: R, ?_, fun x' => ?_⟩
    · exact (h1.cons a).trans (List.Perm.swap x a R)
    · exact ((h2 x').cons a).trans (List.Perm.swap x' a R)
theorem flat_split {Bs : List va_W} {i j : Nat} {B : va_W} {x : Nat × va_E} (hB : Bs[i]? = some B) (hx : B[j]? = some x) : ∃ R, Bs.flatten.Perm (x :: R) ∧ ∀ x', (Bs.set i (B.set j x')).flatten.Perm (x' :: R) := by
  obtain ⟨R1, h1, h2⟩ := perm_split B j x hx
  obtain ⟨R2, h3, h4⟩ := perm_split Bs i B hB
  refine ⟨R1 ++ R2.flatten, ?_, fun x' => ?_⟩
  · refine h3.flatten.trans ?_
    rw [List.flatten_cons]
    exact h1.append_right _
  · refine (h4 (B.set j x')).flatten.trans ?_
    rw [List.flatten_cons]
    exact (h2 x').append_right _
theorem flat_mem {Bs : List va_W} {i j : Nat} {B : va_W} {x : Nat × va_E} (hB : Bs[i]? = some B) (hx : B[j]? = some x) : x ∈ Bs.flatten := List.mem_flatten.mpr ⟨B, List.mem_of_getElem? hB, List.mem_of_getElem? hx⟩
variable {Bs Bn Br Bc B1 : List va_W} {Bb Bb' : va_W} {i0 j0 : Nat}
theorem gfB {a ci k N index : Nat} {own C : String} {T : u_T} {fs : List Value} {v : Value} {rest : List Value} (hx : p.tables.exec = Jvm.exec) (hb : c.code = cc) (hT : ∀ w ∈ u_ws C T N, w.before args s = true) (hown : s.vm.findClass own = some m.cls) (hK : va_K D vwCl (tyL cs) s) (hP : va_P D vwCl Bs.flatten H) (hB : Bs[i0]? = some Bb) (he : Bb[0]? = some (a, .inr (ci, fs))) (hc : vwCl[ci]? = some (C, T, N)) (hk : k < N) (hlink : (Cond.fieldLink own index (T k).1 (T k).2.1 (T k).2.2.1).before args s = true) (hv : fs[k]? = some v) (hdg : decode cc pc = .ok (.getfield index, 3))
    (kk : W p l e R s m args below meth c H locs cells slots Q (F0 m (pc + 3) ls (v :: rest))) : W p l e R s m args below meth c H locs cells slots Q (F0 m pc ls (.ref a :: rest)) := by
  obtain ⟨q0, hq⟩ := List.getElem?_of_mem (flat_mem hB he)
  exact va_get (C := C) (T := T) (N := N) hx hb hT (fun _ h => h) hown hK hP q0 hq hc k hk hlink (fun _ h => h) hv hdg kk
theorem pfB {a ci k N index : Nat} {own C : String} {T : u_T} {fs : List Value} {v : Value} {rest : List Value} (ty0 : Nat → FieldType) (hty : ∀ k, k < N → parseFieldDescriptor (T k).2.2.1 = some (ty0 k)) (hnm : ∀ a, a < N → ∀ b, b < N → a ≠ b → (T a).2.1 ≠ (T b).2.1) (hx : p.tables.exec = Jvm.exec) (hb : c.code = cc) (hT : ∀ w ∈ u_ws C T N, w.before args s = true) (hown : s.vm.findClass own = some m.cls) (hK : va_K D vwCl (tyL cs) s) (hP : va_P D vwCl Bs.flatten H) (hD : va_D A Bs.flatten) (hS : va_S A s.heap H locs) (hB : Bs[i0]? = some Bb) (he : Bb[0]? = some (a, .inr (ci, fs))) (hc : vwCl[ci]? = some (C, T, N)) (hk : k < N) (hlink : (Cond.fieldLink own index (T k).1 (T k).2.1 (T k).2.2.1).before args s = true) (hfin : (T k).2.2.2 = false) (hn : narrow (ty0 k) v = v) (hfit : fits (ty0 k) v = true) (hl : k < fs.length) (hdg : decode cc pc = .ok (.putfield index, 3))
    (hw : Bb.set 0 (a, .inr (ci, fs.set k v)) = Bb') (hn2 : Bs.set i0 Bb' = Bn)
    (kk : ∀ (H1 : Heap) (locs1 : List Loc), va_P D vwCl Bn.flatten H1 → va_D A Bn.flatten → va_S A s.heap H1 locs1 → W p l e R s m args below meth c H1 locs1 cells slots Q (F0 m (pc + 3) ls rest)) : W p l e R s m args below meth c H locs cells slots Q (F0 m pc ls (v :: .ref a :: rest)) := by
  subst hw; subst hn2
  obtain ⟨R0, h1, h2⟩ := flat_split hB he
  refine va_put (C := C) (T := T) (N := N) (ty := ty0 k) hx hb hT (fun _ h => h) ty0 hty hnm hown hK (vaP_perm h1 hP) (vaD_perm h1 hD) hS 0 rfl hc k hk hlink (fun _ h => h) hfin (hty k hk) hn hfit hl hdg (fun H1 locs1 g1 g2 g3 => kk H1 locs1 (vaP_perm (h2 _).symm g1) (vaD_perm (h2 _).symm g2) g3)
theorem aldB {a n : Nat} {f : Nat → Int32} {i : Int32} {rest : List Value} (hx : p.tables.exec = Jvm.exec) (hb : c.code = cc) (hK : va_K D vwCl (tyL cs) s) (hP : va_P D vwCl Bs.flatten H) (hB : Bs[i0]? = some Bb) (ha : Bb[j0]? = some (a, .inl (cs.1 0, n, .inl f))) (hin : vp_in i n) (hdg : decode cc pc = .ok (.iaload, 1))
    (kk : W p l e R s m args below meth c H locs cells slots Q (F0 m (pc + 1) ls (.int (f i.toNatClampNeg) :: rest))) : W p l e R s m args below meth c H locs cells slots Q (F0 m pc ls (.int i :: .ref a :: rest)) := by
  obtain ⟨q0, hq⟩ := List.getElem?_of_mem (flat_mem hB ha)
  exact va_iald hx hb hK hP q0 0 hq rfl hin hdg kk
theorem bldB {a n : Nat} {f : Nat → Int32} {i : Int32} {rest : List Value} (hx : p.tables.exec = Jvm.exec) (hb : c.code = cc) (hK : va_K D vwCl (tyL cs) s) (hP : va_P D vwCl Bs.flatten H) (hB : Bs[i0]? = some Bb) (ha : Bb[j0]? = some (a, .inl (cs.1 1, n, .inl f))) (hin : vp_in i n) (hdg : decode cc pc = .ok (.baload, 1))
    (kk : W p l e R s m args below meth c H locs cells slots Q (F0 m (pc + 1) ls (.int (f i.toNatClampNeg) :: rest))) : W p l e R s m args below meth c H locs cells slots Q (F0 m pc ls (.int i :: .ref a :: rest)) := by
  obtain ⟨q0, hq⟩ := List.getElem?_of_mem (flat_mem hB ha)
  exact va_bald hx hb hK hP q0 1 hq rfl hin hdg kk
theorem qldB {a n : Nat} {f : Nat → Option Nat} {i : Int32} {rest : List Value} {C : String} (t0 : Nat) (ht0 : (tyL cs)[t0]? = some (cs.1 t0, .object C)) (hx : p.tables.exec = Jvm.exec) (hb : c.code = cc) (hK : va_K D vwCl (tyL cs) s) (hP : va_P D vwCl Bs.flatten H) (hB : Bs[i0]? = some Bb) (ha : Bb[j0]? = some (a, .inl (cs.1 t0, n, .inr (.inr (.inr (.inr f)))))) (hin : vp_in i n) (hdg : decode cc pc = .ok (.aaload, 1))
    (kk : W p l e R s m args below meth c H locs cells slots Q (F0 m (pc + 1) ls (va_rf (f i.toNatClampNeg) :: rest))) : W p l e R s m args below meth c H locs cells slots Q (F0 m pc ls (.int i :: .ref a :: rest)) := by
  obtain ⟨q0, hq⟩ := List.getElem?_of_mem (flat_mem hB ha)
  exact va_aldq hx hb hK hP q0 t0 hq ht0 hin hdg kk
theorem qldG {a n : Nat} {f : Nat → Option Nat} {i : Int32} {rest : List Value} (hx : p.tables.exec = Jvm.exec) (hb : c.code = cc) (hK : va_K D vwCl (tyL cs) s) (hP : va_P D vwCl Bs.flatten H) (hB : Bs[i0]? = some Bb) (ha : Bb[j0]? = some (a, .inl (cs.1 3, n, .inr (.inr (.inr (.inr f)))))) (hin : vp_in i n) (hdg : decode cc pc = .ok (.aaload, 1))
    (kk : W p l e R s m args below meth c H locs cells slots Q (F0 m (pc + 1) ls (va_rf (f i.toNatClampNeg) :: rest))) : W p l e R s m args below meth c H locs cells slots Q (F0 m pc ls (.int i :: .ref a :: rest)) := by
  obtain ⟨q0, hq⟩ := List.getElem?_of_mem (flat_mem hB ha)
  have hlt : i.toNatClampNeg < n := Nat.not_le.mp fun q => hin (Or.inr q)
  exact W.aald (v := va_rf (f i.toNatClampNeg)) (ty := .array .int) hx hb (hP q0 _ hq) ((hK.2 3 (cs.1 3, .array .int) rfl).1 n (fun j => va_rf (f j))) rfl (fun q => by cases q) (by show ¬ (i < 0 ∨ (arrV _ _ _).slots.size ≤ _); rw [arrV_size]; exact hin) (by show (arrV _ _ _).slots[_]? = _; rw [arrV_read _ _ hlt]) rfl rfl hdg kk
theorem alnB {a n : Nat} {x : (Nat → Int32) ⊕ (Nat → Int64) ⊕ (Nat → UInt32) ⊕ (Nat → UInt64) ⊕ (Nat → Option Nat)} {v : Int32} {ty : FieldType} {rest : List Value} (t0 : Nat) (hx : p.tables.exec = Jvm.exec) (hb : c.code = cc) (hK : va_K D vwCl (tyL cs) s) (hP : va_P D vwCl Bs.flatten H) (hB : Bs[i0]? = some Bb) (ha : Bb[j0]? = some (a, .inl (cs.1 t0, n, x))) (ht0 : (tyL cs)[t0]? = some (cs.1 t0, ty)) (hv : Int32.ofNat n = v) (hdg : decode cc pc = .ok (.arraylength, 1))
    (kk : W p l e R s m args below meth c H locs cells slots Q (F0 m (pc + 1) ls (.int v :: rest))) : W p l e R s m args below meth c H locs cells slots Q (F0 m pc ls (.ref a :: rest)) := by
  obtain ⟨q0, hq⟩ := List.getElem?_of_mem (flat_mem hB ha)
  exact va_alen hx hb hK hP q0 t0 hq ht0 hv hdg kk
theorem astB {a n : Nat} {f f' : Nat → Int32} {i x : Int32} {rest : List Value} (hx : p.tables.exec = Jvm.exec) (hb : c.code = cc) (hK : va_K D vwCl (tyL cs) s) (hP : va_P D vwCl Bs.flatten H) (hD : va_D A Bs.flatten) (hS : va_S A s.heap H locs) (hB : Bs[i0]? = some Bb) (ha : Bb[j0]? = some (a, .inl (cs.1 0, n, .inl f))) (hin : vp_in i n) (hf : upd f i.toNatClampNeg x = f') (hdg : decode cc pc = .ok (.iastore, 1))
    (hw : Bb.set j0 (a, .inl (cs.1 0, n, .inl f')) = Bb') (hn2 : Bs.set i0 Bb' = Bn)
    (kk : ∀ (H1 : Heap) (locs1 : List Loc), va_P D vwCl Bn.flatten H1 → va_D A Bn.flatten → va_S A s.heap H1 locs1 → W p l e R s m args below meth c H1 locs1 cells slots Q (F0 m (pc + 1) ls rest)) : W p l e R s m args below meth c H locs cells slots Q (F0 m pc ls (.int x :: .int i :: .ref a :: rest)) := by
  subst hf; subst hw; subst hn2
  obtain ⟨R0, h1, h2⟩ := flat_split hB ha
  exact va_iast hx hb hK (vaP_perm h1 hP) (vaD_perm h1 hD) hS 0 0 rfl rfl hin hdg (fun H1 locs1 g1 g2 g3 => kk H1 locs1 (vaP_perm (h2 _).symm g1) (vaD_perm (h2 _).symm g2) g3)
theorem bstB {a n : Nat} {f f' : Nat → Int32} {i x : Int32} {rest : List Value} (hx : p.tables.exec = Jvm.exec) (hb : c.code = cc) (hK : va_K D vwCl (tyL cs) s) (hP : va_P D vwCl Bs.flatten H) (hD : va_D A Bs.flatten) (hS : va_S A s.heap H locs) (hB : Bs[i0]? = some Bb) (ha : Bb[j0]? = some (a, .inl (cs.1 1, n, .inl f))) (hin : vp_in i n) (hf : upd f i.toNatClampNeg (vp_nar .byte x) = f') (hdg : decode cc pc = .ok (.bastore, 1))
    (hw : Bb.set j0 (a, .inl (cs.1 1, n, .inl f')) = Bb') (hn2 : Bs.set i0 Bb' = Bn)
    (kk : ∀ (H1 : Heap) (locs1 : List Loc), va_P D vwCl Bn.flatten H1 → va_D A Bn.flatten → va_S A s.heap H1 locs1 → W p l e R s m args below meth c H1 locs1 cells slots Q (F0 m (pc + 1) ls rest)) : W p l e R s m args below meth c H locs cells slots Q (F0 m pc ls (.int x :: .int i :: .ref a :: rest)) := by
  subst hf; subst hw; subst hn2
  obtain ⟨R0, h1, h2⟩ := flat_split hB ha
  exact va_bast hx hb hK (vaP_perm h1 hP) (vaD_perm h1 hD) hS 0 1 rfl rfl hin hdg (fun H1 locs1 g1 g2 g3 => kk H1 locs1 (vaP_perm (h2 _).symm g1) (vaD_perm (h2 _).symm g2) g3)
theorem cpyB {a a0 n0 n1 i1 j1 index : Nat} {f g g' : Nat → Int32} {own : String} {n : Int32} {rest : List Value} {B0 : va_W} (hx : p.tables.exec = Jvm.exec) (hb : c.code = cc) (hml : c.maxLocals = ls.size) (hown : s.vm.findClass own = some m.cls) (hlink : (Cond.methodLink own index arraycopyName).before args s = true) (hnat : (Cond.native arraycopyName).before args s = true) (hstat : (Cond.static arraycopyName).before args s = true) (hini : (Cond.initialized "java/lang/System").before args s = true)
    (hK : va_K D vwCl (tyL cs) s) (hP : va_P D vwCl Bs.flatten H) (hD : va_D A Bs.flatten) (hS : va_S A s.heap H locs) (hB0 : Bs[i1]? = some B0) (ha0 : B0[j1]? = some (a0, .inl (cs.1 0, n0, .inl f))) (hB : Bs[i0]? = some Bb) (ha : Bb[j0]? = some (a, .inl (cs.1 0, n1, .inl g))) (h3 : ¬ n < 0) (h4 : 0 + n.toNatClampNeg ≤ n0) (h5 : 0 + n.toNatClampNeg ≤ n1) (hframes : 1 ≤ R.frames) (hlocals : (rest.map fun v => v.category).sum + (nativeFrameWords "java/lang/System" "arraycopy" 5 + 11) ≤ R.locals) (hf : va_cpy f g 0 0 n.toNatClampNeg = g') (hdg : decode cc pc = .ok (.invokestatic index, 3))
    (hw : Bb.set j0 (a, .inl (cs.1 0, n1, .inl g')) = Bb') (hn2 : Bs.set i0 Bb' = Bn)
    (kk : ∀ (H1 : Heap) (locs1 : List Loc), va_P D vwCl Bn.flatten H1 → va_D A Bn.flatten → va_S A s.heap H1 locs1 → W p l e R s m args below meth c H1 locs1 cells slots Q (F0 m (pc + 3) ls rest)) : W p l e R s m args below meth c H locs cells slots Q (F0 m pc ls (.int n :: .int 0 :: .ref a :: .int 0 :: .ref a0 :: rest)) := by
  subst hf; subst hw; subst hn2
  obtain ⟨R0, h1, h2⟩ := flat_split hB ha
  obtain ⟨q0, hq⟩ := List.getElem?_of_mem (h1.mem_iff.mp (flat_mem hB0 ha0))
  exact va_copyi hx hb hml hown hlink hnat hstat hini hK (vaP_perm h1 hP) (vaD_perm h1 hD) hS q0 0 0 0 (ty := .int) hq rfl rfl rfl rfl (by decide) (by decide) h3 h4 h5 (fun i _ => rfl) hframes hlocals hdg (fun H1 locs1 g1 g2 g3 => kk H1 locs1 (vaP_perm (h2 _).symm g1) (vaD_perm (h2 _).symm g2) g3)
/-! calls: the callee's blocks Bc among the caller's Bs, B1 behind it -/
def bPick (is : List Nat) (l : List va_W) : List va_W := is.filterMap (fun i => l[i]?)
theorem bPick_from : ∀ (l pre : List va_W), (List.range' pre.length l.length).filterMap (fun i => (pre ++ l)[i]?) = l
  | [], pre => rfl
  | a :: l, pre => by
    rw [List.length_cons, List.range'_succ, List.filterMap_cons]
    have h1 : (pre ++ a :: l)[pre.length]? = some a := by simp
    rw [h1]
    simp only
    have h2 := bPick_from l (pre ++ [a])
    rw [List.length_append, List.append_assoc] at h2
    exact congrArg (fun z => a :: z) h2
theorem bPick_range (l : List va_W) : bPick (List.range l.length) l = l := by
  unfold bPick
  rw [List.range_eq_range']
  exact bPick_from l []
theorem bPerm {is : List Nat} {l : List va_W} (h : is.Perm (List.range l.length)) : (bPick is l).Perm l := by
  have := h.filterMap (fun i => l[i]?)
  have e := bPick_range l
  unfold bPick at e ⊢
  rw [e] at this
  exact this
theorem bSplit {isR isC : List Nat} (h : (isR ++ isC).Perm (List.range Bs.length)) (hR : bPick isR Bs = Br) (hC : bPick isC Bs = Bc) : Bs.flatten.Perm (Br.flatten ++ Bc.flatten) := by
  have := (bPerm h).flatten
  unfold bPick at this hR hC
  rw [List.filterMap_append, hR, hC, List.flatten_append] at this
  exact this.symm
theorem bPre (hP : va_P D vwCl Bs.flatten H) (hD : va_D A Bs.flatten) (hS : va_S A s.heap H locs) (hA : ∀ q : Nat, s.heap.size ≤ q → A q) {wr wc : va_W} (h : Bs.flatten.Perm (wr ++ wc)) : va_P D vwCl wc H ∧ va_D (fun _ => True) wc ∧ ∀ q, va_A wc H.size q → A q := by
  have hP := vaP_perm h hP
  have hD := vaD_perm h hD
  rw [vaP_iff] at hP
  rw [vaD_iff, List.map_append, List.nodup_append] at hD
  refine ⟨vaP_iff.mpr fun q hq => hP q (List.mem_append_right _ hq), vaD_iff.mpr ⟨hD.1.2.1, fun _ _ => trivial⟩, fun q hq => ?_⟩
  rcases hq with ⟨k, e, hk⟩ | hq
  · exact hD.2 (q, e) (List.mem_append_right _ (List.mem_of_getElem? hk))
  · exact hA q (Nat.le_trans hS.1 hq)
theorem bJoin {H1 : Heap} {t : State} {wr wc w1 wn : va_W} (hP : va_P D vwCl Bs.flatten H) (hD : va_D A Bs.flatten) (hS : va_S A s.heap H locs) (hA : ∀ q : Nat, s.heap.size ≤ q → A q) (h : Bs.flatten.Perm (wr ++ wc)) (h2 : wn.Perm (wr ++ w1)) (ht : t.heap = H1) (hB : mB D cs w1 (va_A wc H.size) t) (hk1 : ∀ q : Nat, q < H.size → ¬ va_A wc H.size q → H1[q]? = H[q]?) : va_P D vwCl wn H1 ∧ va_D A wn := by
  obtain ⟨hP1, -, hD1⟩ := hB
  rw [ht] at hP1
  obtain ⟨-, -, hF⟩ := bPre hP hD hS hA h
  have hP := vaP_perm h hP
  have hD := vaD_perm h hD
  have hlt : ∀ q ∈ wr ++ wc, q.1 < H.size := fun q hq => (vaP_iff.mp hP q hq).lt
  rw [vaP_iff] at hP hP1
  rw [vaD_iff] at hD hD1
  rw [List.map_append, List.nodup_append] at hD
  have hout : ∀ q ∈ wr, ¬ va_A wc H.size q.1 := by
    intro q hq hz
    rcases hz with ⟨k, e, hk⟩ | hz
    · exact hD.1.2.2 q.1 (List.mem_map.mpr ⟨q, hq, rfl⟩) q.1 (List.mem_map.mpr ⟨(q.1, e), List.mem_of_getElem? hk, rfl⟩) rfl
    · have := hlt q (List.mem_append_left _ hq); omega
  refine ⟨vaP_perm h2.symm (vaP_iff.mpr fun q hq => ?_), vaD_perm h2.symm (vaD_iff.mpr ⟨?_, fun q hq => ?_⟩)⟩
  · rcases List.mem_append.mp hq with hq | hq
    · exact (hP q (List.mem_append_left _ hq)).kept (hk1 q.1 (hlt q (List.mem_append_left _ hq)) (hout q hq))
    · exact hP1 q hq
  · rw [List.map_append, List.nodup_append]
    refine ⟨hD.1.1, hD1.1, fun x hx y hy hxy => ?_⟩
    obtain ⟨qx, hqx, rfl⟩ := List.mem_map.mp hx
    obtain ⟨qy, hqy, rfl⟩ := List.mem_map.mp hy
    exact hout qx hqx (by rw [hxy]; exact hD1.2 qy hqy)
  · rcases List.mem_append.mp hq with hq | hq
    · exact hD.2 q (List.mem_append_left _ hq)
    · exact hF _ (hD1.2 q hq)
variable {y : MethodName} {bytes : ByteArray} {maxL nL n index : Nat} {ret : Option FieldType} {wsM Ts : List Cond} {rm : Room} {own C : String} {b : Addr} {As rest st : List Value}
theorem mcVi {v : Int32} {isR isC : List Nat} (S : CallFix p m c cc nL s args Ts own) (hK : va_K D vwCl (tyL cs) s) (hP : va_P D vwCl Bs.flatten H) (hD : va_D A Bs.flatten) (hS : va_S A s.heap H locs) (hA : ∀ q : Nat, s.heap.size ≤ q → A q) (hG : xG cs A s s.heap)
    (hM : Met l y wsM rm (va_Pc (.ref b :: As) (mP D cs Bc.flatten H.size)) (qI D cs v B1.flatten (va_A Bc.flatten H.size)) 0 0 (va_A Bc.flatten H.size)) (cw : CallW R s args own C index y bytes maxL ret wsM rm 0 0 n)
    (nB : Nat) (hp0 : (isR ++ isC).Perm (List.range nB)) (hn1 : Bs.length = nB) (hn2 : Bn.length = nB) (hR1 : bPick isR Bs = Br) (hC1 : bPick isC Bs = Bc) (hR2 : bPick isR Bn = Br) (hC2 : bPick isC Bn = B1)
    {ci : Nat} {q : vw_C} {fs : List Value} (hB : Bs[i0]? = some Bb) (he : Bb[0]? = some (b, .inr (ci, fs))) (hc : vwCl[ci]? = some q) (hq : q.1 = C)
    (hAs : As.length = n) (hls : ls.size = nL) (hst : st = As.reverse ++ .ref b :: rest) (hW : (rest.map fun v => v.category).sum ≤ 8) (hcell : cells ≤ R.cells ∧ slots ≤ R.slots) (hdg : decode cc pc = .ok (.invokevirtual index, 3))
    (kk : ∀ (H1 : Heap) (locs1 : List Loc), va_P D vwCl Bn.flatten H1 → va_D A Bn.flatten → va_S A s.heap H1 locs1 → W p l e R s m args below meth c H1 locs1 cells slots Q (F0 m (pc + 3) ls (.int v :: rest))) :
    W p l e R s m args below meth c H locs cells slots Q (F0 m pc ls st) := by
  have hs1 := bSplit (by rw [hn1]; exact hp0) hR1 hC1
  have hs2 := bSplit (by rw [hn2]; exact hp0) hR2 hC2
  obtain ⟨hPc, hDc, hF⟩ := bPre hP hD hS hA hs1
  obtain ⟨q0, hq0⟩ := List.getElem?_of_mem (flat_mem hB he)
  refine va_calli (va_runV (As := As) (rest := rest) S hM cw ⟨mP_blind _ _ _ _ _, by have h := va_recv hK hP hc hq0; rw [hq] at h; exact h, fun U hU hW => ⟨rfl, by rw [hU], by rw [hU]; exact hPc, va_K.moved hW.alike hK, hDc, by rw [hU]; exact xG.warm hW ((hG.kept hS.2.1).narrow hF)⟩⟩ rfl hAs hls hst (lv_room hW) hdg hcell) hS (fun q _ h => hF q h) hF (fun r u t H1 locs1 ht hvm hw hB hz1 hk1 hS1 => ?_)
  subst hw
  obtain ⟨g1, g2⟩ := bJoin hP hD hS hA hs1 hs2 ht hB hk1
  exact kk H1 locs1 g1 g2 hS1
theorem mcVv {isR isC : List Nat} (S : CallFix p m c cc nL s args Ts own) (hK : va_K D vwCl (tyL cs) s) (hP : va_P D vwCl Bs.flatten H) (hD : va_D A Bs.flatten) (hS : va_S A s.heap H locs) (hA : ∀ q : Nat, s.heap.size ≤ q → A q) (hG : xG cs A s s.heap)
    (hM : Met l y wsM rm (va_Pc (.ref b :: As) (mP D cs Bc.flatten H.size)) (qV D cs B1.flatten (va_A Bc.flatten H.size)) 0 0 (va_A Bc.flatten H.size)) (cw : CallW R s args own C index y bytes maxL ret wsM rm 0 0 n)
    (nB : Nat) (hp0 : (isR ++ isC).Perm (List.range nB)) (hn1 : Bs.length = nB) (hn2 : Bn.length = nB) (hR1 : bPick isR Bs = Br) (hC1 : bPick isC Bs = Bc) (hR2 : bPick isR Bn = Br) (hC2 : bPick isC Bn = B1)
    {ci : Nat} {q : vw_C} {fs : List Value} (hB : Bs[i0]? = some Bb) (he : Bb[0]? = some (b, .inr (ci, fs))) (hc : vwCl[ci]? = some q) (hq : q.1 = C)
    (hAs : As.length = n) (hls : ls.size = nL) (hst : st = As.reverse ++ .ref b :: rest) (hW : (rest.map fun v => v.category).sum ≤ 8) (hcell : cells ≤ R.cells ∧ slots ≤ R.slots) (hdg : decode cc pc = .ok (.invokevirtual index, 3))
    (kk : ∀ (H1 : Heap) (locs1 : List Loc), va_P D vwCl Bn.flatten H1 → va_D A Bn.flatten → va_S A s.heap H1 locs1 → W p l e R s m args below meth c H1 locs1 cells slots Q (F0 m (pc + 3) ls rest)) :
    W p l e R s m args below meth c H locs cells slots Q (F0 m pc ls st) := by
  have hs1 := bSplit (by rw [hn1]; exact hp0) hR1 hC1
  have hs2 := bSplit (by rw [hn2]; exact hp0) hR2 hC2
  obtain ⟨hPc, hDc, hF⟩ := bPre hP hD hS hA hs1
  obtain ⟨q0, hq0⟩ := List.getElem?_of_mem (flat_mem hB he)
  refine va_callv (va_runV (As := As) (rest := rest) S hM cw ⟨mP_blind _ _ _ _ _, by have h := va_recv hK hP hc hq0; rw [hq] at h; exact h, fun U hU hW => ⟨rfl, by rw [hU], by rw [hU]; exact hPc, va_K.moved hW.alike hK, hDc, by rw [hU]; exact xG.warm hW ((hG.kept hS.2.1).narrow hF)⟩⟩ rfl hAs hls hst (lv_room hW) hdg hcell) hS (fun q _ h => hF q h) hF (fun u t H1 locs1 ht hvm hw hB hz1 hk1 hS1 => ?_)
  obtain ⟨g1, g2⟩ := bJoin hP hD hS hA hs1 hs2 ht hB hk1
  exact kk H1 locs1 g1 g2 hS1
theorem mcSi {v : Int32} {isR isC : List Nat} (S : CallFix p m c cc nL s args Ts own) (hK : va_K D vwCl (tyL cs) s) (hP : va_P D vwCl Bs.flatten H) (hD : va_D A Bs.flatten) (hS : va_S A s.heap H locs) (hA : ∀ q : Nat, s.heap.size ≤ q → A q) (hG : xG cs A s s.heap)
    (hM : Met l y wsM rm (va_Pc As (mP D cs Bc.flatten H.size)) (qI D cs v B1.flatten (va_A Bc.flatten H.size)) 0 0 (va_A Bc.flatten H.size)) (cw : CallB R s args own index y bytes maxL ret wsM rm 0 0 n ∧ (Cond.static y).before args s = true)
    (nB : Nat) (hp0 : (isR ++ isC).Perm (List.range nB)) (hn1 : Bs.length = nB) (hn2 : Bn.length = nB) (hR1 : bPick isR Bs = Br) (hC1 : bPick isC Bs = Bc) (hR2 : bPick isR Bn = Br) (hC2 : bPick isC Bn = B1)
    (hAs : As.length = n) (hls : ls.size = nL) (hst : st = As.reverse ++ rest) (hW : (rest.map fun v => v.category).sum ≤ 8) (hcell : cells ≤ R.cells ∧ slots ≤ R.slots) (hdg : decode cc pc = .ok (.invokestatic index, 3))
    (kk : ∀ (H1 : Heap) (locs1 : List Loc), va_P D vwCl Bn.flatten H1 → va_D A Bn.flatten → va_S A s.heap H1 locs1 → W p l e R s m args below meth c H1 locs1 cells slots Q (F0 m (pc + 3) ls (.int v :: rest))) :
    W p l e R s m args below meth c H locs cells slots Q (F0 m pc ls st) := by
  have hs1 := bSplit (by rw [hn1]; exact hp0) hR1 hC1
  have hs2 := bSplit (by rw [hn2]; exact hp0) hR2 hC2
  obtain ⟨hPc, hDc, hF⟩ := bPre hP hD hS hA hs1
  refine va_calli (va_runS (As := As) (rest := rest) S hM cw ⟨mP_blind _ _ _ _ _, fun U hU hW => ⟨rfl, by rw [hU], by rw [hU]; exact hPc, va_K.moved hW.alike hK, hDc, by rw [hU]; exact xG.warm hW ((hG.kept hS.2.1).narrow hF)⟩⟩ rfl hAs hls hst (lv_room hW) hdg hcell) hS (fun q _ h => hF q h) hF (fun r u t H1 locs1 ht hvm hw hB hz1 hk1 hS1 => ?_)
  subst hw
  obtain ⟨g1, g2⟩ := bJoin hP hD hS hA hs1 hs2 ht hB hk1
  exact kk H1 locs1 g1 g2 hS1
theorem mcSv {isR isC : List Nat} (S : CallFix p m c cc nL s args Ts own) (hK : va_K D vwCl (tyL cs) s) (hP : va_P D vwCl Bs.flatten H) (hD : va_D A Bs.flatten) (hS : va_S A s.heap H locs) (hA : ∀ q : Nat, s.heap.size ≤ q → A q) (hG : xG cs A s s.heap)
    (hM : Met l y wsM rm (va_Pc As (mP D cs Bc.flatten H.size)) (qV D cs B1.flatten (va_A Bc.flatten H.size)) 0 0 (va_A Bc.flatten H.size)) (cw : CallB R s args own index y bytes maxL ret wsM rm 0 0 n ∧ (Cond.static y).before args s = true)
    (nB : Nat) (hp0 : (isR ++ isC).Perm (List.range nB)) (hn1 : Bs.length = nB) (hn2 : Bn.length = nB) (hR1 : bPick isR Bs = Br) (hC1 : bPick isC Bs = Bc) (hR2 : bPick isR Bn = Br) (hC2 : bPick isC Bn = B1)
    (hAs : As.length = n) (hls : ls.size = nL) (hst : st = As.reverse ++ rest) (hW : (rest.map fun v => v.category).sum ≤ 8) (hcell : cells ≤ R.cells ∧ slots ≤ R.slots) (hdg : decode cc pc = .ok (.invokestatic index, 3))
    (kk : ∀ (H1 : Heap) (locs1 : List Loc), va_P D vwCl Bn.flatten H1 → va_D A Bn.flatten → va_S A s.heap H1 locs1 → W p l e R s m args below meth c H1 locs1 cells slots Q (F0 m (pc + 3) ls rest)) :
    W p l e R s m args below meth c H locs cells slots Q (F0 m pc ls st) := by
  have hs1 := bSplit (by rw [hn1]; exact hp0) hR1 hC1
  have hs2 := bSplit (by rw [hn2]; exact hp0) hR2 hC2
  obtain ⟨hPc, hDc, hF⟩ := bPre hP hD hS hA hs1
  refine va_callv (va_runS (As := As) (rest := rest) S hM cw ⟨mP_blind _ _ _ _ _, fun U hU hW => ⟨rfl, by rw [hU], by rw [hU]; exact hPc, va_K.moved hW.alike hK, hDc, by rw [hU]; exact xG.warm hW ((hG.kept hS.2.1).narrow hF)⟩⟩ rfl hAs hls hst (lv_room hW) hdg hcell) hS (fun q _ h => hF q h) hF (fun u t H1 locs1 ht hvm hw hB hz1 hk1 hS1 => ?_)
  obtain ⟨g1, g2⟩ := bJoin hP hD hS hA hs1 hs2 ht hB hk1
  exact kk H1 locs1 g1 g2 hS1
/-- a callee without cells of its own: every old cell stays -/
theorem keep0 {H1 : Heap} (hP : va_P D vwCl ws H) (hk1 : ∀ q : Nat, q < H.size → ¬ va_A [] H.size q → H1[q]? = H[q]?) : va_P D vwCl ws H1 := fun k q hq =>
  (hP k q hq).kept (hk1 q.1 (hP k q hq).lt (fun h => by
    rcases h with ⟨j, e, h⟩ | h
    · simp at h
    · have := (hP k q hq).lt; omega))
theorem free0 (hS : va_S A s.heap H locs) (hA : ∀ q : Nat, s.heap.size ≤ q → A q) : ∀ q, va_A [] H.size q → A q := by
  intro q h
  rcases h with ⟨j, e, h⟩ | h
  · simp at h
  · exact hA q (Nat.le_trans hS.1 h)
theorem nilP : va_P D vwCl [] H := fun k q h => by simp at h
theorem nilD {B : Nat → Prop} : va_D B [] := ⟨fun i j p q h => by simp at h, fun k q h => by simp at h⟩
theorem mcSi0 {v : Int32} (S : CallFix p m c cc nL s args Ts own) (hK : va_K D vwCl (tyL cs) s) (hP : va_P D vwCl ws H) (hS : va_S A s.heap H locs) (hA : ∀ q : Nat, s.heap.size ≤ q → A q) (hG : xG cs A s s.heap)
    (hM : Met l y wsM rm (va_Pc As (mP D cs [] H.size)) (qI D cs v [] (va_A [] H.size)) 0 0 (va_A [] H.size)) (cw : CallB R s args own index y bytes maxL ret wsM rm 0 0 n ∧ (Cond.static y).before args s = true)
    (hAs : As.length = n) (hls : ls.size = nL) (hst : st = As.reverse ++ rest) (hW : (rest.map fun v => v.category).sum ≤ 8) (hcell : cells ≤ R.cells ∧ slots ≤ R.slots) (hdg : decode cc pc = .ok (.invokestatic index, 3))
    (kk : ∀ (H1 : Heap) (locs1 : List Loc), va_P D vwCl ws H1 → va_S A s.heap H1 locs1 → W p l e R s m args below meth c H1 locs1 cells slots Q (F0 m (pc + 3) ls (.int v :: rest))) :
    W p l e R s m args below meth c H locs cells slots Q (F0 m pc ls st) := by
  refine va_calli (va_runS (As := As) (rest := rest) S hM cw ⟨mP_blind _ _ _ _ _, fun U hU hW => ⟨rfl, by rw [hU], nilP, va_K.moved hW.alike hK, nilD, by rw [hU]; exact xG.warm hW ((hG.kept hS.2.1).narrow (free0 hS hA))⟩⟩ rfl hAs hls hst (lv_room hW) hdg hcell) hS (fun q _ h => free0 hS hA q h) (free0 hS hA) (fun r u t H1 locs1 ht hvm hw hB hz1 hk1 hS1 => ?_)
  subst hw
  exact kk H1 locs1 (keep0 hP hk1) hS1
theorem mcVi0 {v : Int32} (S : CallFix p m c cc nL s args Ts own) (hK : va_K D vwCl (tyL cs) s) (hP : va_P D vwCl ws H) (hS : va_S A s.heap H locs) (hA : ∀ q : Nat, s.heap.size ≤ q → A q) (hG : xG cs A s s.heap)
    (hM : Met l y wsM rm (va_Pc (.ref b :: As) (mP D cs [] H.size)) (qI D cs v [] (va_A [] H.size)) 0 0 (va_A [] H.size)) (cw : CallW R s args own C index y bytes maxL ret wsM rm 0 0 n)
    (hrecv : ∃ cellB : Cell, H[b]? = some cellB ∧ cellB.vm.isStatics = false ∧ s.vm.findClass C = some cellB.cls)
    (hAs : As.length = n) (hls : ls.size = nL) (hst : st = As.reverse ++ .ref b :: rest) (hW : (rest.map fun v => v.category).sum ≤ 8) (hcell : cells ≤ R.cells ∧ slots ≤ R.slots) (hdg : decode cc pc = .ok (.invokevirtual index, 3))
    (kk : ∀ (H1 : Heap) (locs1 : List Loc), va_P D vwCl ws H1 → va_S A s.heap H1 locs1 → W p l e R s m args below meth c H1 locs1 cells slots Q (F0 m (pc + 3) ls (.int v :: rest))) :
    W p l e R s m args below meth c H locs cells slots Q (F0 m pc ls st) := by
  refine va_calli (va_runV (As := As) (rest := rest) S hM cw ⟨mP_blind _ _ _ _ _, hrecv, fun U hU hW => ⟨rfl, by rw [hU], nilP, va_K.moved hW.alike hK, nilD, by rw [hU]; exact xG.warm hW ((hG.kept hS.2.1).narrow (free0 hS hA))⟩⟩ rfl hAs hls hst (lv_room hW) hdg hcell) hS (fun q _ h => free0 hS hA q h) (free0 hS hA) (fun r u t H1 locs1 ht hvm hw hB hz1 hk1 hS1 => ?_)
  subst hw
  exact kk H1 locs1 (keep0 hP hk1) hS1
theorem mcSv0 (S : CallFix p m c cc nL s args Ts own) (hK : va_K D vwCl (tyL cs) s) (hP : va_P D vwCl ws H) (hS : va_S A s.heap H locs) (hA : ∀ q : Nat, s.heap.size ≤ q → A q) (hG : xG cs A s s.heap)
    (hM : Met l y wsM rm (va_Pc As (mP D cs [] H.size)) (qV D cs [] (va_A [] H.size)) 0 0 (va_A [] H.size)) (cw : CallB R s args own index y bytes maxL ret wsM rm 0 0 n ∧ (Cond.static y).before args s = true)
    (hAs : As.length = n) (hls : ls.size = nL) (hst : st = As.reverse ++ rest) (hW : (rest.map fun v => v.category).sum ≤ 8) (hcell : cells ≤ R.cells ∧ slots ≤ R.slots) (hdg : decode cc pc = .ok (.invokestatic index, 3))
    (kk : ∀ (H1 : Heap) (locs1 : List Loc), va_P D vwCl ws H1 → va_S A s.heap H1 locs1 → W p l e R s m args below meth c H1 locs1 cells slots Q (F0 m (pc + 3) ls rest)) :
    W p l e R s m args below meth c H locs cells slots Q (F0 m pc ls st) := by
  refine va_callv (va_runS (As := As) (rest := rest) S hM cw ⟨mP_blind _ _ _ _ _, fun U hU hW => ⟨rfl, by rw [hU], nilP, va_K.moved hW.alike hK, nilD, by rw [hU]; exact xG.warm hW ((hG.kept hS.2.1).narrow (free0 hS hA))⟩⟩ rfl hAs hls hst (lv_room hW) hdg hcell) hS (fun q _ h => free0 hS hA q h) (free0 hS hA) (fun u t H1 locs1 ht hvm hw hB hz1 hk1 hS1 => ?_)
  exact kk H1 locs1 (keep0 hP hk1) hS1
theorem mcSr0 {ra : Nat} (S : CallFix p m c cc nL s args Ts own) (hK : va_K D vwCl (tyL cs) s) (hP : va_P D vwCl ws H) (hS : va_S A s.heap H locs) (hA : ∀ q : Nat, s.heap.size ≤ q → A q) (hG : xG cs A s s.heap)
    (hM : Met l y wsM rm (va_Pc As (mP D cs [] H.size)) (qR D cs ra [] (va_A [] H.size)) 0 0 (va_A [] H.size)) (cw : CallB R s args own index y bytes maxL ret wsM rm 0 0 n ∧ (Cond.static y).before args s = true)
    (hAs : As.length = n) (hls : ls.size = nL) (hst : st = As.reverse ++ rest) (hW : (rest.map fun v => v.category).sum ≤ 8) (hcell : cells ≤ R.cells ∧ slots ≤ R.slots) (hdg : decode cc pc = .ok (.invokestatic index, 3))
    (kk : ∀ (H1 : Heap) (locs1 : List Loc), va_P D vwCl ws H1 → va_S A s.heap H1 locs1 → W p l e R s m args below meth c H1 locs1 cells slots Q (F0 m (pc + 3) ls (.ref ra :: rest))) :
    W p l e R s m args below meth c H locs cells slots Q (F0 m pc ls st) := by
  refine va_callr (va_runS (As := As) (rest := rest) S hM cw ⟨mP_blind _ _ _ _ _, fun U hU hW => ⟨rfl, by rw [hU], nilP, va_K.moved hW.alike hK, nilD, by rw [hU]; exact xG.warm hW ((hG.kept hS.2.1).narrow (free0 hS hA))⟩⟩ rfl hAs hls hst (lv_room hW) hdg hcell) hS (fun q _ h => free0 hS hA q h) (free0 hS hA) (fun u ra' t H1 locs1 ht hvm hw hB hz1 hk1 hS1 => ?_)
  obtain ⟨e1, hB⟩ := hB
  subst e1
  exact kk H1 locs1 (keep0 hP hk1) hS1
theorem mretR {ra : Nat} {n : String} (hx : p.tables.exec = Jvm.exec) (hb : c.code = cc) (hr : meth.sig.returnType = some (.object n)) (hlocks : meth.locks = false) (hK : va_K D vwCl (tyL cs) s) (hP : va_P D vwCl w H) (hD : va_D A w) (hS : va_S A s.heap H locs) (hQ : Q = MQ below (qR D cs ra w A) args s cells slots A) (hdg : decode cc pc = .ok (.areturn, 1)) :
    W p l e R s m args below meth c H locs cells slots Q (F0 m pc ls [.ref ra]) := by
  subst hQ
  exact W.aret hx hb hr (Or.inl ⟨n, rfl⟩) (Or.inr ⟨ra, rfl⟩) (fun _ ht hW => ⟨⟨(), ra, rfl, trivial, rfl, by rw [ht]; exact hP, va_K.moved hW.alike hK, hD⟩, hS.F ht⟩) hS.2.2 hdg
theorem mretT {v v' : Int32} {ty : FieldType} (hx : p.tables.exec = Jvm.exec) (hb : c.code = cc) (hr : meth.sig.returnType = some ty) (hlocks : meth.locks = false) (hn : narrow ty (.int v) = .int v) (hK : va_K D vwCl (tyL cs) s) (hP : va_P D vwCl w H) (hD : va_D A w) (hS : va_S A s.heap H locs) (hv : v = v') (hQ : Q = MQ below (qI D cs v' w A) args s cells slots A) (hdg : decode cc pc = .ok (.ireturn, 1)) :
    W p l e R s m args below meth c H locs cells slots Q (F0 m pc ls [.int v]) := by
  subst hQ
  exact W.zret hx hb hr hn (fun _ ht hW => ⟨⟨v, (), rfl, hv, by rw [ht]; exact hP, va_K.moved hW.alike hK, hD⟩, hS.F ht⟩) hS.2.2 hdg
theorem ldcSw {own tx : String} {q : Nat} {rest : List Value} (hx : p.tables.exec = Jvm.exec) (hb : c.code = cc) (hown : s.vm.findClass own = some m.cls) (hZ : vk_R own index tx q s) (hdg : decode cc pc = .ok (.ldc_w index, 3))
    (k : W p l e R s m args below meth c H locs cells slots Q (F0 m (pc + 3) ls (.ref q :: rest))) : W p l e R s m args below meth c H locs cells slots Q (F0 m pc ls rest) := by
  intro T hT X
  obtain ⟨t, a1, b1⟩ := k T hT X
  exact ⟨t, X.ldcStringW hx hown (text := tx) (a := q) hZ.1 hZ.2 (g := F0 m pc ls rest) rfl (by rw [hb]; exact hdg) t a1, b1⟩
theorem lv_nmr {x : Value} {a : Nat} {rest : List Value} (h : x = .ref a) (k : W p l e R s m args below meth c H locs cells slots Q (F0 m pc ls (.ref a :: rest))) : W p l e R s m args below meth c H locs cells slots Q (F0 m pc ls (x :: rest)) := by
  subst h
  exact k
theorem lk_n {d k : Int} : Op.lookupswitch.offset [] d k = d := rfl
theorem lk_c {a o d k : Int} {r : List (Int × Int)} (h : k ≠ a) (hr : Op.lookupswitch.offset r d k = d) : Op.lookupswitch.offset ((a, o) :: r) d k = d := by
  rw [Op.lookupswitch.offset_cons, if_neg (fun z => h z.symm)]
  exact hr
theorem tI_ne {x k : Int32} (h : ¬ x = k) : x.toInt ≠ k.toInt := fun e => h (Int32.toInt_inj.mp e)
theorem lv_nm {x v : Int32} {rest : List Value} (h : x = v) (k : W p l e R s m args below meth c H locs cells slots Q (F0 m pc ls (.int v :: rest))) : W p l e R s m args below meth c H locs cells slots Q (F0 m pc ls (.int x :: rest)) := by
  subst h
  exact k
end MR
