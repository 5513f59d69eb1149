/-! the town as a mathematical value, and what a state must hold to be one -/
abbrev TW : Type := Nat × Nat × Nat × (Nat → Nat) × (Nat → Nat) × (Nat → Nat) × (Nat → Nat) × (Nat → Nat) × (Nat → Option Nat) × (Nat → Bool) × (Nat → Bool)
def TW.H (T : TW) : Nat := T.1
def TW.L (T : TW) : Nat := T.2.1
def TW.o (T : TW) : Nat := T.2.2.1
def TW.ki (T : TW) : Nat → Nat := T.2.2.2.1
def TW.wa (T : TW) : Nat → Nat := T.2.2.2.2.1
def TW.sl (T : TW) : Nat → Nat := T.2.2.2.2.2.1
def TW.ho (T : TW) : Nat → Nat := T.2.2.2.2.2.2.1
def TW.oi (T : TW) : Nat → Nat := T.2.2.2.2.2.2.2.1
def TW.tw (T : TW) : Nat → Option Nat := T.2.2.2.2.2.2.2.2.1
def TW.li (T : TW) : Nat → Bool := T.2.2.2.2.2.2.2.2.2.1
def TW.br (T : TW) : Nat → Bool := T.2.2.2.2.2.2.2.2.2.2
def TW.sO (T : TW) (x : Nat) : TW := (T.H, T.L, x, T.ki, T.wa, T.sl, T.ho, T.oi, T.tw, T.li, T.br)
def TW.sHo (T : TW) (f : Nat → Nat) : TW := (T.H, T.L, T.o, T.ki, T.wa, T.sl, f, T.oi, T.tw, T.li, T.br)
def TW.sOi (T : TW) (f : Nat → Nat) : TW := (T.H, T.L, T.o, T.ki, T.wa, T.sl, T.ho, f, T.tw, T.li, T.br)
def TW.sTw (T : TW) (f : Nat → Option Nat) : TW := (T.H, T.L, T.o, T.ki, T.wa, T.sl, T.ho, T.oi, f, T.li, T.br)
def TW.sLi (T : TW) (f : Nat → Bool) : TW := (T.H, T.L, T.o, T.ki, T.wa, T.sl, T.ho, T.oi, T.tw, f, T.br)
def TW.sBr (T : TW) (f : Nat → Bool) : TW := (T.H, T.L, T.o, T.ki, T.wa, T.sl, T.ho, T.oi, T.tw, T.li, f)
def TW.sWS (T : TW) (f g : Nat → Nat) : TW := (T.H, T.L, T.o, T.ki, f, g, T.ho, T.oi, T.tw, T.li, T.br)
def eT : Option Nat → Int32
  | none => -1
  | some k => nI k
/-- what the eleven words of a town hold -/
def TR (T : TW) (h l o li br : Int32) (ki wa sl ho oi tw : Nat → Int32) : Prop :=
  h = nI T.H ∧ l = nI T.L ∧ o = nI T.o ∧ Bm T.L T.li li ∧ Bm T.L T.br br ∧ (∀ k, k < T.H → ki k = nI (T.ki k) ∧ wa k = nI (T.wa k) ∧ sl k = nI (T.sl k)) ∧ (∀ k, k < T.L → ho k = nI (T.ho k) ∧ oi k = nI (T.oi k) ∧ tw k = eT (T.tw k))
/-- what is so in every town that there can be -/
def WfT (T : TW) : Prop :=
  T.H ≤ 8 ∧ T.L ≤ 12 ∧ T.o < 100000 ∧ (∀ k, k < T.H → T.ki k < 4 ∧ T.wa k < 24 ∧ T.sl k < 24) ∧ (∀ k, k < T.L → T.ho k < T.H ∧ T.oi k ≤ 99 ∧ ∀ j, T.tw k = some j → j < T.L ∧ j ≠ k ∧ T.tw j = some k)
theorem WfT.H8 {T : TW} (h : WfT T) : T.H ≤ 8 := h.1
theorem WfT.L12 {T : TW} (h : WfT T) : T.L ≤ 12 := h.2.1
theorem WfT.oB {T : TW} (h : WfT T) : T.o < 100000 := h.2.2.1
theorem WfT.ki4 {T : TW} (h : WfT T) {k : Nat} (hk : k < T.H) : T.ki k < 4 := (h.2.2.2.1 k hk).1
theorem WfT.wa24 {T : TW} (h : WfT T) {k : Nat} (hk : k < T.H) : T.wa k < 24 := (h.2.2.2.1 k hk).2.1
theorem WfT.sl24 {T : TW} (h : WfT T) {k : Nat} (hk : k < T.H) : T.sl k < 24 := (h.2.2.2.1 k hk).2.2
theorem WfT.hoH {T : TW} (h : WfT T) {k : Nat} (hk : k < T.L) : T.ho k < T.H := (h.2.2.2.2 k hk).1
theorem WfT.oi99 {T : TW} (h : WfT T) {k : Nat} (hk : k < T.L) : T.oi k ≤ 99 := (h.2.2.2.2 k hk).2.1
def LiO (T : TW) : Prop := ∀ k, k < T.L → T.li k = true → 0 < T.oi k
theorem WfT.twI {T : TW} (h : WfT T) {k j : Nat} (hk : k < T.L) (e : T.tw k = some j) : j < T.L ∧ j ≠ k ∧ T.tw j = some k := (h.2.2.2.2 k hk).2.2 j e
/-- the class's town -/
def RcT (T : TW) (t : St) : Prop := WfT T ∧ TR T (t.1 0) (t.1 1) (t.1 2) (t.1 3) (t.1 4) (t.2 5) (t.2 6) (t.2 7) (t.2 8) (t.2 9) (t.2 10)
/-- the reference's -/
def RmT (T : TW) (m : St) : Prop := WfT T ∧ TR T (m.2 3 0) (m.2 3 1) (m.1 28) (m.1 29) (m.1 30) (m.2 4) (m.2 25) (m.2 26) (m.2 24) (m.2 23) (m.2 9)
section
variable {T : TW} {t : St}
theorem RcT.W (h : RcT T t) : WfT T := h.1
theorem RcT.eH (h : RcT T t) : t.1 0 = nI T.H := h.2.1
theorem RcT.eL (h : RcT T t) : t.1 1 = nI T.L := h.2.2.1
theorem RcT.eo (h : RcT T t) : t.1 2 = nI T.o := h.2.2.2.1
theorem RcT.eli (h : RcT T t) : Bm T.L T.li (t.1 3) := h.2.2.2.2.1
theorem RcT.ebr (h : RcT T t) : Bm T.L T.br (t.1 4) := h.2.2.2.2.2.1
theorem RcT.eki (h : RcT T t) {k : Nat} (hk : k < T.H) : t.2 5 k = nI (T.ki k) := (h.2.2.2.2.2.2.1 k hk).1
theorem RcT.ewa (h : RcT T t) {k : Nat} (hk : k < T.H) : t.2 6 k = nI (T.wa k) := (h.2.2.2.2.2.2.1 k hk).2.1
theorem RcT.esl (h : RcT T t) {k : Nat} (hk : k < T.H) : t.2 7 k = nI (T.sl k) := (h.2.2.2.2.2.2.1 k hk).2.2
theorem RcT.eho (h : RcT T t) {k : Nat} (hk : k < T.L) : t.2 8 k = nI (T.ho k) := (h.2.2.2.2.2.2.2 k hk).1
theorem RcT.eoi (h : RcT T t) {k : Nat} (hk : k < T.L) : t.2 9 k = nI (T.oi k) := (h.2.2.2.2.2.2.2 k hk).2.1
theorem RcT.etw (h : RcT T t) {k : Nat} (hk : k < T.L) : t.2 10 k = eT (T.tw k) := (h.2.2.2.2.2.2.2 k hk).2.2
theorem RmT.W (h : RmT T t) : WfT T := h.1
theorem RmT.eH (h : RmT T t) : t.2 3 0 = nI T.H := h.2.1
theorem RmT.eL (h : RmT T t) : t.2 3 1 = nI T.L := h.2.2.1
theorem RmT.eo (h : RmT T t) : t.1 28 = nI T.o := h.2.2.2.1
theorem RmT.eli (h : RmT T t) : Bm T.L T.li (t.1 29) := h.2.2.2.2.1
theorem RmT.ebr (h : RmT T t) : Bm T.L T.br (t.1 30) := h.2.2.2.2.2.1
theorem RmT.eki (h : RmT T t) {k : Nat} (hk : k < T.H) : t.2 4 k = nI (T.ki k) := (h.2.2.2.2.2.2.1 k hk).1
theorem RmT.ewa (h : RmT T t) {k : Nat} (hk : k < T.H) : t.2 25 k = nI (T.wa k) := (h.2.2.2.2.2.2.1 k hk).2.1
theorem RmT.esl (h : RmT T t) {k : Nat} (hk : k < T.H) : t.2 26 k = nI (T.sl k) := (h.2.2.2.2.2.2.1 k hk).2.2
theorem RmT.eho (h : RmT T t) {k : Nat} (hk : k < T.L) : t.2 24 k = nI (T.ho k) := (h.2.2.2.2.2.2.2 k hk).1
theorem RmT.eoi (h : RmT T t) {k : Nat} (hk : k < T.L) : t.2 23 k = nI (T.oi k) := (h.2.2.2.2.2.2.2 k hk).2.1
theorem RmT.etw (h : RmT T t) {k : Nat} (hk : k < T.L) : t.2 9 k = eT (T.tw k) := (h.2.2.2.2.2.2.2 k hk).2.2
end
theorem eT_m1 {x : Option Nat} (h : ∀ k, x = some k → k < 100000) : (eT x = -1) = (x = none) := by
  cases x with
  | none => simp [eT]
  | some k =>
    have := h k rfl
    refine propext ⟨fun e => ?_, fun e => by cases e⟩
    have e : nI k = -1 := e
    exact absurd (congrArg (fun z : Int32 => z.toInt) e) (by show (nI k).toInt ≠ (-1 : Int32).toInt; rw [nI_toInt (by omega), show (-1 : Int32).toInt = -1 from by decide +kernel]; omega)
/-! what is said of a town -/
def awk (w s o : Nat) : Bool := if w = s then true else if w < s then decide (w ≤ o) && decide (o < s) else decide (w ≤ o) || decide (o < s)
theorem awk_c (w s o : Nat) : (if w = s then some true else if s ≤ w then if w ≤ o then some true else if s ≤ o then some false else some true else if o < w then some false else if s ≤ o then some false else some true : Option Bool) = some (awk w s o) := by
  unfold awk
  repeat' split
  all_goals first | rfl | (exfalso; omega) | (simp <;> omega)
/-- the house's hours, the lamp's house's -/
def TW.aw (T : TW) (h o : Nat) : Bool := awk (T.wa h) (T.sl h) o
def TW.al (T : TW) (l o : Nat) : Bool := T.aw (T.ho l) o
def TW.cp (T : TW) (l k : Nat) : Bool := decide (k = l) || decide (T.tw l = some k)
def TW.snd (T : TW) (l : Nat) : Bool := !T.br l && (match T.tw l with | none => true | some j => !T.br j)
def TW.can (T : TW) (l : Nat) : Bool := decide (0 < T.oi l) && !T.br l && (match T.tw l with | none => true | some j => decide (0 < T.oi j) && !T.br j)
def TW.hp (T : TW) (l : Nat) : Bool := match T.tw l with | none => false | some j => decide (T.ho j = T.ho l)
def TW.pl1 (T : TW) (h g l : Nat) : Bool := decide (T.ho l = h) && (match T.tw l with | none => false | some j => decide (T.ho j = g))
def TW.pl (T : TW) (h g : Nat) : Bool := decide (0 < fb_ct (T.pl1 h g) T.L)
def TW.hs1 (T : TW) (h l : Nat) : Bool := decide (T.ho l = h) && T.snd l
def TW.hs (T : TW) (h : Nat) : Bool := decide (0 < fb_ct (T.hs1 h) T.L)
