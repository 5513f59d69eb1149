/-! texts: length and charAt -/
def chO (i : Nat) (k : Int32) : Option Int32 := if inb k (xLen.getD i 0) = true then some ((xByt.getD i []).getD k.toNatClampNeg 0) else none
theorem cJ0_length (l : Launch) (D : va_G) (cs : xE) (sz : Nat) (i : Nat) (hi : i < 16) : Met l yJ0_length_8abf5 (Cond.code yJ0_length_8abf5 cJ0_length_8abf5 1 (some .int) :: WG) { frames := 1, cells := 0, slots := 0, locals := 20 } (va_Pc [.ref (cs.2.1 i)] (mP D cs [] sz)) (qI D cs (nI (xLen.getD i 0)) [] (va_A [] sz)) 0 0 (va_A [] sz) := by
  sorry
theorem cJ0_charAt (l : Launch) (D : va_G) (cs : xE) (sz : Nat) (i : Nat) (hi : i < 16) (k : Int32) (r : Int32) (h : chO i k = some r) : Met l yJ0_charAt_5068e (Cond.code yJ0_charAt_5068e cJ0_charAt_5068e 2 (some .char) :: WG) { frames := 4, cells := 0, slots := 0, locals := 120 } (va_Pc [.ref (cs.2.1 i), .int k] (mP D cs [] sz)) (qI D cs r [] (va_A [] sz)) 0 0 (va_A [] sz) := by
  sorry
