/-! who wants light when -/
abbrev RU : Type := Nat × (Nat → Nat)
def cus (k : Nat) (a : Bool) (o : Nat) : Bool := if k = 2 then false else (decide (18 ≤ o) || decide (o < (if k = 3 then 9 else 6))) && (a || decide (k = 1))
def vls (T : TW) (l o : Nat) : Nat → Int32
  | 0 => nI o
  | 1 => nI (T.ki (T.ho l))
  | 2 => nI (T.oi l)
  | 3 => nI (T.ho l)
  | 4 => nI (fb_ct (fun k => decide (T.ho k = T.ho l)) T.L)
  | _ => zB (T.al l o)
def wn (r : RU) (T : TW) (l o : Nat) : Bool := if r.1 = 0 then cus (T.ki (T.ho l)) (T.al l o) o else decide (0 < (evN (vls T l o) r.2 r.1).2 0)
theorem if9 (k : Nat) : (if nI k = 3 then some 9 else some 6 : Option Int32) = some (if nI k = 3 then 9 else 6) := by
  by_cases h : nI k = 3
  · rw [if_pos h, if_pos h]
  · rw [if_neg h, if_neg h]
theorem C_isCustomary {k o : Nat} (a : Bool) (hk : k < 4) (ho : o < 24) : f7_isCustomary (nI k) a (nI o) = some (cus k a o) := by
  have key : ∀ k, k < 4 → ∀ o, o < 24 → ∀ a : Bool, f7_isCustomary (nI k) a (nI o) = some (cus k a o) := by decide +kernel
  exact key k hk o ho a
section
variable {T : TW} {t m g : St} {r : RU}
theorem M_byCustom (h : RmT T m) {k o : Nat} (hk : k < T.H) (ho : o < 24) : f11_byCustom m (nI k) (nI o) = some (cus (T.ki k) (T.aw k o) o) := by
  have := h.W.H8
  have hk4 := h.W.ki4 hk
  unfold f11_byCustom
  rw [ldO_n _ (by omega) (by omega), h.eki hk, M_isAwake h hk (by omega)]
  simp only [Option.bind_some, ifz, ifb]
  have key : ∀ k, k < 4 → ∀ o, o < 24 → ∀ a : Bool, (if nI k = 2 then some false else ((if (18 : Int32) ≤ nI o then some true else ((if nI k = 3 then some 9 else some 6 : Option Int32)).bind fun q4 => if q4 ≤ nI o then some false else some true : Option Bool)).bind fun q2 => if q2 = true then if nI k = 1 then some true else some a else some false : Option Bool) = some (cus k a o) := by decide +kernel
  exact key _ hk4 _ ho _
theorem wants_le (x : Int32) {S : Type} (s : S) : (if x ≤ 0 then some (false, s) else some (true, s) : Option (Bool × S)) = some (decide (0 < x), s) := by
  by_cases h : x ≤ 0
  · rw [if_pos h, decide_eq_false (fun z => (fa_of_lt z).2.1 h)]
  · rw [if_neg h, decide_eq_true (fa_of_nle h)]
theorem C_wants (h : RcT T t) (hg : RcR r.1 r.2 g) (hok : okR r.1 r.2) {l o : Nat} (hl : l < T.L) (ho : o < 24) : ∃ g', f7_wantsLit g t (nI l) (nI o) = some (wn r T l o, g') ∧ RcR r.1 r.2 g' := by
  have hL := h.W.L12
  have hH := h.W.H8
  have hh := h.W.hoH hl
  have h600 := hok.1
  unfold f7_wantsLit
  rw [ldO_n _ (by omega) (by omega), h.eho hl, Option.bind_some]
  unfold f7_isTold
  rw [hg.1, ifdn, Option.bind_some]
  simp only [ifz]
  rcases Nat.eq_zero_or_pos r.1 with e | e
  · refine ⟨g, ?_, hg⟩
    rw [if_neg (by rw [e]; decide +kernel), ldO_n _ (by omega) (by omega), h.eki hh, Option.bind_some, C_isAwake h hh (by omega), Option.bind_some, C_isCustomary _ (h.W.ki4 hh) ho, Option.bind_some]
    unfold wn
    rw [if_pos e]
    rfl
  · rw [if_pos (by rw [decide_eq_false (nI_nle e (by omega))]; rfl)]
    obtain ⟨x, hx, hb⟩ := C_lampsOf h (g := T.ho l) (by omega)
    rw [ldO_n _ (by omega) (by omega), h.eki hh, ldO_n _ (by omega) (by omega), h.eoi hl, hx, C_isAwake h hh (by omega)]
    simp only [Option.bind_some, bitCount_Bm hb (show T.L ≤ 24 by omega), ifz, ifb, cl_0, cl_1, cl_2, cl_3, cl_4, cl_5, sA_2e, sA_sA]
    have hg2 : RcR r.1 r.2 (sA g 2 (upd (upd (upd (upd (upd (upd (g.2 2) 0 (nI o)) 1 (nI (T.ki (T.ho l)))) 2 (nI (T.oi l))) 3 (nI (T.ho l))) 4 (nI (fb_ct (fun l_1 => decide (T.ho l_1 = T.ho l)) T.L))) 5 (zB (T.aw (T.ho l) o)))) := hg
    obtain ⟨g', h1, h2⟩ := C_worth (v := vls T l o) hg2 hok e (fun j hj => by
      rw [sA_2e]
      match j, hj with
      | 0, _ => rfl
      | 1, _ => rfl
      | 2, _ => rfl
      | 3, _ => rfl
      | 4, _ => rfl
      | 5, _ => rfl
      | j + 6, h => exact absurd h (by omega))
    refine ⟨g', ?_, h2⟩
    rw [h1, Option.bind_some, wants_le]
    unfold wn
    rw [if_neg (by omega)]
theorem M_wants (h : RmT T m) (hg : RmR r.1 r.2 m) (hok : okR r.1 r.2) {l o : Nat} (hl : l < T.L) (ho : o < 24) : ∃ m', f11_wants m (nI l) (nI o) = some (wn r T l o, m') ∧ Fr [] [33, 34] m m' := by
  have hL := h.W.L12
  have hH := h.W.H8
  have hh := h.W.hoH hl
  have h600 := hok.1
  unfold f11_wants
  rw [ldO_n _ (by omega) (by omega), h.eho hl, Option.bind_some, cl_3, hg.1]
  rcases Nat.eq_zero_or_pos r.1 with e | e
  · refine ⟨m, ?_, Fr.refl _ _ _⟩
    rw [if_pos (by rw [e]; rfl), M_byCustom h hh ho, Option.bind_some]
    unfold wn
    rw [if_pos e]
    rfl
  · rw [if_neg (nI_ne0 e (by omega))]
    have h7 : ∀ f, RmT T (sA m 33 f) := fun f => h.fr (Fr.sA m 33 f (A := [33]) (S := []) (by decide))
    have hR7 : ∀ f, RmR r.1 r.2 (sA m 33 f) := fun f => hg
    simp only [Option.bind_some, cl_0, cl_1, cl_2, cl_3, cl_4, cl_5, sA_2e, sA_sA, sA_2n _ _ (show 4 ≠ 33 by decide), sA_2n _ _ (show 23 ≠ 33 by decide)]
    rw [ldO_n _ (by omega) (by omega), h.eki hh, Option.bind_some, ldO_n _ (by omega) (by omega), h.eoi hl, Option.bind_some]
    obtain ⟨x, hx, hb⟩ := M_lampsOf (h7 (upd (upd (upd (upd (m.2 33) 0 (nI o)) 1 (nI (T.ki (T.ho l)))) 2 (nI (T.oi l))) 3 (nI (T.ho l)))) (g := T.ho l) (by omega)
    rw [hx, Option.bind_some, bitsOf_Bm hb hL, Option.bind_some, M_isAwake (h7 _) hh (by omega), Option.bind_some]
    simp only [ifz, ifb, Option.bind_some]
    obtain ⟨f, h1⟩ := M_valueNow (v := vls T l o) (hR7 (upd (upd (upd (upd (upd (upd (m.2 33) 0 (nI o)) 1 (nI (T.ki (T.ho l)))) 2 (nI (T.oi l))) 3 (nI (T.ho l))) 4 (nI (fb_ct (fun l_1 => decide (T.ho l_1 = T.ho l)) T.L))) 5 (zB (T.aw (T.ho l) o)))) hok e (fun j hj => by
      rw [sA_2e]
      match j, hj with
      | 0, _ => rfl
      | 1, _ => rfl
      | 2, _ => rfl
      | 3, _ => rfl
      | 4, _ => rfl
      | 5, _ => rfl
      | j + 6, h => exact absurd h (by omega))
    have hfin : wn r T l o = decide (0 < (evN (vls T l o) r.2 r.1).2 0) := by
      unfold wn
      rw [if_neg (by omega)]
    rw [h1, Option.bind_some, wants_le, hfin]
    exact ⟨_, rfl, (Fr.sA m 33 _ (by decide)).trans (Fr.sA _ 34 f (by decide))⟩
theorem RmR.fr {S A : List Nat} {m' : St} {n : Nat} {c : Nat → Nat} (h : RmR n c m) (g : Fr S A m m') (h1 : 3 ∉ A := by decide) (h2 : 10 ∉ A := by decide) : RmR n c m' := by
  unfold RmR
  rw [g.2 3 h1, g.2 10 h2]
  exact h
end
