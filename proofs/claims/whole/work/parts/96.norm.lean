/-! which exception a call may throw -/
def JO {α : Type} (P : Nat → Prop) (x : Option (α ⊕ Nat)) : Prop := ∀ j, x = some (.inr j) → P j
theorem JO_wI {α : Type} {P : Nat → Prop} {x : Option α} : JO P (wI x) := fun _ h => (wI_r h).elim
theorem JO_inr {α : Type} {P : Nat → Prop} {n : Nat} (h : P n) : JO P (some (.inr n) : Option (α ⊕ Nat)) := fun j e => by cases e; exact h
theorem JO_ite {α : Type} {P : Nat → Prop} {c : Prop} {hc : Decidable c} {a b : Option (α ⊕ Nat)} (ha : JO P a) (hb : JO P b) : JO P (@ite _ c hc a b) := by
  by_cases z : c
  · rw [if_pos z]; exact ha
  · rw [if_neg z]; exact hb
theorem JO_xB {α β : Type} {P : Nat → Prop} {x : Option (α ⊕ Nat)} {k : α → Option (β ⊕ Nat)} (hx : JO P x) (hk : ∀ v, JO P (k v)) : JO P (xB x k) := fun j e => by
  rcases xB_r e with e | ⟨v, -, e⟩
  · exact hx j e
  · exact hk v j e
theorem JO_bind {α β : Type} {P : Nat → Prop} {x : Option α} {k : α → Option (β ⊕ Nat)} (hk : ∀ v, JO P (k v)) : JO P (x.bind k) := fun j e => by
  obtain ⟨v, -, e⟩ := bnd e
  exact hk v j e
theorem J_needHouse {s_x s_t : St} {x : Int32} : JO (fun j => j = 1) (f10_needHouse s_x s_t x) := by
  unfold f10_needHouse
  exact JO_ite (JO_inr rfl) (JO_ite JO_wI (JO_inr rfl))
theorem J_needLamp {s_x s_t : St} {x : Int32} : JO (fun j => j = 1) (f10_needLamp s_x s_t x) := by
  unfold f10_needLamp
  exact JO_ite (JO_inr rfl) (JO_ite JO_wI (JO_inr rfl))
theorem J_needHourOrMany {x : Int32} : JO (fun j => j = 1) (f10_needHourOrMany x) := by
  unfold f10_needHourOrMany
  exact JO_ite JO_wI (JO_ite JO_wI (JO_inr rfl))
theorem J_needHouse2 {s_x s_t : St} {x : Int32} : JO (fun j => j = 0 ∨ j = 1) (f10_needHouse s_x s_t x) := by
  unfold f10_needHouse
  exact JO_ite (JO_inr (.inr rfl)) (JO_ite JO_wI (JO_inr (.inr rfl)))
theorem J_needLamp2 {s_x s_t : St} {x : Int32} : JO (fun j => j = 0 ∨ j = 1) (f10_needLamp s_x s_t x) := by
  unfold f10_needLamp
  exact JO_ite (JO_inr (.inr rfl)) (JO_ite JO_wI (JO_inr (.inr rfl)))
theorem J_needHourOrMany2 {x : Int32} : JO (fun j => j = 0 ∨ j = 1) (f10_needHourOrMany x) := by
  unfold f10_needHourOrMany
  exact JO_ite JO_wI (JO_ite JO_wI (JO_inr (.inr rfl)))
theorem J_needAhead {x : Int32} : JO (fun j => j = 0) (f10_needAhead x) := by
  unfold f10_needAhead
  exact JO_ite (JO_inr rfl) (JO_ite JO_wI (JO_inr rfl))
theorem J_needAhead2 {x : Int32} : JO (fun j => j = 0 ∨ j = 1) (f10_needAhead x) := by
  unfold f10_needAhead
  exact JO_ite (JO_inr (.inl rfl)) (JO_ite JO_wI (JO_inr (.inl rfl)))
theorem J_street {s_x : St} {s_r : St} {s_t3 : St} {s_g2 : St} {s_t : St} {s_g : St} {s_h : HSt} {s_v : St} {s_p : St} {x1 : Int32} : JO (fun j => j = 0) (f10_street s_x s_r s_t3 s_g2 s_t s_g s_h s_v s_p x1) := by
  unfold f10_street
  repeat' first | with_reducible exact JO_wI | with_reducible exact JO_inr (rfl) | with_reducible exact J_needHouse2 | with_reducible exact J_needLamp2 | with_reducible exact J_needHourOrMany2 | with_reducible exact J_needAhead | with_reducible refine JO_ite ?_ ?_ | with_reducible refine JO_xB ?_ (fun _ => ?_) | with_reducible refine JO_bind (fun _ => ?_)
theorem J_count {s_x : St} {s_t : St} {s_h : HSt} {s_v : St} {s_r : St} {x1 : Int32} : JO (fun j => j = 1) (f10_count s_x s_t s_h s_v s_r x1) := by
  unfold f10_count
  repeat' first | with_reducible exact JO_wI | with_reducible exact JO_inr (rfl) | with_reducible exact J_needHouse | with_reducible exact J_needLamp | with_reducible exact J_needHourOrMany | with_reducible exact J_needAhead | with_reducible refine JO_ite ?_ ?_ | with_reducible refine JO_xB ?_ (fun _ => ?_) | with_reducible refine JO_bind (fun _ => ?_)
theorem J_house {s_x : St} {s_t : St} {x1 : Int32} {x2 : Int32} : JO (fun j => j = 1) (f10_house s_x s_t x1 x2) := by
  unfold f10_house
  repeat' first | with_reducible exact JO_wI | with_reducible exact JO_inr (rfl) | with_reducible exact J_needHouse | with_reducible exact J_needLamp | with_reducible exact J_needHourOrMany | with_reducible exact J_needAhead | with_reducible refine JO_ite ?_ ?_ | with_reducible refine JO_xB ?_ (fun _ => ?_) | with_reducible refine JO_bind (fun _ => ?_)
theorem J_lamp {s_x : St} {s_t : St} {s_g : St} {x1 : Int32} {x2 : Int32} : JO (fun j => j = 1) (f10_lamp s_x s_t s_g x1 x2) := by
  unfold f10_lamp
  repeat' first | with_reducible exact JO_wI | with_reducible exact JO_inr (rfl) | with_reducible exact J_needHouse | with_reducible exact J_needLamp | with_reducible exact J_needHourOrMany | with_reducible exact J_needAhead | with_reducible refine JO_ite ?_ ?_ | with_reducible refine JO_xB ?_ (fun _ => ?_) | with_reducible refine JO_bind (fun _ => ?_)
theorem J_flick {s_x : St} {s_t : St} {s_h : HSt} {x1 : Int32} : JO (fun j => j = 1) (f10_flick s_x s_t s_h x1) := by
  unfold f10_flick
  repeat' first | with_reducible exact JO_wI | with_reducible exact JO_inr (rfl) | with_reducible exact J_needHouse | with_reducible exact J_needLamp | with_reducible exact J_needHourOrMany | with_reducible exact J_needAhead | with_reducible refine JO_ite ?_ ?_ | with_reducible refine JO_xB ?_ (fun _ => ?_) | with_reducible refine JO_bind (fun _ => ?_)
theorem J_trim {s_x : St} {s_t : St} {s_h : HSt} {x1 : Int32} {x2 : Int32} : JO (fun j => j = 1) (f10_trim s_x s_t s_h x1 x2) := by
  unfold f10_trim
  repeat' first | with_reducible exact JO_wI | with_reducible exact JO_inr (rfl) | with_reducible exact J_needHouse | with_reducible exact J_needLamp | with_reducible exact J_needHourOrMany | with_reducible exact J_needAhead | with_reducible refine JO_ite ?_ ?_ | with_reducible refine JO_xB ?_ (fun _ => ?_) | with_reducible refine JO_bind (fun _ => ?_)
theorem J_breaks {s_x : St} {s_t : St} {s_h : HSt} {x1 : Int32} : JO (fun j => j = 1) (f10_breaks s_x s_t s_h x1) := by
  unfold f10_breaks
  repeat' first | with_reducible exact JO_wI | with_reducible exact JO_inr (rfl) | with_reducible exact J_needHouse | with_reducible exact J_needLamp | with_reducible exact J_needHourOrMany | with_reducible exact J_needAhead | with_reducible refine JO_ite ?_ ?_ | with_reducible refine JO_xB ?_ (fun _ => ?_) | with_reducible refine JO_bind (fun _ => ?_)
theorem J_give {s_x : St} {s_t : St} {s_h : HSt} {x1 : Int32} {x2 : Int32} : JO (fun j => j = 1) (f10_give s_x s_t s_h x1 x2) := by
  unfold f10_give
  repeat' first | with_reducible exact JO_wI | with_reducible exact JO_inr (rfl) | with_reducible exact J_needHouse | with_reducible exact J_needLamp | with_reducible exact J_needHourOrMany | with_reducible exact J_needAhead | with_reducible refine JO_ite ?_ ?_ | with_reducible refine JO_xB ?_ (fun _ => ?_) | with_reducible refine JO_bind (fun _ => ?_)
theorem J_sleep {s_x : St} {s_t : St} {s_h : HSt} {x1 : Int32} {x2 : Int32} {x3 : Int32} : JO (fun j => j = 1) (f10_sleep s_x s_t s_h x1 x2 x3) := by
  unfold f10_sleep
  repeat' first | with_reducible exact JO_wI | with_reducible exact JO_inr (rfl) | with_reducible exact J_needHouse | with_reducible exact J_needLamp | with_reducible exact J_needHourOrMany | with_reducible exact J_needAhead | with_reducible refine JO_ite ?_ ?_ | with_reducible refine JO_xB ?_ (fun _ => ?_) | with_reducible refine JO_bind (fun _ => ?_)
theorem J_then {s_x : St} {s_t : St} {s_t2 : St} {s_e : St} {s_g : St} {x1 : Int32} : JO (fun j => j = 0) (f10_then s_x s_t s_t2 s_e s_g x1) := by
  unfold f10_then
  repeat' first | with_reducible exact JO_wI | with_reducible exact JO_inr (rfl) | with_reducible exact J_needHouse2 | with_reducible exact J_needLamp2 | with_reducible exact J_needHourOrMany2 | with_reducible exact J_needAhead | with_reducible refine JO_ite ?_ ?_ | with_reducible refine JO_xB ?_ (fun _ => ?_) | with_reducible refine JO_bind (fun _ => ?_)
theorem J_burnt {s_x : St} {s_t : St} {s_t2 : St} {s_e : St} {s_g : St} {x1 : Int32} {x2 : Int32} : JO (fun j => j = 0 ∨ j = 1) (f10_burnt s_x s_t s_t2 s_e s_g x1 x2) := by
  unfold f10_burnt
  repeat' first | with_reducible exact JO_wI | with_reducible exact JO_inr (by decide) | with_reducible exact J_needHouse2 | with_reducible exact J_needLamp2 | with_reducible exact J_needHourOrMany2 | with_reducible exact J_needAhead2 | with_reducible refine JO_ite ?_ ?_ | with_reducible refine JO_xB ?_ (fun _ => ?_) | with_reducible refine JO_bind (fun _ => ?_)
theorem J_shining {s_x : St} {s_t : St} {s_t2 : St} {s_e : St} {s_g : St} {x1 : Int32} {x2 : Int32} : JO (fun j => j = 0 ∨ j = 1) (f10_shining s_x s_t s_t2 s_e s_g x1 x2) := by
  unfold f10_shining
  repeat' first | with_reducible exact JO_wI | with_reducible exact JO_inr (by decide) | with_reducible exact J_needHouse2 | with_reducible exact J_needLamp2 | with_reducible exact J_needHourOrMany2 | with_reducible exact J_needAhead2 | with_reducible refine JO_ite ?_ ?_ | with_reducible refine JO_xB ?_ (fun _ => ?_) | with_reducible refine JO_bind (fun _ => ?_)
theorem J_soonest {s_x : St} {s_t : St} {s_t2 : St} {s_e : St} {s_g : St} {x1 : Int32} : JO (fun j => j = 1) (f10_soonest s_x s_t s_t2 s_e s_g x1) := by
  unfold f10_soonest
  repeat' first | with_reducible exact JO_wI | with_reducible exact JO_inr (rfl) | with_reducible exact J_needHouse | with_reducible exact J_needLamp | with_reducible exact J_needHourOrMany | with_reducible exact J_needAhead | with_reducible refine JO_ite ?_ ?_ | with_reducible refine JO_xB ?_ (fun _ => ?_) | with_reducible refine JO_bind (fun _ => ?_)
theorem J_busiest {s_x : St} {s_t : St} {s_g : St} {x1 : Int32} : JO (fun j => j = 1) (f10_busiest s_x s_t s_g x1) := by
  unfold f10_busiest
  repeat' first | with_reducible exact JO_wI | with_reducible exact JO_inr (rfl) | with_reducible exact J_needHouse | with_reducible exact J_needLamp | with_reducible exact J_needHourOrMany | with_reducible exact J_needAhead | with_reducible refine JO_ite ?_ ?_ | with_reducible refine JO_xB ?_ (fun _ => ?_) | with_reducible refine JO_bind (fun _ => ?_)
theorem J_lasts {s_x : St} {s_t : St} {s_t2 : St} {s_e : St} {s_g : St} {x1 : Int32} : JO (fun j => j = 1) (f10_lasts s_x s_t s_t2 s_e s_g x1) := by
  unfold f10_lasts
  repeat' first | with_reducible exact JO_wI | with_reducible exact JO_inr (rfl) | with_reducible exact J_needHouse | with_reducible exact J_needLamp | with_reducible exact J_needHourOrMany | with_reducible exact J_needAhead | with_reducible refine JO_ite ?_ ?_ | with_reducible refine JO_xB ?_ (fun _ => ?_) | with_reducible refine JO_bind (fun _ => ?_)
theorem J_grief {s_x : St} {s_t : St} {s_t2 : St} {s_e : St} {s_g : St} {x1 : Int32} {x2 : Int32} : JO (fun j => j = 0 ∨ j = 1) (f10_grief s_x s_t s_t2 s_e s_g x1 x2) := by
  unfold f10_grief
  repeat' first | with_reducible exact JO_wI | with_reducible exact JO_inr (by decide) | with_reducible exact J_needHouse2 | with_reducible exact J_needLamp2 | with_reducible exact J_needHourOrMany2 | with_reducible exact J_needAhead2 | with_reducible refine JO_ite ?_ ?_ | with_reducible refine JO_xB ?_ (fun _ => ?_) | with_reducible refine JO_bind (fun _ => ?_)
theorem J_quarrels {s_x : St} {s_t : St} {s_t2 : St} {s_e : St} {s_g : St} {x1 : Int32} : JO (fun j => j = 0) (f10_quarrels s_x s_t s_t2 s_e s_g x1) := by
  unfold f10_quarrels
  repeat' first | with_reducible exact JO_wI | with_reducible exact JO_inr (rfl) | with_reducible exact J_needHouse2 | with_reducible exact J_needLamp2 | with_reducible exact J_needHourOrMany2 | with_reducible exact J_needAhead | with_reducible refine JO_ite ?_ ?_ | with_reducible refine JO_xB ?_ (fun _ => ?_) | with_reducible refine JO_bind (fun _ => ?_)
theorem J_joined {s_x : St} {s_t : St} {x1 : Int32} {x2 : Int32} : JO (fun j => j = 1) (f10_joined s_x s_t x1 x2) := by
  unfold f10_joined
  repeat' first | with_reducible exact JO_wI | with_reducible exact JO_inr (rfl) | with_reducible exact J_needHouse | with_reducible exact J_needLamp | with_reducible exact J_needHourOrMany | with_reducible exact J_needAhead | with_reducible refine JO_ite ?_ ?_ | with_reducible refine JO_xB ?_ (fun _ => ?_) | with_reducible refine JO_bind (fun _ => ?_)
theorem J_strife {s_x : St} {s_t : St} {s_g : St} {s_m : St} {x1 : Int32} {x2 : Int32} : JO (fun j => j = 1) (f10_strife s_x s_t s_g s_m x1 x2) := by
  unfold f10_strife
  repeat' first | with_reducible exact JO_wI | with_reducible exact JO_inr (rfl) | with_reducible exact J_needHouse | with_reducible exact J_needLamp | with_reducible exact J_needHourOrMany | with_reducible exact J_needAhead | with_reducible refine JO_ite ?_ ?_ | with_reducible refine JO_xB ?_ (fun _ => ?_) | with_reducible refine JO_bind (fun _ => ?_)
theorem J_better {s_x : St} {s_t : St} {s_g : St} {s_m : St} {x1 : Int32} : JO (fun j => j = 1) (f10_better s_x s_t s_g s_m x1) := by
  unfold f10_better
  repeat' first | with_reducible exact JO_wI | with_reducible exact JO_inr (rfl) | with_reducible exact J_needHouse | with_reducible exact J_needLamp | with_reducible exact J_needHourOrMany | with_reducible exact J_needAhead | with_reducible refine JO_ite ?_ ?_ | with_reducible refine JO_xB ?_ (fun _ => ?_) | with_reducible refine JO_bind (fun _ => ?_)
theorem J_treaty {s_x : St} {s_t : St} {s_t2 : St} {s_e : St} {s_g : St} {x1 : Int32} : JO (fun j => j = 1) (f10_treaty s_x s_t s_t2 s_e s_g x1) := by
  unfold f10_treaty
  repeat' first | with_reducible exact JO_wI | with_reducible exact JO_inr (rfl) | with_reducible exact J_needHouse | with_reducible exact J_needLamp | with_reducible exact J_needHourOrMany | with_reducible exact J_needAhead | with_reducible refine JO_ite ?_ ?_ | with_reducible refine JO_xB ?_ (fun _ => ?_) | with_reducible refine JO_bind (fun _ => ?_)
theorem J_fund {s_x : St} {s_t : St} {s_t2 : St} {x1 : Int32} : JO (fun j => j = 1) (f10_fund s_x s_t s_t2 x1) := by
  unfold f10_fund
  repeat' first | with_reducible exact JO_wI | with_reducible exact JO_inr (rfl) | with_reducible exact J_needHouse | with_reducible exact J_needLamp | with_reducible exact J_needHourOrMany | with_reducible exact J_needAhead | with_reducible refine JO_ite ?_ ?_ | with_reducible refine JO_xB ?_ (fun _ => ?_) | with_reducible refine JO_bind (fun _ => ?_)
theorem J_signals {s_x : St} {s_t : St} {x1 : Int32} : JO (fun j => j = 0) (f10_signals s_x s_t x1) := by
  unfold f10_signals
  repeat' first | with_reducible exact JO_wI | with_reducible exact JO_inr (rfl) | with_reducible exact J_needHouse2 | with_reducible exact J_needLamp2 | with_reducible exact J_needHourOrMany2 | with_reducible exact J_needAhead | with_reducible refine JO_ite ?_ ?_ | with_reducible refine JO_xB ?_ (fun _ => ?_) | with_reducible refine JO_bind (fun _ => ?_)
theorem J_see {s_x : St} {s_t : St} {s_v : St} {x1 : Int32} {x2 : Int32} {x3 : Bool} : JO (fun j => j = 1) (f10_see s_x s_t s_v x1 x2 x3) := by
  unfold f10_see
  repeat' first | with_reducible exact JO_wI | with_reducible exact JO_inr (rfl) | with_reducible exact J_needHouse | with_reducible exact J_needLamp | with_reducible exact J_needHourOrMany | with_reducible exact J_needAhead | with_reducible refine JO_ite ?_ ?_ | with_reducible refine JO_xB ?_ (fun _ => ?_) | with_reducible refine JO_bind (fun _ => ?_)
theorem J_whose {s_x : St} {s_t : St} {s_t2 : St} {s_e : St} {s_g : St} {s_v : St} {x1 : Int32} : JO (fun j => j = 1) (f10_whose s_x s_t s_t2 s_e s_g s_v x1) := by
  unfold f10_whose
  repeat' first | with_reducible exact JO_wI | with_reducible exact JO_inr (rfl) | with_reducible exact J_needHouse | with_reducible exact J_needLamp | with_reducible exact J_needHourOrMany | with_reducible exact J_needAhead | with_reducible refine JO_ite ?_ ?_ | with_reducible refine JO_xB ?_ (fun _ => ?_) | with_reducible refine JO_bind (fun _ => ?_)
theorem J_look {s_x : St} {s_t : St} {s_t2 : St} {s_e : St} {s_g : St} {s_v : St} {x1 : Int32} {x2 : Int32} : JO (fun j => j = 1) (f10_look s_x s_t s_t2 s_e s_g s_v x1 x2) := by
  unfold f10_look
  repeat' first | with_reducible exact JO_wI | with_reducible exact JO_inr (rfl) | with_reducible exact J_needHouse | with_reducible exact J_needLamp | with_reducible exact J_needHourOrMany | with_reducible exact J_needAhead | with_reducible refine JO_ite ?_ ?_ | with_reducible refine JO_xB ?_ (fun _ => ?_) | with_reducible refine JO_bind (fun _ => ?_)
theorem J_game {s_x : St} {s_t : St} {s_g : St} {s_u : St} {x1 : Int32} {x2 : Int32} {x3 : Int32} : JO (fun j => j = 0 ∨ j = 1) (f10_game s_x s_t s_g s_u x1 x2 x3) := by
  unfold f10_game
  repeat' first | with_reducible exact JO_wI | with_reducible exact JO_inr (by decide) | with_reducible exact J_needHouse2 | with_reducible exact J_needLamp2 | with_reducible exact J_needHourOrMany2 | with_reducible exact J_needAhead2 | with_reducible refine JO_ite ?_ ?_ | with_reducible refine JO_xB ?_ (fun _ => ?_) | with_reducible refine JO_bind (fun _ => ?_)
theorem J_winter {s_x : St} {s_t : St} {s_t2 : St} {s_e : St} {s_g : St} {s_d : St} {x1 : Int32} {x2 : Int32} {x3 : Int32} : JO (fun j => j = 0 ∨ j = 1) (f10_winter s_x s_t s_t2 s_e s_g s_d x1 x2 x3) := by
  unfold f10_winter
  repeat' first | with_reducible exact JO_wI | with_reducible exact JO_inr (by decide) | with_reducible exact J_needHouse2 | with_reducible exact J_needLamp2 | with_reducible exact J_needHourOrMany2 | with_reducible exact J_needAhead2 | with_reducible refine JO_ite ?_ ?_ | with_reducible refine JO_xB ?_ (fun _ => ?_) | with_reducible refine JO_bind (fun _ => ?_)
section
variable {sx sr st sg sv sp spt spv mm : St} {sh sph : HSt}
theorem AllR_sx {sx' : St} (h : AllR sx sr st sg sh sv sp spt sph spv mm) (f : Fr [] cR sx sx') : AllR sx' sr st sg sh sv sp spt sph spv mm := by
  obtain ⟨r, T, k, hs, V, hR, hI⟩ := h
  obtain ⟨a1, a2, a3, a4⟩ := hR
  refine ⟨r, T, k, hs, V, ⟨a1, (f.1 7 List.not_mem_nil).trans a2, ?_, a4⟩, hI⟩
  rw [f.2 5 (by decide)]
  exact a3
theorem N_street (h : AllR sx sr st sg sh sv sp spt sph spv mm) (srt : St) (srg : St) (y1 : Int32) : ∃ w m', f11_street mm y1 = some (w, m') ∧ ((∃ res, f10_street sx sr srt srg st sg sh sv sp y1 = some (.inl res) ∧ res.1 = w ∧ m'.1 2 = 0 ∧ AllR (res.2.1) (res.2.2.1) (res.2.2.2.2.2.1) (res.2.2.2.2.2.2.1) (res.2.2.2.2.2.2.2.1) (res.2.2.2.2.2.2.2.2.1) (res.2.2.2.2.2.2.2.2.2) spt sph spv m') ∨ ∃ j, f10_street sx sr srt srg st sg sh sv sp y1 = some (.inr j) ∧ (j = 0) ∧ m'.1 2 = kfI j ∧ AllR sx sr st sg sh sv sp spt sph spv m') := by
  obtain ⟨r, T, k, hs, V, hR, hI⟩ := h
  obtain ⟨w, m', a1, (⟨s, a2, a3, a4⟩ | ⟨j, a2, a3, a4⟩)⟩ := A_street hR hI srt srg y1
  · exact ⟨w, m', a1, .inl ⟨(w, s), a2, rfl, a3, a4⟩⟩
  · exact ⟨w, m', a1, .inr ⟨j, a2, J_street _ a2, a3, a4⟩⟩
theorem N_count (h : AllR sx sr st sg sh sv sp spt sph spv mm) (y1 : Int32) : ∃ w m', f11_count mm y1 = some (w, m') ∧ ((∃ res, f10_count sx st sh sv sr y1 = some (.inl res) ∧ res = w ∧ m'.1 2 = 0 ∧ AllR sx sr st sg sh sv sp spt sph spv m') ∨ ∃ j, f10_count sx st sh sv sr y1 = some (.inr j) ∧ (j = 1) ∧ m'.1 2 = kfN j ∧ AllR sx sr st sg sh sv sp spt sph spv m') := by
  obtain ⟨r, T, k, hs, V, hR, hI⟩ := h
  obtain ⟨w, m', a1, a4, (⟨a2, a3⟩ | ⟨j, a2, a3⟩)⟩ := A_count hR y1
  · exact ⟨w, m', a1, .inl ⟨w, a2, rfl, a3, AllR.q hR hI a4⟩⟩
  · exact ⟨w, m', a1, .inr ⟨j, a2, J_count _ a2, a3, AllR.q hR hI a4⟩⟩
theorem N_house (h : AllR sx sr st sg sh sv sp spt sph spv mm) (y1 : Int32) (y2 : Int32) : ∃ w m', f11_house mm y1 y2 = some (w, m') ∧ ((∃ res, f10_house sx st y1 y2 = some (.inl res) ∧ res = w ∧ m'.1 2 = 0 ∧ AllR sx sr st sg sh sv sp spt sph spv m') ∨ ∃ j, f10_house sx st y1 y2 = some (.inr j) ∧ (j = 1) ∧ m'.1 2 = kfN j ∧ AllR sx sr st sg sh sv sp spt sph spv m') := by
  obtain ⟨r, T, k, hs, V, hR, hI⟩ := h
  obtain ⟨w, m', a1, a4, (⟨a2, a3⟩ | ⟨j, a2, a3⟩)⟩ := Q_house hR.ct hR.mt hR.cr sx y1 y2
  · exact ⟨w, m', a1, .inl ⟨w, a2, rfl, a3, AllR.q hR hI a4⟩⟩
  · exact ⟨w, m', a1, .inr ⟨j, a2, J_house _ a2, a3, AllR.q hR hI a4⟩⟩
theorem N_lamp (h : AllR sx sr st sg sh sv sp spt sph spv mm) (y1 : Int32) (y2 : Int32) : ∃ w m', f11_lamp mm y1 y2 = some (w, m') ∧ ((∃ res, f10_lamp sx st sg y1 y2 = some (.inl res) ∧ res.1 = w ∧ m'.1 2 = 0 ∧ AllR sx sr st (res.2) sh sv sp spt sph spv m') ∨ ∃ j, f10_lamp sx st sg y1 y2 = some (.inr j) ∧ (j = 1) ∧ m'.1 2 = kfN j ∧ AllR sx sr st sg sh sv sp spt sph spv m') := by
  obtain ⟨r, T, k, hs, V, hR, hI⟩ := h
  obtain ⟨w, m', a1, (⟨s, a2, a3, a4⟩ | ⟨j, a2, a3, a4⟩)⟩ := Q_lamp hR.ct hR.mt hR.cr hR.mr hR.ok sx y1 y2
  · exact ⟨w, m', a1, .inl ⟨(w, s), a2, rfl, a3, AllR.q hR hI a4⟩⟩
  · exact ⟨w, m', a1, .inr ⟨j, a2, J_lamp _ a2, a3, AllR.q hR hI a4⟩⟩
theorem N_flick (h : AllR sx sr st sg sh sv sp spt sph spv mm) (y1 : Int32) : ∃ w m', f11_flick mm y1 = some (w, m') ∧ ((∃ res, f10_flick sx st sh y1 = some (.inl res) ∧ res.1 = w ∧ m'.1 2 = 0 ∧ AllR (res.2.1) sr (res.2.2.1) sg (res.2.2.2) sv sp spt sph spv m') ∨ ∃ j, f10_flick sx st sh y1 = some (.inr j) ∧ (j = 1) ∧ m'.1 2 = kfN j ∧ AllR sx sr st sg sh sv sp spt sph spv m') := by
  obtain ⟨r, T, k, hs, V, hR, hI⟩ := h
  obtain ⟨w, m', a1, (⟨s, a2, a3, a4⟩ | ⟨j, a2, a3, a4⟩)⟩ := A_flick hR hI y1
  · exact ⟨w, m', a1, .inl ⟨(w, s), a2, rfl, a3, a4⟩⟩
  · exact ⟨w, m', a1, .inr ⟨j, a2, J_flick _ a2, a3, a4⟩⟩
theorem N_trim (h : AllR sx sr st sg sh sv sp spt sph spv mm) (y1 : Int32) (y2 : Int32) : ∃ w m', f11_trim mm y1 y2 = some (w, m') ∧ ((∃ res, f10_trim sx st sh y1 y2 = some (.inl res) ∧ res.1 = w ∧ m'.1 2 = 0 ∧ AllR (res.2.1) sr (res.2.2.1) sg (res.2.2.2) sv sp spt sph spv m') ∨ ∃ j, f10_trim sx st sh y1 y2 = some (.inr j) ∧ (j = 1) ∧ m'.1 2 = kfN j ∧ AllR sx sr st sg sh sv sp spt sph spv m') := by
  obtain ⟨r, T, k, hs, V, hR, hI⟩ := h
  obtain ⟨w, m', a1, (⟨s, a2, a3, a4⟩ | ⟨j, a2, a3, a4⟩)⟩ := A_trim hR hI y1 y2
  · exact ⟨w, m', a1, .inl ⟨(w, s), a2, rfl, a3, a4⟩⟩
  · exact ⟨w, m', a1, .inr ⟨j, a2, J_trim _ a2, a3, a4⟩⟩
theorem N_breaks (h : AllR sx sr st sg sh sv sp spt sph spv mm) (y1 : Int32) : ∃ w m', f11_breaks mm y1 = some (w, m') ∧ ((∃ res, f10_breaks sx st sh y1 = some (.inl res) ∧ res.1 = w ∧ m'.1 2 = 0 ∧ AllR (res.2.1) sr (res.2.2.1) sg (res.2.2.2) sv sp spt sph spv m') ∨ ∃ j, f10_breaks sx st sh y1 = some (.inr j) ∧ (j = 1) ∧ m'.1 2 = kfN j ∧ AllR sx sr st sg sh sv sp spt sph spv m') := by
  obtain ⟨r, T, k, hs, V, hR, hI⟩ := h
  obtain ⟨w, m', a1, (⟨s, a2, a3, a4⟩ | ⟨j, a2, a3, a4⟩)⟩ := A_breaks hR hI y1
  · exact ⟨w, m', a1, .inl ⟨(w, s), a2, rfl, a3, a4⟩⟩
  · exact ⟨w, m', a1, .inr ⟨j, a2, J_breaks _ a2, a3, a4⟩⟩
theorem N_give (h : AllR sx sr st sg sh sv sp spt sph spv mm) (y1 : Int32) (y2 : Int32) : ∃ w m', f11_give mm y1 y2 = some (w, m') ∧ ((∃ res, f10_give sx st sh y1 y2 = some (.inl res) ∧ res.1 = w ∧ m'.1 2 = 0 ∧ AllR (res.2.1) sr (res.2.2.1) sg (res.2.2.2) sv sp spt sph spv m') ∨ ∃ j, f10_give sx st sh y1 y2 = some (.inr j) ∧ (j = 1) ∧ m'.1 2 = kfN j ∧ AllR sx sr st sg sh sv sp spt sph spv m') := by
  obtain ⟨r, T, k, hs, V, hR, hI⟩ := h
  obtain ⟨w, m', a1, (⟨s, a2, a3, a4⟩ | ⟨j, a2, a3, a4⟩)⟩ := A_give hR hI y1 y2
  · exact ⟨w, m', a1, .inl ⟨(w, s), a2, rfl, a3, a4⟩⟩
  · exact ⟨w, m', a1, .inr ⟨j, a2, J_give _ a2, a3, a4⟩⟩
theorem N_sleep (h : AllR sx sr st sg sh sv sp spt sph spv mm) (y1 : Int32) (y2 : Int32) (y3 : Int32) : ∃ w m', f11_sleep mm y1 y2 y3 = some (w, m') ∧ ((∃ res, f10_sleep sx st sh y1 y2 y3 = some (.inl res) ∧ res.1 = w ∧ m'.1 2 = 0 ∧ AllR (res.2.1) sr (res.2.2.1) sg (res.2.2.2) sv sp spt sph spv m') ∨ ∃ j, f10_sleep sx st sh y1 y2 y3 = some (.inr j) ∧ (j = 1) ∧ m'.1 2 = kfN j ∧ AllR sx sr st sg sh sv sp spt sph spv m') := by
  obtain ⟨r, T, k, hs, V, hR, hI⟩ := h
  obtain ⟨w, m', a1, (⟨s, a2, a3, a4⟩ | ⟨j, a2, a3, a4⟩)⟩ := A_sleep hR hI y1 y2 y3
  · exact ⟨w, m', a1, .inl ⟨(w, s), a2, rfl, a3, a4⟩⟩
  · exact ⟨w, m', a1, .inr ⟨j, a2, J_sleep _ a2, a3, a4⟩⟩
theorem N_then (h : AllR sx sr st sg sh sv sp spt sph spv mm) (st2 : St) (se : St) (y1 : Int32) : ∃ w m', f11_then mm y1 = some (w, m') ∧ ((∃ res, f10_then sx st st2 se sg y1 = some (.inl res) ∧ res.1 = w ∧ m'.1 2 = 0 ∧ AllR sx sr st (res.2.2.2) sh sv sp spt sph spv m') ∨ ∃ j, f10_then sx st st2 se sg y1 = some (.inr j) ∧ (j = 0) ∧ m'.1 2 = kfI j ∧ AllR sx sr st sg sh sv sp spt sph spv m') := by
  obtain ⟨r, T, k, hs, V, hR, hI⟩ := h
  obtain ⟨w, m', a1, (⟨s, a2, a3, a4⟩ | ⟨j, a2, a3, a4⟩)⟩ := Q_then hR.ct hR.mt hR.cr hR.mr hR.ok hR.liO (Nat.lt_succ_of_le hR.o9) st2 se sx y1
  · exact ⟨w, m', a1, .inl ⟨(w, s), a2, rfl, a3, AllR.q hR hI a4⟩⟩
  · exact ⟨w, m', a1, .inr ⟨j, a2, J_then _ a2, a3, AllR.q hR hI a4⟩⟩
theorem N_burnt (h : AllR sx sr st sg sh sv sp spt sph spv mm) (st2 : St) (se : St) (y1 : Int32) (y2 : Int32) : ∃ w m', f11_burnt mm y1 y2 = some (w, m') ∧ ((∃ res, f10_burnt sx st st2 se sg y1 y2 = some (.inl res) ∧ res.1 = w ∧ m'.1 2 = 0 ∧ AllR sx sr st (res.2.2.2) sh sv sp spt sph spv m') ∨ ∃ j, f10_burnt sx st st2 se sg y1 y2 = some (.inr j) ∧ (j = 0 ∨ j = 1) ∧ m'.1 2 = kfN j ∧ AllR sx sr st sg sh sv sp spt sph spv m') := by
  obtain ⟨r, T, k, hs, V, hR, hI⟩ := h
  obtain ⟨w, m', a1, (⟨s, a2, a3, a4⟩ | ⟨j, a2, a3, a4⟩)⟩ := Q_burnt hR.ct hR.mt hR.cr hR.mr hR.ok hR.liO (Nat.lt_succ_of_le hR.o9) st2 se sx y1 y2
  · exact ⟨w, m', a1, .inl ⟨(w, s), a2, rfl, a3, AllR.q hR hI a4⟩⟩
  · exact ⟨w, m', a1, .inr ⟨j, a2, J_burnt _ a2, a3, AllR.q hR hI a4⟩⟩
theorem N_shining (h : AllR sx sr st sg sh sv sp spt sph spv mm) (st2 : St) (se : St) (y1 : Int32) (y2 : Int32) : ∃ w m', f11_shining mm y1 y2 = some (w, m') ∧ ((∃ res, f10_shining sx st st2 se sg y1 y2 = some (.inl res) ∧ res.1 = w ∧ m'.1 2 = 0 ∧ AllR sx sr st (res.2.2.2) sh sv sp spt sph spv m') ∨ ∃ j, f10_shining sx st st2 se sg y1 y2 = some (.inr j) ∧ (j = 0 ∨ j = 1) ∧ m'.1 2 = kfN j ∧ AllR sx sr st sg sh sv sp spt sph spv m') := by
  obtain ⟨r, T, k, hs, V, hR, hI⟩ := h
  obtain ⟨w, m', a1, (⟨s, a2, a3, a4⟩ | ⟨j, a2, a3, a4⟩)⟩ := Q_shining hR.ct hR.mt hR.cr hR.mr hR.ok hR.liO (Nat.lt_succ_of_le hR.o9) st2 se sx y1 y2
  · exact ⟨w, m', a1, .inl ⟨(w, s), a2, rfl, a3, AllR.q hR hI a4⟩⟩
  · exact ⟨w, m', a1, .inr ⟨j, a2, J_shining _ a2, a3, AllR.q hR hI a4⟩⟩
theorem N_soonest (h : AllR sx sr st sg sh sv sp spt sph spv mm) (st2 : St) (se : St) (y1 : Int32) : ∃ w m', f11_soonest mm y1 = some (w, m') ∧ ((∃ res, f10_soonest sx st st2 se sg y1 = some (.inl res) ∧ res.1 = w ∧ m'.1 2 = 0 ∧ AllR sx sr st (res.2.2.2) sh sv sp spt sph spv m') ∨ ∃ j, f10_soonest sx st st2 se sg y1 = some (.inr j) ∧ (j = 1) ∧ m'.1 2 = kfN j ∧ AllR sx sr st sg sh sv sp spt sph spv m') := by
  obtain ⟨r, T, k, hs, V, hR, hI⟩ := h
  obtain ⟨w, m', a1, (⟨s, a2, a3, a4⟩ | ⟨j, a2, a3, a4⟩)⟩ := Q_soonest hR.ct hR.mt hR.cr hR.mr hR.ok hR.liO (Nat.lt_succ_of_le hR.o9) st2 se sx y1
  · exact ⟨w, m', a1, .inl ⟨(w, s), a2, rfl, a3, AllR.q hR hI a4⟩⟩
  · exact ⟨w, m', a1, .inr ⟨j, a2, J_soonest _ a2, a3, AllR.q hR hI a4⟩⟩
theorem N_busiest (h : AllR sx sr st sg sh sv sp spt sph spv mm) (y1 : Int32) : ∃ w m', f11_busiest mm y1 = some (w, m') ∧ ((∃ res, f10_busiest sx st sg y1 = some (.inl res) ∧ res.1 = w ∧ m'.1 2 = 0 ∧ AllR sx sr st (res.2) sh sv sp spt sph spv m') ∨ ∃ j, f10_busiest sx st sg y1 = some (.inr j) ∧ (j = 1) ∧ m'.1 2 = kfN j ∧ AllR sx sr st sg sh sv sp spt sph spv m') := by
  obtain ⟨r, T, k, hs, V, hR, hI⟩ := h
  obtain ⟨w, m', a1, (⟨s, a2, a3, a4⟩ | ⟨j, a2, a3, a4⟩)⟩ := Q_busiest hR.ct hR.mt hR.cr hR.mr hR.ok sx y1
  · exact ⟨w, m', a1, .inl ⟨(w, s), a2, rfl, a3, AllR.q hR hI a4⟩⟩
  · exact ⟨w, m', a1, .inr ⟨j, a2, J_busiest _ a2, a3, AllR.q hR hI a4⟩⟩
theorem N_lasts (h : AllR sx sr st sg sh sv sp spt sph spv mm) (st2 : St) (se : St) (y1 : Int32) : ∃ w m', f11_lasts mm y1 = some (w, m') ∧ ((∃ res, f10_lasts sx st st2 se sg y1 = some (.inl res) ∧ res.1 = w ∧ m'.1 2 = 0 ∧ AllR sx sr st (res.2.2.2) sh sv sp spt sph spv m') ∨ ∃ j, f10_lasts sx st st2 se sg y1 = some (.inr j) ∧ (j = 1) ∧ m'.1 2 = kfN j ∧ AllR sx sr st sg sh sv sp spt sph spv m') := by
  obtain ⟨r, T, k, hs, V, hR, hI⟩ := h
  obtain ⟨w, m', a1, (⟨s, a2, a3, a4⟩ | ⟨j, a2, a3, a4⟩)⟩ := Q_lasts hR.ct hR.mt hR.cr hR.mr hR.ok hR.liO (Nat.lt_succ_of_le hR.o9) st2 se sx y1
  · exact ⟨w, m', a1, .inl ⟨(w, s), a2, rfl, a3, AllR.q hR hI a4⟩⟩
  · exact ⟨w, m', a1, .inr ⟨j, a2, J_lasts _ a2, a3, AllR.q hR hI a4⟩⟩
theorem N_grief (h : AllR sx sr st sg sh sv sp spt sph spv mm) (st2 : St) (se : St) (y1 : Int32) (y2 : Int32) : ∃ w m', f11_grief mm y1 y2 = some (w, m') ∧ ((∃ res, f10_grief sx st st2 se sg y1 y2 = some (.inl res) ∧ res.1 = w ∧ m'.1 2 = 0 ∧ AllR sx sr st (res.2.2.2) sh sv sp spt sph spv m') ∨ ∃ j, f10_grief sx st st2 se sg y1 y2 = some (.inr j) ∧ (j = 0 ∨ j = 1) ∧ m'.1 2 = kfN j ∧ AllR sx sr st sg sh sv sp spt sph spv m') := by
  obtain ⟨r, T, k, hs, V, hR, hI⟩ := h
  obtain ⟨w, m', a1, (⟨s, a2, a3, a4⟩ | ⟨j, a2, a3, a4⟩)⟩ := Q_grief hR.ct hR.mt hR.cr hR.mr hR.ok hR.liO (Nat.lt_succ_of_le hR.o9) st2 se sx y1 y2
  · exact ⟨w, m', a1, .inl ⟨(w, s), a2, rfl, a3, AllR.q hR hI a4⟩⟩
  · exact ⟨w, m', a1, .inr ⟨j, a2, J_grief _ a2, a3, AllR.q hR hI a4⟩⟩
theorem N_quarrels (h : AllR sx sr st sg sh sv sp spt sph spv mm) (st2 : St) (se : St) (y1 : Int32) : ∃ w m', f11_quarrels mm y1 = some (w, m') ∧ ((∃ res, f10_quarrels sx st st2 se sg y1 = some (.inl res) ∧ res.1 = w ∧ m'.1 2 = 0 ∧ AllR sx sr st (res.2.2.2) sh sv sp spt sph spv m') ∨ ∃ j, f10_quarrels sx st st2 se sg y1 = some (.inr j) ∧ (j = 0) ∧ m'.1 2 = kfI j ∧ AllR sx sr st sg sh sv sp spt sph spv m') := by
  obtain ⟨r, T, k, hs, V, hR, hI⟩ := h
  obtain ⟨w, m', a1, (⟨s, a2, a3, a4⟩ | ⟨j, a2, a3, a4⟩)⟩ := Q_quarrels hR.ct hR.mt hR.cr hR.mr hR.ok hR.liO (Nat.lt_succ_of_le hR.o9) st2 se sx y1
  · exact ⟨w, m', a1, .inl ⟨(w, s), a2, rfl, a3, AllR.q hR hI a4⟩⟩
  · exact ⟨w, m', a1, .inr ⟨j, a2, J_quarrels _ a2, a3, AllR.q hR hI a4⟩⟩
theorem N_joined (h : AllR sx sr st sg sh sv sp spt sph spv mm) (y1 : Int32) (y2 : Int32) : ∃ w m', f11_joined mm y1 y2 = some (w, m') ∧ ((∃ res, f10_joined sx st y1 y2 = some (.inl res) ∧ res = w ∧ m'.1 2 = 0 ∧ AllR sx sr st sg sh sv sp spt sph spv m') ∨ ∃ j, f10_joined sx st y1 y2 = some (.inr j) ∧ (j = 1) ∧ m'.1 2 = kfN j ∧ AllR sx sr st sg sh sv sp spt sph spv m') := by
  obtain ⟨r, T, k, hs, V, hR, hI⟩ := h
  obtain ⟨w, m', a1, a4, (⟨a2, a3⟩ | ⟨j, a2, a3⟩)⟩ := Q_joined hR.ct hR.mt hR.cr sx y1 y2
  · exact ⟨w, m', a1, .inl ⟨w, a2, rfl, a3, AllR.q hR hI a4⟩⟩
  · exact ⟨w, m', a1, .inr ⟨j, a2, J_joined _ a2, a3, AllR.q hR hI a4⟩⟩
theorem N_strife (h : AllR sx sr st sg sh sv sp spt sph spv mm) (sm : St) (y1 : Int32) (y2 : Int32) : ∃ w m', f11_strife mm y1 y2 = some (w, m') ∧ ((∃ res, f10_strife sx st sg sm y1 y2 = some (.inl res) ∧ res.1 = w ∧ m'.1 2 = 0 ∧ AllR sx sr st (res.2.1) sh sv sp spt sph spv m') ∨ ∃ j, f10_strife sx st sg sm y1 y2 = some (.inr j) ∧ (j = 1) ∧ m'.1 2 = kfN j ∧ AllR sx sr st sg sh sv sp spt sph spv m') := by
  obtain ⟨r, T, k, hs, V, hR, hI⟩ := h
  obtain ⟨w, m', a1, (⟨s, a2, a3, a4⟩ | ⟨j, a2, a3, a4⟩)⟩ := Q_strife hR.ct hR.mt hR.cr hR.mr hR.ok sm sx y1 y2
  · exact ⟨w, m', a1, .inl ⟨(w, s), a2, rfl, a3, AllR.q hR hI a4⟩⟩
  · exact ⟨w, m', a1, .inr ⟨j, a2, J_strife _ a2, a3, AllR.q hR hI a4⟩⟩
theorem N_better (h : AllR sx sr st sg sh sv sp spt sph spv mm) (sm : St) (y1 : Int32) : ∃ w m', f11_better mm y1 = some (w, m') ∧ ((∃ res, f10_better sx st sg sm y1 = some (.inl res) ∧ res.1 = w ∧ m'.1 2 = 0 ∧ AllR sx sr st (res.2.1) sh sv sp spt sph spv m') ∨ ∃ j, f10_better sx st sg sm y1 = some (.inr j) ∧ (j = 1) ∧ m'.1 2 = kfN j ∧ AllR sx sr st sg sh sv sp spt sph spv m') := by
  obtain ⟨r, T, k, hs, V, hR, hI⟩ := h
  obtain ⟨w, m', a1, (⟨s, a2, a3, a4⟩ | ⟨j, a2, a3, a4⟩)⟩ := Q_better hR.ct hR.mt hR.cr hR.mr hR.ok sm sx y1
  · exact ⟨w, m', a1, .inl ⟨(w, s), a2, rfl, a3, AllR.q hR hI a4⟩⟩
  · exact ⟨w, m', a1, .inr ⟨j, a2, J_better _ a2, a3, AllR.q hR hI a4⟩⟩
theorem N_treaty (h : AllR sx sr st sg sh sv sp spt sph spv mm) (st2 : St) (se : St) (y1 : Int32) : ∃ w m', f11_treaty mm y1 = some (w, m') ∧ ((∃ res, f10_treaty sx st st2 se sg y1 = some (.inl res) ∧ res.1 = w ∧ m'.1 2 = 0 ∧ AllR sx sr st (res.2.2.2) sh sv sp spt sph spv m') ∨ ∃ j, f10_treaty sx st st2 se sg y1 = some (.inr j) ∧ (j = 1) ∧ m'.1 2 = kfN j ∧ AllR sx sr st sg sh sv sp spt sph spv m') := by
  obtain ⟨r, T, k, hs, V, hR, hI⟩ := h
  obtain ⟨w, m', a1, (⟨s, a2, a3, a4⟩ | ⟨j, a2, a3, a4⟩)⟩ := Q_treaty hR.ct hR.mt hR.cr hR.mr hR.ok hR.liO (Nat.lt_succ_of_le hR.o9) st2 se sx y1
  · exact ⟨w, m', a1, .inl ⟨(w, s), a2, rfl, a3, AllR.q hR hI a4⟩⟩
  · exact ⟨w, m', a1, .inr ⟨j, a2, J_treaty _ a2, a3, AllR.q hR hI a4⟩⟩
theorem N_fund (h : AllR sx sr st sg sh sv sp spt sph spv mm) (st2 : St) (y1 : Int32) : ∃ w m', f11_fund mm y1 = some (w, m') ∧ ((∃ res, f10_fund sx st st2 y1 = some (.inl res) ∧ res.1 = w ∧ m'.1 2 = 0 ∧ AllR sx sr st sg sh sv sp spt sph spv m') ∨ ∃ j, f10_fund sx st st2 y1 = some (.inr j) ∧ (j = 1) ∧ m'.1 2 = kfN j ∧ AllR sx sr st sg sh sv sp spt sph spv m') := by
  obtain ⟨r, T, k, hs, V, hR, hI⟩ := h
  obtain ⟨w, m', a1, (⟨s, a2, a3, a4⟩ | ⟨j, a2, a3, a4⟩)⟩ := Q_fund hR.ct hR.mt hR.cr st2 sx y1
  · exact ⟨w, m', a1, .inl ⟨(w, s), a2, rfl, a3, AllR.q hR hI a4⟩⟩
  · exact ⟨w, m', a1, .inr ⟨j, a2, J_fund _ a2, a3, AllR.q hR hI a4⟩⟩
theorem N_signals (h : AllR sx sr st sg sh sv sp spt sph spv mm) (y1 : Int32) : ∃ w m', f11_signals mm y1 = some (w, m') ∧ ((∃ res, f10_signals sx st y1 = some (.inl res) ∧ res = w ∧ m'.1 2 = 0 ∧ AllR sx sr st sg sh sv sp spt sph spv m') ∨ ∃ j, f10_signals sx st y1 = some (.inr j) ∧ (j = 0) ∧ m'.1 2 = kfI j ∧ AllR sx sr st sg sh sv sp spt sph spv m') := by
  obtain ⟨r, T, k, hs, V, hR, hI⟩ := h
  obtain ⟨w, m', a1, a4, (⟨a2, a3⟩ | ⟨j, a2, a3⟩)⟩ := Q_signals hR.ct hR.mt hR.cr sx y1
  · exact ⟨w, m', a1, .inl ⟨w, a2, rfl, a3, AllR.q hR hI a4⟩⟩
  · exact ⟨w, m', a1, .inr ⟨j, a2, J_signals _ a2, a3, AllR.q hR hI a4⟩⟩
theorem N_see (h : AllR sx sr st sg sh sv sp spt sph spv mm) (y1 : Int32) (y2 : Int32) (y3 : Bool) : ∃ w m', f11_see mm y1 y2 y3 = some (w, m') ∧ ((∃ res, f10_see sx st sv y1 y2 y3 = some (.inl res) ∧ res.1 = w ∧ m'.1 2 = 0 ∧ AllR (res.2.1) sr st sg sh (res.2.2) sp spt sph spv m') ∨ ∃ j, f10_see sx st sv y1 y2 y3 = some (.inr j) ∧ (j = 1) ∧ m'.1 2 = kfN j ∧ AllR sx sr st sg sh sv sp spt sph spv m') := by
  obtain ⟨r, T, k, hs, V, hR, hI⟩ := h
  obtain ⟨w, m', a1, (⟨s, a2, a3, a4⟩ | ⟨j, a2, a3, a4⟩)⟩ := A_see hR hI y1 y2 y3
  · exact ⟨w, m', a1, .inl ⟨(w, s), a2, rfl, a3, a4⟩⟩
  · exact ⟨w, m', a1, .inr ⟨j, a2, J_see _ a2, a3, a4⟩⟩
theorem N_whose (h : AllR sx sr st sg sh sv sp spt sph spv mm) (st2 : St) (se : St) (y1 : Int32) : ∃ w m', f11_whose mm y1 = some (w, m') ∧ ((∃ res, f10_whose sx st st2 se sg sv y1 = some (.inl res) ∧ res.1 = w ∧ m'.1 2 = 0 ∧ AllR sx sr st (res.2.2.2) sh sv sp spt sph spv m') ∨ ∃ j, f10_whose sx st st2 se sg sv y1 = some (.inr j) ∧ (j = 1) ∧ m'.1 2 = kfN j ∧ AllR sx sr st sg sh sv sp spt sph spv m') := by
  obtain ⟨r, T, k, hs, V, hR, hI⟩ := h
  obtain ⟨w, m', a1, (⟨s, a2, a3, a4⟩ | ⟨j, a2, a3, a4⟩)⟩ := Q_whose hR.ct hR.mt hR.cr hR.mr hR.ok hR.liO (by have := hR.o9; omega) hR.cv hR.mv sx st2 se y1
  · exact ⟨w, m', a1, .inl ⟨(w, s), a2, rfl, a3, AllR.q hR hI a4⟩⟩
  · exact ⟨w, m', a1, .inr ⟨j, a2, J_whose _ a2, a3, AllR.q hR hI a4⟩⟩
theorem N_look (h : AllR sx sr st sg sh sv sp spt sph spv mm) (st2 : St) (se : St) (y1 : Int32) (y2 : Int32) : ∃ w m', f11_look mm y1 y2 = some (w, m') ∧ ((∃ res, f10_look sx st st2 se sg sv y1 y2 = some (.inl res) ∧ res.1 = w ∧ m'.1 2 = 0 ∧ AllR (res.2.1) sr st (res.2.2.2.2) sh sv sp spt sph spv m') ∨ ∃ j, f10_look sx st st2 se sg sv y1 y2 = some (.inr j) ∧ (j = 1) ∧ m'.1 2 = kfN j ∧ AllR sx sr st sg sh sv sp spt sph spv m') := by
  obtain ⟨r, T, k, hs, V, hR, hI⟩ := h
  obtain ⟨w, m', a1, (⟨s, a2, a3, a4⟩ | ⟨j, a2, a3, a4⟩)⟩ := Q_look hR.ct hR.mt hR.cr hR.mr hR.ok hR.liO (by have := hR.o9; omega) hR.cv hR.mv sx st2 se y1 y2
  · exact ⟨w, m', a1, .inl ⟨(w, s), a2, rfl, a3, AllR_sx (AllR.q hR hI a4.1) a4.2⟩⟩
  · exact ⟨w, m', a1, .inr ⟨j, a2, J_look _ a2, a3, AllR_sx (AllR.q hR hI a4.1) a4.2⟩⟩
theorem N_game (h : AllR sx sr st sg sh sv sp spt sph spv mm) (su : St) (y1 : Int32) (y2 : Int32) (y3 : Int32) : ∃ w m', f11_game mm y1 y2 y3 = some (w, m') ∧ ((∃ res, f10_game sx st sg su y1 y2 y3 = some (.inl res) ∧ res.1 = w ∧ m'.1 2 = 0 ∧ AllR sx sr st (res.2.1) sh sv sp spt sph spv m') ∨ ∃ j, f10_game sx st sg su y1 y2 y3 = some (.inr j) ∧ (j = 0 ∨ j = 1) ∧ m'.1 2 = kfN j ∧ AllR sx sr st sg sh sv sp spt sph spv m') := by
  obtain ⟨r, T, k, hs, V, hR, hI⟩ := h
  obtain ⟨w, m', a1, (⟨s, a2, a3, a4⟩ | ⟨j, a2, a3, a4⟩)⟩ := Q_game hR.ct hR.mt hR.cr hR.mr hR.ok hR.liT su sx y1 y2 y3
  · exact ⟨w, m', a1, .inl ⟨(w, s), a2, rfl, a3, AllR.q hR hI a4⟩⟩
  · exact ⟨w, m', a1, .inr ⟨j, a2, J_game _ a2, a3, AllR.q hR hI a4⟩⟩
theorem N_winter (h : AllR sx sr st sg sh sv sp spt sph spv mm) (st2 : St) (se : St) (sd : St) (y1 : Int32) (y2 : Int32) (y3 : Int32) : ∃ w m', f11_winter mm y1 y2 y3 = some (w, m') ∧ ((∃ res, f10_winter sx st st2 se sg sd y1 y2 y3 = some (.inl res) ∧ res.1 = w ∧ m'.1 2 = 0 ∧ AllR sx sr st (res.2.2.2.1) sh sv sp spt sph spv m') ∨ ∃ j, f10_winter sx st st2 se sg sd y1 y2 y3 = some (.inr j) ∧ (j = 0 ∨ j = 1) ∧ m'.1 2 = kfN j ∧ AllR sx sr st sg sh sv sp spt sph spv m') := by
  obtain ⟨r, T, k, hs, V, hR, hI⟩ := h
  obtain ⟨w, m', a1, (⟨s, a2, a3, a4⟩ | ⟨j, a2, a3, a4⟩)⟩ := Q_winter hR.ct hR.mt hR.cr hR.mr hR.ok hR.liO (Nat.lt_succ_of_le hR.o9) st2 se sd sx y1 y2 y3
  · exact ⟨w, m', a1, .inl ⟨(w, s), a2, rfl, a3, AllR.q hR hI a4⟩⟩
  · exact ⟨w, m', a1, .inr ⟨j, a2, J_winter _ a2, a3, AllR.q hR hI a4⟩⟩
end
