/-! the rule: steps on a stack -/
def opF (k : Nat) (a b : Int32) : Int32 := match k with
  | 0 => a + b
  | 1 => a - b
  | 2 => a * b
  | 3 => if b = 0 then 0 else a / b
  | 4 => if a < b then 1 else 0
  | 5 => if a = b then 1 else 0
  | 6 => if a = 0 then 0 else if b = 0 then 0 else 1
  | _ => if a = 0 then if b = 0 then 0 else 1 else 1
/-- a step: below 10000 a number, 10000 to 10005 a value, 10010 to 10017 what joins two, 10018 not -/
def cOp : Nat → Int32
  | 0 => -43
  | 1 => -45
  | 2 => -42
  | 3 => -47
  | 4 => -60
  | 5 => -61
  | 6 => -308
  | 7 => -307
  | _ => -309
def cC (s : Nat) : Int32 := if s < 10000 then nI s else if s < 10006 then -310 - nI (s - 10000) else cOp (s - 10010)
def mC (s : Nat) : Int32 := if s < 10000 then nI s else if s < 10006 then -1 - nI (s - 10000) else -20 - nI (s - 10010)
def evS (v : Nat → Int32) (s : Nat) (q : Nat × (Nat → Int32)) : Nat × (Nat → Int32) :=
  if s < 10000 then (q.1 + 1, upd q.2 q.1 (nI s)) else if s < 10006 then (q.1 + 1, upd q.2 q.1 (v (s - 10000))) else if s = 10018 then (q.1, upd q.2 (q.1 - 1) (if q.2 (q.1 - 1) = 0 then 1 else 0)) else (q.1 - 1, upd q.2 (q.1 - 2) (opF (s - 10010) (q.2 (q.1 - 2)) (q.2 (q.1 - 1))))
def evN (v : Nat → Int32) (c : Nat → Nat) : Nat → Nat × (Nat → Int32)
  | 0 => (0, fun _ => 0)
  | k + 1 => evS v (c k) (evN v c k)
def hgS (s h : Nat) : Nat := if s < 10006 then h + 1 else if s = 10018 then h else h - 1
def hgN (c : Nat → Nat) : Nat → Nat
  | 0 => 0
  | k + 1 => hgS (c k) (hgN c k)
theorem evN_1 (v : Nat → Int32) (c : Nat → Nat) : ∀ k, (evN v c k).1 = hgN c k := by
  intro k
  induction k with
  | zero => rfl
  | succ k ih =>
    unfold evN hgN evS hgS
    rw [← ih]
    by_cases h1 : c k < 10000
    · rw [if_pos h1, if_pos (by omega)]
    · rw [if_neg h1]
      by_cases h2 : c k < 10006
      · rw [if_pos h2, if_pos h2]
      · rw [if_neg h2, if_neg h2]
        by_cases h3 : c k = 10018
        · rw [if_pos h3, if_pos h3]
        · rw [if_neg h3, if_neg h3]
def okS (s h : Nat) : Prop := s < 10006 ∧ h < 64 ∨ s = 10018 ∧ 1 ≤ h ∨ (10010 ≤ s ∧ s < 10018) ∧ 2 ≤ h
theorem cC_n {s : Nat} (h : s < 10000) : cC s = nI s := if_pos h
theorem mC_n {s : Nat} (h : s < 10000) : mC s = nI s := if_pos h
theorem cC_v : ∀ j, j < 6 → (¬ (0 : Int32) ≤ cC (10000 + j) ∧ ¬ ((-310) : Int32) < cC (10000 + j) ∧ cC (10000 + j) < 0 ∧ -cC (10000 + j) - 310 = nI j) := by decide +kernel
theorem mC_v : ∀ j, j < 6 → (¬ mC (10000 + j) ≤ (-20) ∧ mC (10000 + j) < 0 ∧ (-1) - mC (10000 + j) = nI j) := by decide +kernel
theorem cC_o : ∀ j, j < 9 → (¬ (0 : Int32) ≤ cC (10010 + j) ∧ ((-310) : Int32) < cC (10010 + j) ∧ (cC (10010 + j) = -309 ↔ j = 8)) := by decide +kernel
theorem mC_o : ∀ j, j < 9 → (mC (10010 + j) ≤ (-20) ∧ (mC (10010 + j) = -28 ↔ j = 8)) := by decide +kernel
theorem dvO_n {x y : Int32} (h : ¬ y = 0) : dvO x y = some (x / y) := if_neg h
theorem ifle {x y : Int32} : (if y ≤ x then some 0 else some 1 : Option Int32) = some (if x < y then 1 else 0) := by
  by_cases h : x < y
  · rw [if_neg (fa_of_lt h).2.1, if_pos h]
  · rw [if_pos (fa_of_nlt h), if_neg h]
theorem ifq {x y : Int32} : (if x = y then some 1 else some 0 : Option Int32) = some (if x = y then 1 else 0) := by
  by_cases h : x = y
  · rw [if_pos h, if_pos h]
  · rw [if_neg h, if_neg h]
theorem if3 {x y : Int32} : (if x = 0 then some 0 else if y = 0 then some 0 else some 1 : Option Int32) = some (if x = 0 then 0 else if y = 0 then 0 else 1) := by
  by_cases h : x = 0
  · rw [if_pos h, if_pos h]
  · rw [if_neg h, if_neg h]
    by_cases g : y = 0
    · rw [if_pos g, if_pos g]
    · rw [if_neg g, if_neg g]
theorem if4 {x y : Int32} : (if x = 0 then if y = 0 then some 0 else some 1 else some 1 : Option Int32) = some (if x = 0 then if y = 0 then 0 else 1 else 1) := by
  by_cases h : x = 0
  · rw [if_pos h, if_pos h]
    by_cases g : y = 0
    · rw [if_pos g, if_pos g]
    · rw [if_neg g, if_neg g]
  · rw [if_neg h, if_neg h]
theorem ifdv {x y : Int32} : (if y = 0 then some 0 else (dvO x y).bind fun q1 => some q1 : Option Int32) = some (if y = 0 then 0 else x / y) := by
  by_cases h : y = 0
  · rw [if_pos h, if_pos h]
  · rw [if_neg h, if_neg h, dvO_n h]; rfl
theorem tog_0 (a b : Int32) : f7_together (-cC 10010) a b = some (opF 0 a b) := by
  unfold f7_together
  rw [if_neg (by decide +kernel : ¬ -cC 10010 = 42)]
  rw [if_pos (by decide +kernel : -cC 10010 = 43)]
  exact rfl
theorem tog_1 (a b : Int32) : f7_together (-cC 10011) a b = some (opF 1 a b) := by
  unfold f7_together
  rw [if_neg (by decide +kernel : ¬ -cC 10011 = 42)]
  rw [if_neg (by decide +kernel : ¬ -cC 10011 = 43)]
  rw [if_pos (by decide +kernel : -cC 10011 = 45)]
  exact rfl
theorem tog_2 (a b : Int32) : f7_together (-cC 10012) a b = some (opF 2 a b) := by
  unfold f7_together
  rw [if_pos (by decide +kernel : -cC 10012 = 42)]
  exact rfl
theorem tog_3 (a b : Int32) : f7_together (-cC 10013) a b = some (opF 3 a b) := by
  unfold f7_together
  rw [if_neg (by decide +kernel : ¬ -cC 10013 = 42)]
  rw [if_neg (by decide +kernel : ¬ -cC 10013 = 43)]
  rw [if_neg (by decide +kernel : ¬ -cC 10013 = 45)]
  rw [if_pos (by decide +kernel : -cC 10013 = 47)]
  exact ifdv
theorem tog_4 (a b : Int32) : f7_together (-cC 10014) a b = some (opF 4 a b) := by
  unfold f7_together
  rw [if_neg (by decide +kernel : ¬ -cC 10014 = 42)]
  rw [if_neg (by decide +kernel : ¬ -cC 10014 = 43)]
  rw [if_neg (by decide +kernel : ¬ -cC 10014 = 45)]
  rw [if_neg (by decide +kernel : ¬ -cC 10014 = 47)]
  rw [if_pos (by decide +kernel : -cC 10014 = 60)]
  exact ifle
theorem tog_5 (a b : Int32) : f7_together (-cC 10015) a b = some (opF 5 a b) := by
  unfold f7_together
  rw [if_neg (by decide +kernel : ¬ -cC 10015 = 42)]
  rw [if_neg (by decide +kernel : ¬ -cC 10015 = 43)]
  rw [if_neg (by decide +kernel : ¬ -cC 10015 = 45)]
  rw [if_neg (by decide +kernel : ¬ -cC 10015 = 47)]
  rw [if_neg (by decide +kernel : ¬ -cC 10015 = 60)]
  rw [if_pos (by decide +kernel : -cC 10015 = 61)]
  exact ifq
theorem tog_6 (a b : Int32) : f7_together (-cC 10016) a b = some (opF 6 a b) := by
  unfold f7_together
  rw [if_neg (by decide +kernel : ¬ -cC 10016 = 42)]
  rw [if_neg (by decide +kernel : ¬ -cC 10016 = 43)]
  rw [if_neg (by decide +kernel : ¬ -cC 10016 = 45)]
  rw [if_neg (by decide +kernel : ¬ -cC 10016 = 47)]
  rw [if_neg (by decide +kernel : ¬ -cC 10016 = 60)]
  rw [if_neg (by decide +kernel : ¬ -cC 10016 = 61)]
  rw [if_pos (by decide +kernel : -cC 10016 = 308)]
  exact if3
theorem tog_7 (a b : Int32) : f7_together (-cC 10017) a b = some (opF 7 a b) := by
  unfold f7_together
  rw [if_neg (by decide +kernel : ¬ -cC 10017 = 42)]
  rw [if_neg (by decide +kernel : ¬ -cC 10017 = 43)]
  rw [if_neg (by decide +kernel : ¬ -cC 10017 = 45)]
  rw [if_neg (by decide +kernel : ¬ -cC 10017 = 47)]
  rw [if_neg (by decide +kernel : ¬ -cC 10017 = 60)]
  rw [if_neg (by decide +kernel : ¬ -cC 10017 = 61)]
  rw [if_neg (by decide +kernel : ¬ -cC 10017 = 308)]
  exact if4
theorem rec_0 (a b : Int32) : f11_reckon (mC 10010) a b = some (opF 0 a b) := by
  unfold f11_reckon
  rw [if_neg (by decide +kernel : ¬ mC 10010 = (-26))]
  rw [if_neg (by decide +kernel : ¬ mC 10010 = (-25))]
  rw [if_neg (by decide +kernel : ¬ mC 10010 = (-24))]
  rw [if_neg (by decide +kernel : ¬ mC 10010 = (-23))]
  rw [if_neg (by decide +kernel : ¬ mC 10010 = (-22))]
  rw [if_neg (by decide +kernel : ¬ mC 10010 = (-21))]
  rw [if_pos (by decide +kernel : mC 10010 = (-20))]
  exact rfl
theorem rec_1 (a b : Int32) : f11_reckon (mC 10011) a b = some (opF 1 a b) := by
  unfold f11_reckon
  rw [if_neg (by decide +kernel : ¬ mC 10011 = (-26))]
  rw [if_neg (by decide +kernel : ¬ mC 10011 = (-25))]
  rw [if_neg (by decide +kernel : ¬ mC 10011 = (-24))]
  rw [if_neg (by decide +kernel : ¬ mC 10011 = (-23))]
  rw [if_neg (by decide +kernel : ¬ mC 10011 = (-22))]
  rw [if_pos (by decide +kernel : mC 10011 = (-21))]
  exact rfl
theorem rec_2 (a b : Int32) : f11_reckon (mC 10012) a b = some (opF 2 a b) := by
  unfold f11_reckon
  rw [if_neg (by decide +kernel : ¬ mC 10012 = (-26))]
  rw [if_neg (by decide +kernel : ¬ mC 10012 = (-25))]
  rw [if_neg (by decide +kernel : ¬ mC 10012 = (-24))]
  rw [if_neg (by decide +kernel : ¬ mC 10012 = (-23))]
  rw [if_pos (by decide +kernel : mC 10012 = (-22))]
  exact rfl
theorem rec_3 (a b : Int32) : f11_reckon (mC 10013) a b = some (opF 3 a b) := by
  unfold f11_reckon
  rw [if_neg (by decide +kernel : ¬ mC 10013 = (-26))]
  rw [if_neg (by decide +kernel : ¬ mC 10013 = (-25))]
  rw [if_neg (by decide +kernel : ¬ mC 10013 = (-24))]
  rw [if_pos (by decide +kernel : mC 10013 = (-23))]
  exact ifdv
theorem rec_4 (a b : Int32) : f11_reckon (mC 10014) a b = some (opF 4 a b) := by
  unfold f11_reckon
  rw [if_neg (by decide +kernel : ¬ mC 10014 = (-26))]
  rw [if_neg (by decide +kernel : ¬ mC 10014 = (-25))]
  rw [if_pos (by decide +kernel : mC 10014 = (-24))]
  exact ifle
theorem rec_5 (a b : Int32) : f11_reckon (mC 10015) a b = some (opF 5 a b) := by
  unfold f11_reckon
  rw [if_neg (by decide +kernel : ¬ mC 10015 = (-26))]
  rw [if_pos (by decide +kernel : mC 10015 = (-25))]
  exact ifq
theorem rec_6 (a b : Int32) : f11_reckon (mC 10016) a b = some (opF 6 a b) := by
  unfold f11_reckon
  rw [if_pos (by decide +kernel : mC 10016 = (-26))]
  exact if3
theorem rec_7 (a b : Int32) : f11_reckon (mC 10017) a b = some (opF 7 a b) := by
  unfold f11_reckon
  rw [if_neg (by decide +kernel : ¬ mC 10017 = (-26))]
  rw [if_neg (by decide +kernel : ¬ mC 10017 = (-25))]
  rw [if_neg (by decide +kernel : ¬ mC 10017 = (-24))]
  rw [if_neg (by decide +kernel : ¬ mC 10017 = (-23))]
  rw [if_neg (by decide +kernel : ¬ mC 10017 = (-22))]
  rw [if_neg (by decide +kernel : ¬ mC 10017 = (-21))]
  rw [if_neg (by decide +kernel : ¬ mC 10017 = (-20))]
  exact if4
theorem tog_all (j : Nat) (hj : j < 8) (a b : Int32) : f7_together (-cC (10010 + j)) a b = some (opF j a b) := by
  match j, hj with
  | 0, _ => exact tog_0 a b
  | 1, _ => exact tog_1 a b
  | 2, _ => exact tog_2 a b
  | 3, _ => exact tog_3 a b
  | 4, _ => exact tog_4 a b
  | 5, _ => exact tog_5 a b
  | 6, _ => exact tog_6 a b
  | 7, _ => exact tog_7 a b
  | j + 8, h => exact absurd h (by omega)
theorem rec_all (j : Nat) (hj : j < 8) (a b : Int32) : f11_reckon (mC (10010 + j)) a b = some (opF j a b) := by
  match j, hj with
  | 0, _ => exact rec_0 a b
  | 1, _ => exact rec_1 a b
  | 2, _ => exact rec_2 a b
  | 3, _ => exact rec_3 a b
  | 4, _ => exact rec_4 a b
  | 5, _ => exact rec_5 a b
  | 6, _ => exact rec_6 a b
  | 7, _ => exact rec_7 a b
  | j + 8, h => exact absurd h (by omega)
theorem f10018 : ∀ s : Nat, 10010 ≤ s → s < 10018 → ∃ j, j < 8 ∧ s = 10010 + j := fun s h g => ⟨s - 10010, by omega, by omega⟩
/-- the class's rule -/
def RcR (n : Nat) (c : Nat → Nat) (g : St) : Prop := g.1 3 = nI n ∧ ∀ k, k < n → g.2 0 k = cC (c k)
def RmR (n : Nat) (c : Nat → Nat) (m : St) : Prop := m.2 3 3 = nI n ∧ ∀ k, k < n → m.2 10 k = mC (c k)
def okR (n : Nat) (c : Nat → Nat) : Prop := n ≤ 600 ∧ (∀ k, k < n → okS (c k) (hgN c k)) ∧ (0 < n → hgN c n = 1)
theorem C_valueOf {g : St} {v : Nat → Int32} (hv : ∀ j, j < 6 → g.2 2 j = v j) {j : Nat} (hj : j < 6) : f7_valueOf g (nI j) = some (v j) := by
  unfold f7_valueOf
  rw [if_neg (nI_pos (by omega)), if_neg (show ¬ (6 : Int32) ≤ nI j from nI_ge hj (by decide)), ldO_n _ hj (by decide), hv j hj]
  rfl
theorem okS_h {n : Nat} {c : Nat → Nat} (h : okR n c) {k : Nat} (hk : k ≤ n) : hgN c k ≤ 64 := by
  induction k with
  | zero => exact Nat.zero_le _
  | succ k ih =>
    have := ih (by omega)
    rcases h.2.1 k (by omega) with g | g | g <;> (unfold hgN hgS; (repeat' split) <;> omega)
theorem C_worth {n : Nat} {c : Nat → Nat} {g : St} {v : Nat → Int32} (hR : RcR n c g) (hok : okR n c) (hn : 0 < n) (hv : ∀ j, j < 6 → g.2 2 j = v j) : ∃ g', f7_worth g = some ((evN v c n).2 0, g') ∧ RcR n c g' := by
  have h600 := hok.1
  obtain ⟨r, h1, h2⟩ := lpw_R (F := f7_worth_L1) (fun k s => s.1 = nI (hgN c k) ∧ s.2.1 = nI k ∧ RcR n c s.2.2 ∧ (∀ j, j < 6 → s.2.2.2 2 j = v j) ∧ ∀ j, j < hgN c k → s.2.2.2 1 j = (evN v c k).2 j) (fun r => ∃ g', r = .inr (.inr (.inr (nI 1, g'))) ∧ RcR n c g' ∧ g'.2 1 0 = (evN v c n).2 0) n (s := (0, 0, g)) (by
    rintro k ⟨t, i, g⟩ hk ⟨h1, h2, h3, h4, h5⟩
    dsimp only at h1 h2 h3 h4 h5
    subst h1
    subst h2
    have hh := okS_h hok (show k ≤ n by omega)
    have e1 := evN_1 v c k
    unfold f7_worth_L1
    dsimp only
    rw [h3.1, if_neg (nI_ge hk (by omega)), if_neg (show ¬ (600 : Int32) ≤ nI k from nI_ge (a := k) (b := 600) (by omega) (by decide)), ldO_n _ (by omega) (by decide), h3.2 k hk, Option.bind_some]
    have hS : hgN c (k + 1) = hgS (c k) (hgN c k) := rfl
    have hE : evN v c (k + 1) = evS v (c k) (evN v c k) := rfl
    rcases hok.2.1 k hk with ⟨q1, q2⟩ | ⟨q1, q2⟩ | ⟨⟨q1, q3⟩, q2⟩
    · have hS' : hgN c (k + 1) = hgN c k + 1 := by rw [hS]; unfold hgS; rw [if_pos q1]
      have push : ∀ x, (evN v c (k + 1)).2 = upd (evN v c k).2 (hgN c k) x → ∀ j, j < hgN c k + 1 → upd (g.2 1) (hgN c k) x j = (evN v c (k + 1)).2 j := by
        intro x hx j hj
        rw [hx]
        by_cases e : j = hgN c k
        · rw [e, upd_e, upd_e]
        · rw [upd_n _ _ e, upd_n _ _ e]; exact h5 j (by omega)
      by_cases q0 : c k < 10000
      · rw [cC_n q0, if_pos (nI_pos' (by omega)), if_pos (show nI (hgN c k) < 64 from nI_lt q2 (by decide)), if_neg (nI_pos (by omega)), Option.bind_some, stS_n _ _ _ q2 (by decide), Option.bind_some]
        refine ⟨_, rfl, ?_⟩
        dsimp only
        rw [hS', nI_1, nI_1]
        exact ⟨rfl, rfl, ⟨h3.1, h3.2⟩, h4, push _ (by rw [hE]; unfold evS; rw [if_pos q0, e1])⟩
      · obtain ⟨j, hj, e⟩ : ∃ j, j < 6 ∧ c k = 10000 + j := ⟨c k - 10000, by omega, by omega⟩
        obtain ⟨a1, a2, a3, a4⟩ := cC_v j hj
        rw [← e] at a1 a2 a3 a4
        rw [if_neg a1, if_neg a2, if_pos (show nI (hgN c k) < 64 from nI_lt q2 (by decide)), if_pos a3, a4, C_valueOf h4 hj]
        simp only [Option.bind_some]
        rw [stS_n _ _ _ q2 (by decide), Option.bind_some]
        refine ⟨_, rfl, ?_⟩
        dsimp only
        rw [hS', nI_1, nI_1]
        refine ⟨rfl, rfl, ⟨h3.1, h3.2⟩, h4, push _ ?_⟩
        rw [hE]
        unfold evS
        rw [if_neg q0, if_pos q1, e1]
        have : c k - 10000 = j := by omega
        rw [this]
    · have hS' : hgN c (k + 1) = hgN c k := by rw [hS]; unfold hgS; rw [if_neg (by omega), if_pos q1]
      obtain ⟨a1, a2, a3⟩ := cC_o 8 (by decide)
      rw [show 10010 + 8 = c k by omega] at a1 a2 a3
      have ei : nI (hgN c k) - 1 = nI (hgN c k - 1) := by
        obtain ⟨d, e⟩ : ∃ d, hgN c k = d + 1 := ⟨hgN c k - 1, by omega⟩
        rw [e, nI_pred]; rfl
      rw [if_neg a1, if_pos a2, if_pos (a3.2 rfl), if_pos (show (1 : Int32) ≤ nI (hgN c k) from nI_le q2 (by omega)), ei, ldO_n _ (by omega) (by decide), Option.bind_some, h5 _ (by omega), ifd, Option.bind_some, stS_n _ _ _ (by omega) (by decide), Option.bind_some]
      refine ⟨_, rfl, ?_⟩
      dsimp only
      rw [hS', nI_1]
      refine ⟨rfl, rfl, ⟨h3.1, h3.2⟩, h4, fun j hj => ?_⟩
      rw [hE]
      unfold evS
      rw [if_neg (by omega), if_neg (by omega), if_pos q1, e1]
      show upd (g.2 1) (hgN c k - 1) _ j = upd (evN v c k).2 (hgN c k - 1) _ j
      by_cases e : j = hgN c k - 1
      · rw [e, upd_e, upd_e]
        by_cases z : (evN v c k).2 (hgN c k - 1) = 0
        · rw [if_pos z, decide_eq_true z]; rfl
        · rw [if_neg z, decide_eq_false z]; rfl
      · rw [upd_n _ _ e, upd_n _ _ e]; exact h5 j hj
    · obtain ⟨j, hj, e⟩ := f10018 _ q1 q3
      have hS' : hgN c (k + 1) = hgN c k - 1 := by rw [hS]; unfold hgS; rw [if_neg (by omega), if_neg (by omega)]
      obtain ⟨a1, a2, a3⟩ := cC_o j (by omega)
      rw [← e] at a1 a2 a3
      obtain ⟨d, hd⟩ : ∃ d, hgN c k = d + 2 := ⟨hgN c k - 2, by omega⟩
      have ei : nI (hgN c k) + (-1) = nI (d + 1) := by rw [hd, pk_m1]
      rw [if_neg a1, if_pos a2, if_neg (fun z => by have := a3.1 z; omega), if_pos (show (2 : Int32) ≤ nI (hgN c k) from nI_le q2 (by omega)), ei, nI_pred, ldO_n _ (by omega) (by decide), ldO_n _ (by omega) (by decide), h5 _ (by omega), h5 _ (by omega)]
      simp only [Option.bind_some]
      rw [e, tog_all j hj, Option.bind_some, stS_n _ _ _ (by omega) (by decide), Option.bind_some]
      refine ⟨_, rfl, ?_⟩
      dsimp only
      rw [hS', nI_1, show hgN c k - 1 = d + 1 by omega]
      refine ⟨rfl, rfl, ⟨h3.1, h3.2⟩, h4, fun i hi => ?_⟩
      rw [hE]
      unfold evS
      rw [if_neg (by omega), if_neg (by omega), if_neg (by omega), e1, hd]
      show upd (g.2 1) d _ i = upd (evN v c k).2 (d + 2 - 2) (opF (c k - 10010) ((evN v c k).2 (d + 2 - 2)) ((evN v c k).2 (d + 2 - 1))) i
      rw [show c k - 10010 = j by omega, show d + 2 - 2 = d by omega, show d + 2 - 1 = d + 1 by omega]
      by_cases q : i = d
      · rw [q, upd_e, upd_e]
      · rw [upd_n _ _ q, upd_n _ _ q]; exact h5 i (by omega)) (by
    rintro ⟨t, i, g⟩ ⟨h1, h2, h3, h4, h5⟩
    dsimp only at h1 h2 h3 h4 h5
    subst h1
    subst h2
    have hn1 := hok.2.2 hn
    refine ⟨_, ?_, g, rfl, h3, h5 0 (by omega)⟩
    unfold f7_worth_L1
    dsimp only
    rw [h3.1, if_pos (Int32.le_refl _), hn1]) ⟨rfl, rfl, hR, hv, fun j h => absurd h (Nat.not_lt_zero j)⟩
  obtain ⟨g', rfl, h3, h4⟩ := h2
  refine ⟨g', ?_, h3⟩
  unfold f7_worth
  rw [h1]
  show (if (1 : Int32) ≤ nI 1 then some ((g'.2 1) (0 : Int32).toNatClampNeg, g') else some (0, g')) = _
  rw [if_pos (by decide), cl_0, h4]
theorem M_valueNow {n : Nat} {c : Nat → Nat} {m : St} {v : Nat → Int32} (hR : RmR n c m) (hok : okR n c) (hn : 0 < n) (hv : ∀ j, j < 6 → m.2 33 j = v j) : ∃ f, f11_valueNow m = some ((evN v c n).2 0, sA m 34 f) := by
  have h600 := hok.1
  obtain ⟨r, h1, h2⟩ := lpw_R (F := f11_valueNow_L1) (fun k s => s.1 = nI (hgN c k) ∧ s.2.1 = nI k ∧ ∃ f, s.2.2 = sA m 34 f ∧ ∀ j, j < hgN c k → f j = (evN v c k).2 j) (fun r => ∃ f, r = sA m 34 f ∧ f 0 = (evN v c n).2 0) n (s := (0, 0, m)) (by
    rintro k ⟨t, i, _⟩ hk ⟨h1, h2, f, rfl, h5⟩
    dsimp only at h1 h2
    subst h1
    subst h2
    have hh := okS_h hok (show k ≤ n by omega)
    have e1 := evN_1 v c k
    unfold f11_valueNow_L1
    dsimp only
    rw [cl_3, sA_2n (j := 3) (k := 34) _ _ (by decide), sA_2n (j := 10) (k := 34) _ _ (by decide), sA_2n (j := 33) (k := 34) _ _ (by decide), hR.1, if_neg (nI_ge hk (by omega)), ldO_n _ (by omega) (by decide), hR.2 k hk, Option.bind_some, sA_2e]
    have hS : hgN c (k + 1) = hgS (c k) (hgN c k) := rfl
    have hE : evN v c (k + 1) = evS v (c k) (evN v c k) := rfl
    rcases hok.2.1 k hk with ⟨q1, q2⟩ | ⟨q1, q2⟩ | ⟨⟨q1, q3⟩, q2⟩
    · have hS' : hgN c (k + 1) = hgN c k + 1 := by rw [hS]; unfold hgS; rw [if_pos q1]
      have push : ∀ x, (evN v c (k + 1)).2 = upd (evN v c k).2 (hgN c k) x → ∀ j, j < hgN c k + 1 → upd f (hgN c k) x j = (evN v c (k + 1)).2 j := by
        intro x hx j hj
        rw [hx]
        by_cases e : j = hgN c k
        · rw [e, upd_e, upd_e]
        · rw [upd_n _ _ e, upd_n _ _ e]; exact h5 j (by omega)
      by_cases q0 : c k < 10000
      · rw [mC_n q0, if_neg (show ¬ nI (c k) ≤ (-20) from fun z => nI_pos (n := c k) (by omega) (Int32.lt_of_le_of_lt z (by decide))), if_neg (nI_pos (by omega)), Option.bind_some, stS_n _ _ _ q2 (by decide), Option.bind_some, Option.bind_some]
        refine ⟨_, rfl, ?_⟩
        dsimp only
        rw [hS', nI_1, nI_1, sA_sA, sA_2e]
        exact ⟨rfl, rfl, _, rfl, push _ (by rw [hE]; unfold evS; rw [if_pos q0, e1])⟩
      · obtain ⟨j, hj, e⟩ : ∃ j, j < 6 ∧ c k = 10000 + j := ⟨c k - 10000, by omega, by omega⟩
        obtain ⟨a1, a2, a3⟩ := mC_v j hj
        rw [← e] at a1 a2 a3
        rw [if_neg a1, if_pos a2, a3, ldO_n _ hj (by decide), hv j hj]
        simp only [Option.bind_some]
        rw [stS_n _ _ _ q2 (by decide), Option.bind_some, Option.bind_some]
        refine ⟨_, rfl, ?_⟩
        dsimp only
        rw [hS', nI_1, nI_1, sA_sA, sA_2e]
        refine ⟨rfl, rfl, _, rfl, push _ ?_⟩
        rw [hE]
        unfold evS
        rw [if_neg q0, if_pos q1, e1]
        have : c k - 10000 = j := by omega
        rw [this]
    · have hS' : hgN c (k + 1) = hgN c k := by rw [hS]; unfold hgS; rw [if_neg (by omega), if_pos q1]
      obtain ⟨a1, a2⟩ := mC_o 8 (by decide)
      rw [show 10010 + 8 = c k by omega] at a1 a2
      have ei : nI (hgN c k) - 1 = nI (hgN c k - 1) := by
        obtain ⟨d, e⟩ : ∃ d, hgN c k = d + 1 := ⟨hgN c k - 1, by omega⟩
        rw [e, nI_pred]; rfl
      rw [if_pos a1, if_pos (a2.2 rfl), ei, ldO_n _ (by omega) (by decide), Option.bind_some, h5 _ (by omega), ifd, Option.bind_some, stS_n _ _ _ (by omega) (by decide), Option.bind_some, Option.bind_some]
      refine ⟨_, rfl, ?_⟩
      dsimp only
      rw [hS', nI_1, sA_sA, sA_2e]
      refine ⟨rfl, rfl, _, rfl, fun j hj => ?_⟩
      rw [hE]
      unfold evS
      rw [if_neg (by omega), if_neg (by omega), if_pos q1, e1]
      show upd f (hgN c k - 1) _ j = upd (evN v c k).2 (hgN c k - 1) _ j
      by_cases e : j = hgN c k - 1
      · rw [e, upd_e, upd_e]
        by_cases z : (evN v c k).2 (hgN c k - 1) = 0
        · rw [if_pos z, decide_eq_true z]; rfl
        · rw [if_neg z, decide_eq_false z]; rfl
      · rw [upd_n _ _ e, upd_n _ _ e]; exact h5 j hj
    · obtain ⟨j, hj, e⟩ := f10018 _ q1 q3
      have hS' : hgN c (k + 1) = hgN c k - 1 := by rw [hS]; unfold hgS; rw [if_neg (by omega), if_neg (by omega)]
      obtain ⟨a1, a2⟩ := mC_o j (by omega)
      rw [← e] at a1 a2
      obtain ⟨d, hd⟩ : ∃ d, hgN c k = d + 2 := ⟨hgN c k - 2, by omega⟩
      have ei : nI (hgN c k) + (-1) = nI (d + 1) := by rw [hd, pk_m1]
      rw [if_pos a1, if_neg (fun z => by have := a2.1 z; omega), ei, nI_pred, ldO_n _ (by omega) (by decide), ldO_n _ (by omega) (by decide), h5 _ (by omega), h5 _ (by omega)]
      simp only [Option.bind_some]
      rw [e, rec_all j hj, Option.bind_some, stS_n _ _ _ (by omega) (by decide), Option.bind_some, Option.bind_some]
      refine ⟨_, rfl, ?_⟩
      dsimp only
      rw [hS', nI_1, show hgN c k - 1 = d + 1 by omega, sA_sA, sA_2e]
      refine ⟨rfl, rfl, _, rfl, fun i hi => ?_⟩
      rw [hE]
      unfold evS
      rw [if_neg (by omega), if_neg (by omega), if_neg (by omega), e1, hd]
      show upd f d _ i = upd (evN v c k).2 (d + 2 - 2) (opF (c k - 10010) ((evN v c k).2 (d + 2 - 2)) ((evN v c k).2 (d + 2 - 1))) i
      rw [show c k - 10010 = j by omega, show d + 2 - 2 = d by omega, show d + 2 - 1 = d + 1 by omega]
      by_cases q : i = d
      · rw [q, upd_e, upd_e]
      · rw [upd_n _ _ q, upd_n _ _ q]; exact h5 i (by omega)) (by
    rintro ⟨t, i, _⟩ ⟨h1, h2, f, rfl, h5⟩
    dsimp only at h1 h2
    subst h1
    subst h2
    have hn1 := hok.2.2 hn
    refine ⟨_, ?_, f, rfl, h5 0 (by omega)⟩
    unfold f11_valueNow_L1
    dsimp only
    rw [cl_3, sA_2n (j := 3) (k := 34) _ _ (by decide), hR.1, if_pos (Int32.le_refl _)]) ⟨rfl, rfl, m.2 34, (sA_self m 34).symm, fun j h => absurd h (Nat.not_lt_zero j)⟩
  obtain ⟨f, rfl, h4⟩ := h2
  refine ⟨f, ?_⟩
  unfold f11_valueNow
  rw [h1, Option.bind_some, cl_0, sA_2e, h4]
