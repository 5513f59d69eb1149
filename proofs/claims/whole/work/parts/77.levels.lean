/-! the levels of an expression: what is kept, what one level gives -/
def upC (c : Nat → Nat) (l s : Nat) : Nat → Nat := fun k => if k = l then s else c k
def DrR (l : Nat) (c : Nat → Nat) (m : St) : Prop := m.2 3 7 = nI l ∧ ∀ k, k < l → m.2 10 (600 + k) = mC (c k)
def GOk (g : St) : Prop := ∃ q, q ≤ 600 ∧ g.1 3 = nI q
def sE : List Nat := [14, 16, 17, 18, 19, 20, 21]
def FrE (m m' : St) : Prop := (∀ k, k ∉ sE → m'.1 k = m.1 k) ∧ (∀ k, k ≠ 3 → k ≠ 10 → m'.2 k = m.2 k) ∧ (∀ k, k ≠ 7 → m'.2 3 k = m.2 3 k) ∧ ∀ k, k < 600 → m'.2 10 k = m.2 10 k
def sR : List Nat := [3, 6, 7, 8, 9, 10, 11]
theorem FrE.refl (m : St) : FrE m m := ⟨fun _ _ => rfl, fun _ _ _ => rfl, fun _ _ => rfl, fun _ _ => rfl⟩
theorem FrE.trans {m n o : St} (h : FrE m n) (g : FrE n o) : FrE m o := ⟨fun k hk => (g.1 k hk).trans (h.1 k hk), fun k h1 h2 => (g.2.1 k h1 h2).trans (h.2.1 k h1 h2), fun k h1 => (g.2.2.1 k h1).trans (h.2.2.1 k h1), fun k h1 => (g.2.2.2 k h1).trans (h.2.2.2 k h1)⟩
theorem FrE.of {m m' : St} {S : List Nat} (h : Fr S [] m m') (hS : ∀ k, k ∈ S → k ∈ sE) : FrE m m' := ⟨fun k hk => h.1 k (fun z => hk (hS k z)), fun k _ _ => h.2 k (List.not_mem_nil), fun k _ => by rw [h.2 3 (List.not_mem_nil)], fun k _ => by rw [h.2 10 (List.not_mem_nil)]⟩
def De (kk p : Nat) (sr g m : St) : Prop := 0 < kk ∧ kk < 6 ∧ p ≤ 600 ∧ sr.1 6 = nI kk ∧ sr.1 3 = nI p ∧ GOk g ∧ m.1 20 = nI kk ∧ m.1 21 = nI p
def Al (n : Nat) (B : Nat → Nat) (L : LX) (l : Nat) (c : Nat → Nat) (sr g m : St) : Prop := LxC n B L sr ∧ LxM n B L m ∧ LOk n B L ∧ RcR l c g ∧ DrR l c m ∧ l ≤ L.1 ∧ (∀ k, k < l → okS (c k) (hgN c k)) ∧ sr.1 3 = -1
def nst (L : LX) : Prop := L.2.2.1 ≠ 2 ∧ L.2.2.1 < 300 ∧ L.2.2.1 ≠ 40
def Res (n : Nat) (B : Nat → Nat) (L : LX) (l h : Nat) (sr g m : St) : Prop := (∃ kk p, De kk p sr g m ∧ (nst L → kk = 1 ∧ p = L.1)) ∨ (¬ nst L ∧ ∃ L' l' c', Al n B L' l' c' sr g m ∧ L.1 < L'.1 ∧ l' + L.1 ≤ l + L'.1 ∧ hgN c' l' = h + 1)
/-- one level, on both sides -/
def Lev (F : St → St → Option (St × St)) (G : St → Option St) (hb : Nat) : Prop :=
  (∀ n B L l c sr g m, Al n B L l c sr g m → hgN c l ≤ hb → ∃ sr' g' m', F sr g = some (sr', g') ∧ G m = some m' ∧ Fr sR [] sr sr' ∧ FrE m m' ∧ Res n B L l (hgN c l) sr' g' m') ∧
  ∀ kk p sr g m, De kk p sr g m → (∃ g', F sr g = some (sr, g') ∧ GOk g') ∧ G m = some m
theorem hgN_cong {c c' : Nat → Nat} : ∀ k, (∀ i, i < k → c i = c' i) → hgN c k = hgN c' k := by
  intro k
  induction k with
  | zero => intro _; rfl
  | succ k ih =>
    intro h
    show hgS (c k) (hgN c k) = hgS (c' k) (hgN c' k)
    rw [h k (by omega), ih fun i hi => h i (by omega)]
theorem upC_hg {c : Nat → Nat} {l s : Nat} : ∀ k, k ≤ l → hgN (upC c l s) k = hgN c k := fun k hk => hgN_cong k fun i hi => if_neg (by omega)
theorem upC_hg1 {c : Nat → Nat} {l s : Nat} : hgN (upC c l s) (l + 1) = hgS s (hgN c l) := by
  show hgS (upC c l s l) (hgN (upC c l s) l) = _
  rw [upC_hg l (Nat.le_refl _)]
  unfold upC
  rw [if_pos rfl]
theorem upC_ok {c : Nat → Nat} {l s : Nat} (h : ∀ k, k < l → okS (c k) (hgN c k)) (hs : okS s (hgN c l)) : ∀ k, k < l + 1 → okS (upC c l s k) (hgN (upC c l s) k) := fun k hk => by
  rw [upC_hg k (by omega)]
  unfold upC
  by_cases e : k = l
  · rw [if_pos e, e]; exact hs
  · rw [if_neg e]; exact h k (by omega)
section
variable {n : Nat} {B : Nat → Nat} {L : LX} {l : Nat} {c : Nat → Nat} {sr g m : St} {kk p : Nat}
theorem RcR.gok (h : RcR l c g) (hl : l ≤ 600) : GOk g := ⟨l, hl, h.1⟩
theorem C_add_any (h : GOk g) (x : Int32) : ∃ g', f7_add g x = some g' ∧ GOk g' := by
  obtain ⟨q, q1, q2⟩ := h
  unfold f7_add
  rw [q2]
  by_cases z : q < 600
  · rw [if_neg (show ¬ (600 : Int32) ≤ nI q from nI_ge (b := 600) z (by decide)), stS_n _ _ _ z (by decide), Option.bind_some, Option.bind_some, Option.bind_some, sA_1, q2, nI_1]
    exact ⟨_, rfl, q + 1, by omega, rfl⟩
  · rw [if_pos (show (600 : Int32) ≤ nI q from nI_le (a := 600) (by omega) (by omega)), Option.bind_some]
    exact ⟨g, rfl, q, q1, q2⟩
theorem C_addR (h : RcR l c g) (hl : l < 600) (s : Nat) : ∃ g', f7_add g (cC s) = some g' ∧ RcR (l + 1) (upC c l s) g' := by
  unfold f7_add
  rw [h.1, if_neg (show ¬ (600 : Int32) ≤ nI l from nI_ge (b := 600) hl (by decide)), stS_n _ _ _ hl (by decide), Option.bind_some, Option.bind_some, Option.bind_some, sA_1, h.1, nI_1]
  refine ⟨_, rfl, rfl, fun k hk => ?_⟩
  show upd (g.2 0) l (cC s) k = cC (upC c l s k)
  unfold upC
  by_cases e : k = l
  · rw [e, upd_e, if_pos rfl]
  · rw [upd_n _ _ e, if_neg e]; exact h.2 k (by omega)
theorem M_layR (h20 : m.1 20 = 0) (h : DrR l c m) (hl : l < 600) (s : Nat) : ∃ m', f11_lay m (mC s) = some m' ∧ DrR (l + 1) (upC c l s) m' ∧ FrE m m' ∧ m'.1 = m.1 ∧ m'.2 12 = m.2 12 := by
  unfold f11_lay
  rw [h20, if_pos rfl, cl_7, h.1, show (600 : Int32) = nI 600 from rfl, nI_add, stS_n _ _ _ (by omega) (by decide), Option.bind_some, Option.bind_some]
  have e3 : (sA m 10 (upd (m.2 10) (600 + l) (mC s))).2 3 = m.2 3 := rfl
  rw [e3, h.1, nI_1]
  refine ⟨_, rfl, ⟨upd_e (m.2 3) 7 (nI (l + 1)), fun k hk => ?_⟩, ⟨fun _ _ => rfl, fun k h1 h2 => ?_, fun k hk => ?_, fun k hk => ?_⟩, rfl, rfl⟩
  · show upd (m.2 10) (600 + l) (mC s) (600 + k) = mC (upC c l s k)
    unfold upC
    by_cases e : k = l
    · rw [e, upd_e, if_pos rfl]
    · rw [upd_n _ _ (by omega), if_neg e]; exact h.2 k (by omega)
  · rw [sA_2n _ _ h1, sA_2n _ _ h2]
  · show upd (m.2 3) 7 (nI (l + 1)) k = _
    rw [upd_n _ _ hk]
  · show upd (m.2 10) (600 + l) (mC s) k = _
    rw [upd_n _ _ (by omega)]
theorem lay_dead (h : ¬ m.1 20 = 0) (x : Int32) : f11_lay m x = some m := by
  unfold f11_lay
  rw [if_neg h]
theorem De.c6 (h : De kk p sr g m) : ¬ sr.1 6 = 0 := by
  rw [h.2.2.2.1]
  exact nI_ne0 h.1 (by have := h.2.1; omega)
theorem De.m20 (h : De kk p sr g m) : ¬ m.1 20 = 0 := by
  rw [h.2.2.2.2.2.2.1]
  exact nI_ne0 h.1 (by have := h.2.1; omega)
theorem accept_dead (h : ¬ sr.1 6 = 0) : f6_accept sr = some sr := by
  unfold f6_accept
  rw [if_neg h]
theorem fail_dead (h : ¬ sr.1 6 = 0) (x : Int32) : f6_fail sr x = some sr := by
  unfold f6_fail
  rw [if_neg h, Option.bind_some]
theorem expect_dead (h : ¬ sr.1 6 = 0) (x : Int32) : f6_expect sr x = some sr := by
  unfold f6_expect
  rw [fail_dead h]
  by_cases z : sr.1 7 = x
  · rw [if_pos z, Option.bind_some, accept_dead h, Option.bind_some]
  · rw [if_neg z, Option.bind_some, Option.bind_some, accept_dead h, Option.bind_some]
theorem wrong_dead (h : ¬ m.1 20 = 0) (x : Int32) : f11_wrong m x = some m := by
  unfold f11_wrong
  rw [if_neg h]
theorem isMarked_dead (h : ¬ m.1 20 = 0) (x : Int32) : f11_isMarked m x = some false := by
  unfold f11_isMarked
  rw [if_neg h]
theorem is_dead (h : ¬ m.1 20 = 0) (i : Nat) : f11_is m i = some false := by
  unfold f11_is
  rw [if_neg h, Option.bind_some, lpw_inr (r := false) (by unfold f11_is_L2; dsimp only; rw [if_pos zB_f]), Option.bind_some]
theorem mark_dead (h : ¬ m.1 20 = 0) (x : Int32) : f11_mark m x = some m := by
  unfold f11_mark
  rw [if_neg h, Option.bind_some, if_neg h, Option.bind_some]
theorem numberNow_dead (h : ¬ m.1 20 = 0) (x y : Int32) : f11_numberNow m x y = some (0, m) := by
  unfold f11_numberNow
  rw [if_neg h]
theorem readNumber_dead (h : ¬ m.1 20 = 0) (x y : Int32) : f11_readNumber m x y = some (0, m) := by
  unfold f11_readNumber
  rw [numberNow_dead h, Option.bind_some, if_neg h, Option.bind_some]
theorem Al.n6 (h : Al n B L l c sr g m) : n ≤ 600 := h.1.1.1
theorem Al.c6 (h : Al n B L l c sr g m) : sr.1 6 = 0 := h.1.2.2.1
theorem Al.c7 (h : Al n B L l c sr g m) : sr.1 7 = nI L.2.2.1 := h.1.2.2.2.1
theorem Al.m20 (h : Al n B L l c sr g m) : m.1 20 = 0 := h.2.1.2.2.1
theorem Al.m16 (h : Al n B L l c sr g m) : m.1 16 = nI (md L.2.2.1) := h.2.1.2.2.2.1
theorem Al.ok (h : Al n B L l c sr g m) : LOk n B L := h.2.2.1
theorem Al.lS (h : Al n B L l c sr g m) : l ≤ L.1 := h.2.2.2.2.2.1
theorem Al.sn (h : Al n B L l c sr g m) : L.1 ≤ n := Nat.le_trans h.ok.1 h.ok.2.1
theorem LOk.c317 (h : LOk n B L) : L.2.2.1 < 317 := by
  rcases h.2.2.2 with z | z | z | z | z <;> omega
/-- a fault, on both sides at once -/
theorem both_fail (h : Al n B L l c sr g m) {k : Nat} (h1 : 0 < k) (h2 : k < 6) : ∃ sr' m', f6_fail sr (nI k) = some sr' ∧ f11_wrong m (nI k) = some m' ∧ Fr sR [] sr sr' ∧ FrE m m' ∧ De k L.1 sr' g m' := by
  have hn := h.n6
  have hs := h.sn
  have hl := h.lS
  have e8 : sr.1 8 = nI L.1 := h.1.2.2.2.2.1
  have e18 : m.1 18 = nI L.1 := h.2.1.2.2.2.2.1
  refine ⟨sS (sS sr 6 (nI k)) 3 (nI L.1), sS (sS m 20 (nI k)) 21 (nI L.1), ?_, ?_, (Fr.sS sr 6 _ (by decide)).trans (Fr.sS _ 3 _ (by decide)), FrE.of ((Fr.sS (S := [20, 21]) m 20 _ (by decide)).trans (Fr.sS _ 21 _ (by decide))) (by decide), h1, h2, by omega, rfl, rfl, h.2.2.2.1.gok (by omega), rfl, rfl⟩
  · unfold f6_fail
    rw [h.c6, if_pos rfl, Option.bind_some, show (sS sr 6 (nI k)).1 8 = nI L.1 from e8, Option.bind_some, Option.bind_some]
  · unfold f11_wrong
    rw [h.m20, if_pos rfl, Option.bind_some, show (sS m 20 (nI k)).1 18 = nI L.1 from e18, Option.bind_some]
/-- the next token, on both sides at once -/
theorem both_step (h : Al n B L l c sr g m) (h0 : L.2.2.1 ≠ 0) : ∃ sr' m' L', f6_accept sr = some sr' ∧ f11_stepOn m = some m' ∧ Fr sR [] sr sr' ∧ FrE m m' ∧ Al n B L' l c sr' g m' ∧ L.1 < L'.1 := by
  have hn := h.n6
  have hlt := h.ok.2.2.1 h0
  have hl := h.lS
  obtain ⟨L', hT⟩ := tok_ex n B h.ok.2.1
  obtain ⟨sr', a1, a2, a3⟩ := C_accept h.1.1 h.1.2.1 h.c6 h.1.2.2.2.2.2.1 hT
  obtain ⟨m', b1, b2, b3⟩ := M_stepOn h.2.1.1 h.2.1.2.1 h.m20 h.2.1.2.2.2.2.2.1 hT
  have ha := hT.1
  refine ⟨sr', m', L', a1, b1, a3.mono (by decide) (by decide), FrE.of b3 (by decide), ⟨a2, b2, hT.ok fun k hk => (h.1.1.2 k hk).1, h.2.2.2.1, ?_, by omega, h.2.2.2.2.2.2.1, (a3.1 3 (by decide)).trans h.2.2.2.2.2.2.2⟩, by omega⟩
  unfold DrR
  rw [b3.2 3 (List.not_mem_nil), b3.2 10 (List.not_mem_nil)]
  exact h.2.2.2.2.1
/-- what the reference finds of the token -/
theorem Al.mark (h : Al n B L l c sr g m) {x : Nat} (hx : x < 62) (hx2 : sgnB x = true) : f11_isMarked m (nI x) = some (decide (L.2.2.1 = x)) := by
  have hn := h.n6
  have e18 : m.1 18 = nI L.1 := h.2.1.2.2.2.2.1
  have hx3 : 40 ≤ x := (sgn_lt x (by omega) hx2).2
  unfold f11_isMarked
  rw [h.m20, if_pos rfl, h.m16]
  rcases h.ok.2.2.2 with z | z | z | z | z
  · rw [z, decide_eq_false (by omega)]; exact if_neg (by decide)
  · rw [z, decide_eq_false (by omega)]; exact if_neg (by decide)
  · rw [z.1, decide_eq_false (by omega)]; exact if_neg (by decide)
  · have z40 := (sgn_lt _ (show L.2.2.1 < 256 by omega) z.2.1).2
    have hlt := h.ok.2.2.1 (by omega)
    have hen := h.ok.2.1
    have e3 : md L.2.2.1 = 3 := by
      unfold md
      rw [if_neg (by omega), if_neg (by omega), if_neg (by omega), if_pos (by omega)]
    rw [e3, if_pos (show nI 3 = 3 from rfl), e18, ldO_n _ (by omega) (by decide), (h.2.1.1.2 L.1 (by omega)).2, z.2.2, Option.bind_some, ifd]
    exact congrArg some (decide_eq_decide.2 (nI_eq (by omega) (by omega)))
  · have e1 : md L.2.2.1 = 1 := by
      unfold md
      rw [if_neg (by omega), if_neg (by omega), if_neg (by omega), if_neg (by omega)]
    rw [e1, decide_eq_false (by omega)]
    exact if_neg (by decide)
theorem Al.is (h : Al n B L l c sr g m) {i : Nat} (hi : i < 16) : f11_is m i = some (decide (L.2.2.1 = 300 + i)) := by
  have hn := h.n6
  have e18 : m.1 18 = nI L.1 := h.2.1.2.2.2.2.1
  have e19 : m.1 19 = nI L.2.1 := h.2.1.2.2.2.2.2.2.1
  have hse := h.ok.1
  have hen := h.ok.2.1
  have h8 := xLen_8 i hi
  have no : ∀ b, b = false → lpw (f11_is_L2 m i) (b, 0) = some false := fun b hb => lpw_inr (by unfold f11_is_L2; dsimp only; rw [hb, if_pos zB_f])
  unfold f11_is
  rw [h.m20, if_pos rfl, h.m16]
  by_cases hw : 300 ≤ L.2.2.1
  case neg =>
    have e1 : ¬ nI (md L.2.2.1) = 1 := by
      unfold md
      intro z
      by_cases a0 : L.2.2.1 = 0
      · rw [if_pos a0] at z; cases z
      · rw [if_neg a0] at z
        by_cases a1 : L.2.2.1 = 1
        · rw [if_pos a1] at z; cases z
        · rw [if_neg a1] at z
          by_cases a2 : L.2.2.1 = 2
          · rw [if_pos a2] at z; cases z
          · rw [if_neg a2, if_pos (by omega)] at z; cases z
    rw [if_neg e1, Option.bind_some, no _ rfl, Option.bind_some, decide_eq_false (by omega)]
  have e1 : md L.2.2.1 = 1 := by
    unfold md
    rw [if_neg (by omega), if_neg (by omega), if_neg (by omega), if_neg (by omega)]
  have hsp : decide (L.2.2.1 = 300 + i) = splB B L.1 L.2.1 i := by
    rcases h.ok.2.2.2 with z | z | z | z | z
    · omega
    · omega
    · omega
    · omega
    · have := z.2.2 i hi
      cases y : splB B L.1 L.2.1 i with
      | true => rw [decide_eq_true (this.2 y)]
      | false => rw [decide_eq_false]; intro w; rw [this.1 w] at y; cases y
  rw [e1, if_pos (show nI 1 = 1 from rfl), e18, e19, pk_sub hse, hsp]
  by_cases z : xLen.getD i 0 = L.2.1 - L.1
  · rw [if_pos (by rw [z]), Option.bind_some]
    obtain ⟨q, q1, q2⟩ := lpw_E (F := f11_is_L2 m i) (fun k v => v.2 = nI k ∧ (v.1 = allB (fun k => decide (chW i k = nI (B (L.1 + k)))) k)) (fun q => q = allB (fun k => decide (chW i k = nI (B (L.1 + k)))) (xLen.getD i 0)) (xLen.getD i 0) (fun k v hk hI => by
      obtain ⟨_, _⟩ := v
      obtain ⟨rfl, rfl⟩ := hI
      unfold f11_is_L2
      dsimp only
      cases ha : allB (fun k => decide (chW i k = nI (B (L.1 + k)))) k with
      | false =>
        right
        rw [if_pos zB_f]
        refine ⟨_, rfl, ?_⟩
        cases w : allB (fun k => decide (chW i k = nI (B (L.1 + k)))) (xLen.getD i 0) with
        | false => rfl
        | true =>
          have := (allB_iff _ k).2 fun j hj => (allB_iff _ _).1 w j (by omega)
          rw [ha] at this
          cases this
      | true =>
        left
        rw [if_neg (by decide), if_neg (nI_ge hk (by omega)), chO_n hi hk, Option.bind_some, e18, nI_add, ldO_n _ (by omega) (by decide), (h.2.1.1.2 (L.1 + k) (by omega)).2, Option.bind_some, ifd, Option.bind_some, nI_1]
        refine ⟨_, rfl, rfl, ?_⟩
        show _ = (allB _ k && _)
        rw [ha]
        rfl) (fun v hI => by
      obtain ⟨_, _⟩ := v
      obtain ⟨rfl, rfl⟩ := hI
      refine ⟨_, ?_, rfl⟩
      unfold f11_is_L2
      dsimp only
      cases ha : allB (fun k => decide (chW i k = nI (B (L.1 + k)))) (xLen.getD i 0) with
      | false => rw [if_pos zB_f]
      | true => rw [if_neg (by decide), if_pos (Int32.le_refl _)]) (Nat.zero_le _) (s := (true, 0)) ⟨rfl, rfl⟩
    rw [q1, Option.bind_some, q2]
    unfold splB
    rw [decide_eq_true z, Bool.true_and]
  · rw [if_neg (fun y => z ((nI_eq (by omega) (by omega)).1 y)), Option.bind_some, no _ rfl, Option.bind_some]
    unfold splB
    rw [decide_eq_false z, Bool.false_and]
end
