/-! strife -/
def sf1 (r : RU) (T : TW) (l j o : Nat) : Bool := if (T.al l o && T.al j o) = true then wn r T l o != wn r T j o else T.al l o && wn r T l o || T.al j o && wn r T j o
def sfN (r : RU) (T : TW) (l j : Nat) : Nat := fb_ct (sf1 r T l j) 24
section
variable {r : RU} {T : TW} {st sg m s4 : St}
theorem sf1_self (l o : Nat) : sf1 r T l l o = false := by
  unfold sf1
  cases T.al l o <;> simp
theorem sfN_24 (l j : Nat) : sfN r T l j ≤ 24 := fb_ct_le _ _
/-- the hours of a lamp, as the class's rows keep them -/
def HoE (r : RU) (T : TW) (s4 : St) (l : Nat) : Prop := Bm 24 (T.al l) (s4.2 0 l) ∧ Bm 24 (wn r T l) (s4.2 1 l)
theorem C_setHours (h : RcT T st) (hg : RcR r.1 r.2 sg) (hok : okR r.1 r.2) (s4 : St) {l : Nat} (hl : l < T.L) : ∃ x y g' s', f9_hoursAwake st (nI (T.ho l)) = some x ∧ f7_hoursWanted sg st (nI l) = some (y, g') ∧ RcR r.1 r.2 g' ∧ f4_setHours s4 (nI l) x y = some s' ∧ HoE r T s' l ∧ ∀ k, k ≠ l → HoE r T s4 k → HoE r T s' k := by
  have hL := h.W.L12
  obtain ⟨x, hx, hxb⟩ := C_hoursAwake h (h.W.hoH hl)
  obtain ⟨y, g', hy, hyb, hg'⟩ := C_hoursWanted h hg hok hl
  refine ⟨x, y, g', sA (sA s4 0 (upd (s4.2 0) l x)) 1 (upd (s4.2 1) l y), hx, hy, hg', ?_, ⟨?_, ?_⟩, fun k hk hE => ⟨?_, ?_⟩⟩
  · unfold f4_setHours
    rw [stS_n _ _ _ (by omega) (by omega), Option.bind_some, stS_n _ _ _ (by omega) (by omega), Option.bind_some, sA_2n (j := 1) (k := 0) _ _ (by decide)]
  · show Bm 24 (T.al l) (upd (s4.2 0) l x l)
    rw [upd_e]; exact hxb
  · show Bm 24 (wn r T l) (upd (s4.2 1) l y l)
    rw [upd_e]; exact hyb
  · show Bm 24 (T.al k) (upd (s4.2 0) l x k)
    rw [upd_n _ _ hk]; exact hE.1
  · show Bm 24 (wn r T k) (upd (s4.2 1) l y k)
    rw [upd_n _ _ hk]; exact hE.2
theorem C_atOdds {l j : Nat} (hl : l < 12) (hj : j < 12) (h1 : HoE r T s4 l) (h2 : HoE r T s4 j) : f4_hoursAtOdds s4 (nI l) (nI j) = some (nI (sfN r T l j)) := by
  unfold f4_hoursAtOdds
  rw [ldO_n _ hl (by decide), ldO_n _ hj (by decide), ldO_n _ hl (by decide), ldO_n _ hj (by decide)]
  simp only [Option.bind_some]
  rw [bitCount_Bm (((h1.1.and h2.1).and (h1.2.xor h2.2)).or ((h1.1.sub h2.1).and h1.2) |>.or ((h2.1.sub h1.1).and h2.2)) (by decide), Option.bind_some]
  congr 2
  exact fb_ct_cong fun o _ => by
    unfold sf1
    cases T.al l o <;> cases T.al j o <;> cases wn r T l o <;> cases wn r T j o <;> rfl
theorem M_strifeOf (h : RmT T m) (hR : RmR r.1 r.2 m) (hok : okR r.1 r.2) {l j : Nat} (hl : l < T.L) (hj : j < T.L) : ∃ m', f11_strifeOf m (nI l) (nI j) = some (nI (sfN r T l j), m') ∧ Fr [] [33, 34] m m' := by
  have hL := h.W.L12
  have hl1 := h.W.hoH hl
  have hj1 := h.W.hoH hj
  by_cases e : l = j
  · subst e
    have e0 : sfN r T l l = 0 := fb_ct_zero.2 fun o _ => sf1_self l o
    refine ⟨m, ?_, Fr.refl _ _ _⟩
    unfold f11_strifeOf
    rw [lpw_inr (r := (0, m)) (by
      unfold f11_strifeOf_L1
      dsimp only
      rw [if_neg (by decide), if_pos rfl]), Option.bind_some, e0]
    rfl
  · have ne : ¬ nI l = nI j := fun z => e ((nI_eq (by omega) (by omega)).1 z)
    obtain ⟨q, h1, h2, h3⟩ := lpw_R (F := f11_strifeOf_L1 (nI l) (nI j)) (fun o s => s.1 = nI (fb_ct (sf1 r T l j) o) ∧ s.2.1 = nI o ∧ Fr [] [33, 34] m s.2.2) (fun q => q.1 = nI (sfN r T l j) ∧ Fr [] [33, 34] m q.2) 24 (s := (0, 0, m)) (by
      rintro o ⟨_, _, q⟩ ho ⟨rfl, rfl, hf⟩
      dsimp only at hf
      have hq := h.fr hf
      have a1 : f11_isAwake q (nI (T.ho l)) (nI o) = some (T.al l o) := M_isAwake hq hl1 (by omega)
      have a2 : f11_isAwake q (nI (T.ho j)) (nI o) = some (T.al j o) := M_isAwake hq hj1 (by omega)
      obtain ⟨p1, w1, f1⟩ := M_wants hq (hR.fr hf) hok hl ho
      obtain ⟨p2, w2, f2⟩ := M_wants hq (hR.fr hf) hok hj ho
      have hq1 := hq.fr f1
      obtain ⟨p3, w3, f3⟩ := M_wants hq1 ((hR.fr hf).fr f1) hok hj ho
      have fin : ∀ (b : Bool) (p : St), b = sf1 r T l j o → Fr [] [33, 34] q p → ∃ s' : Int32 × Int32 × St, (some (b, p) : Option (Bool × St)).bind (fun q7 => ((if (zB q7.1) = 0 then some false else some true : Option (Bool))).bind fun q16 => some (Sum.inl ((nI (fb_ct (sf1 r T l j) o) + (zB q16)), (nI o + 1), q7.2) : (Int32 × Int32 × St) ⊕ (Int32 × St))) = some (Sum.inl s') ∧ s'.1 = nI (fb_ct (sf1 r T l j) (o + 1)) ∧ s'.2.1 = nI (o + 1) ∧ Fr [] [33, 34] m s'.2.2 := by
        intro b p hb hp
        rw [Option.bind_some]
        simp only [ifz, ifb, Option.bind_some]
        rw [zB_nI, nI_add, nI_1, fb_ct_succ, hb]
        exact ⟨_, rfl, rfl, rfl, hf.trans hp⟩
      unfold f11_strifeOf_L1
      dsimp only
      rw [if_neg (show ¬ (24 : Int32) ≤ nI o from nI_ge ho (by decide)), if_neg ne, ldO_n _ (by omega) (by omega), hq.eho hl, Option.bind_some, a1, Option.bind_some, ldO_n _ (by omega) (by omega), hq.eho hj, Option.bind_some, a2, Option.bind_some]
      have bb : ∀ (b : Bool) (p : St), (if zB b = 0 then some (false, p) else some (true, p) : Option (Bool × St)) = some (b, p) := fun b p => by cases b <;> rfl
      cases z1 : T.al l o with
      | false =>
        cases z2 : T.al j o with
        | false =>
          rw [if_pos zB_f, if_pos zB_f, if_pos zB_f]
          exact fin false q (by unfold sf1; rw [z1, z2]; rfl) (Fr.refl _ _ _)
        | true =>
          rw [if_pos zB_f, if_pos zB_f, if_neg (by decide), w2, Option.bind_some, bb]
          exact fin _ p2 (by unfold sf1; rw [z1, z2]; rfl) f2
      | true =>
        cases z2 : T.al j o with
        | false =>
          rw [if_neg (by decide), if_pos zB_f, if_neg (by decide), w1, Option.bind_some]
          dsimp only
          cases z3 : wn r T l o with
          | false =>
            rw [if_pos zB_f, if_pos zB_f]
            exact fin false p1 (by unfold sf1; rw [z1, z2, z3]; rfl) f1
          | true =>
            rw [if_neg (by decide)]
            exact fin true p1 (by unfold sf1; rw [z1, z2, z3]; rfl) f1
        | true =>
          rw [if_neg (by decide), if_neg (by decide), w1, Option.bind_some]
          dsimp only
          rw [w3, Option.bind_some]
          dsimp only
          simp only [zB_e]
          by_cases z3 : wn r T l o = wn r T j o
          · rw [if_pos z3]
            exact fin false p3 (by unfold sf1; rw [z1, z2, z3]; simp) (f1.trans f3)
          · rw [if_neg z3]
            exact fin true p3 (by unfold sf1; rw [z1, z2]; simp [z3]) (f1.trans f3)) (by
      rintro ⟨_, _, q⟩ ⟨rfl, rfl, hf⟩
      refine ⟨(nI (sfN r T l j), q), ?_, rfl, hf⟩
      unfold f11_strifeOf_L1
      dsimp only
      rw [if_pos (show (24 : Int32) ≤ nI 24 from Int32.le_refl _)]
      rfl) ⟨rfl, rfl, Fr.refl _ _ _⟩
    refine ⟨q.2, ?_, h3⟩
    unfold f11_strifeOf
    rw [h1, Option.bind_some, h2]
theorem Q_strife (h : RcT T st) (h' : RmT T m) (hg : RcR r.1 r.2 sg) (hR : RmR r.1 r.2 m) (hok : okR r.1 r.2) (s4 sx : St) (y1 y2 : Int32) : Agr (f10_strife sx st sg s4 y1 y2) kfN (f11_strife m y1 y2) (sg, s4) (fun s m' => QP r T m s.1 m') := by
  have hL := h.W.L12
  rcases lampCase h h'.s2 sx y1 with ⟨e1, e2⟩ | ⟨l, hl, rfl, e1, e2⟩
  · refine AgrX (m := m) 1 (by unfold f10_strife; rw [e1, xB_o]) ?_ ⟨hg, h'.s2k _, fr2k m _⟩
    unfold f11_strife
    rw [Option.bind_some, e2, Option.bind_some, if_pos zB_f]
    rfl
  rcases lampCase h h'.s2 sx y2 with ⟨e3, e4⟩ | ⟨j, hj, rfl, e3, e4⟩
  · refine AgrX (m := m) 1 (by unfold f10_strife; rw [e1, xB_i, e3, xB_o]) ?_ ⟨hg, h'.s2k _, fr2k m _⟩
    unfold f11_strife
    rw [Option.bind_some, e2, Option.bind_some, if_neg (by decide), e4, Option.bind_some, if_pos zB_f]
    rfl
  obtain ⟨x1, y1, g1, s1, a1, a2, a3, a4, a5, a6⟩ := C_setHours h hg hok s4 hl
  obtain ⟨x2, y2, g2, s2, b1, b2, b3, b4, b5, b6⟩ := C_setHours h a3 hok s1 hj
  obtain ⟨m', c1, c2⟩ := M_strifeOf h'.s2 hR.s2 hok hl hj
  have hE : HoE r T s2 l := by
    by_cases e : l = j
    · subst e; exact b5
    · exact b6 l e a5
  have hf : Fr sS1 sA1 (sS m 2 0) m' := c2.mono (by decide) (by decide)
  refine ⟨nI (sfN r T l j), m', ?_, .inl ⟨(g2, s2), ?_, z2 hf, b3, h'.s2.fr c2, fr2' hf⟩⟩
  · unfold f11_strife
    rw [Option.bind_some, e2, Option.bind_some, if_neg (by decide), e4, Option.bind_some, if_neg (by decide), c1, Option.bind_some]
  · unfold f10_strife
    rw [e1, xB_i, e3, xB_i, ldO_n _ (by omega) (by omega), h.eho hl, Option.bind_some, a1, Option.bind_some, a2, Option.bind_some]
    dsimp only
    rw [a4, Option.bind_some, ldO_n _ (by omega) (by omega), h.eho hj, Option.bind_some, b1, Option.bind_some, b2, Option.bind_some]
    dsimp only
    rw [b4, Option.bind_some, C_atOdds (by omega) (by omega) hE b5, Option.bind_some, wI_s]
end
