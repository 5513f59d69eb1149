/-! the lines: drafts, numbers -/
def aDr : List Nat := [3, 4, 5, 6, 7, 8, 9, 10]
/-- what a line leaves as it was, in the reference -/
def FrL (m m' : St) : Prop := (∀ k, k ∉ sE → m'.1 k = m.1 k) ∧ (∀ k, k ∉ aDr → m'.2 k = m.2 k) ∧ (∀ k, k < 4 → m'.2 3 k = m.2 3 k) ∧ (∀ k, k < 8 → m'.2 4 k = m.2 4 k) ∧ (∀ k, k < 12 → m'.2 9 k = m.2 9 k) ∧ ∀ k, k < 600 → m'.2 10 k = m.2 10 k
theorem FrL.refl (m : St) : FrL m m := ⟨fun _ _ => rfl, fun _ _ => rfl, fun _ _ => rfl, fun _ _ => rfl, fun _ _ => rfl, fun _ _ => rfl⟩
theorem FrL.trans {m n o : St} (h : FrL m n) (g : FrL n o) : FrL m o := ⟨fun k hk => (g.1 k hk).trans (h.1 k hk), fun k hk => (g.2.1 k hk).trans (h.2.1 k hk), fun k hk => (g.2.2.1 k hk).trans (h.2.2.1 k hk), fun k hk => (g.2.2.2.1 k hk).trans (h.2.2.2.1 k hk), fun k hk => (g.2.2.2.2.1 k hk).trans (h.2.2.2.2.1 k hk), fun k hk => (g.2.2.2.2.2 k hk).trans (h.2.2.2.2.2 k hk)⟩
theorem FrL.of {m m' : St} (h : FrE m m') : FrL m m' := ⟨h.1, fun k hk => h.2.1 k (fun z => hk (by rw [z]; decide)) (fun z => hk (by rw [z]; decide)), fun k hk => h.2.2.1 k (by omega), fun k _ => by rw [h.2.1 4 (by decide) (by decide)], fun k _ => by rw [h.2.1 9 (by decide) (by decide)], h.2.2.2⟩
/-- the reference's draft of a town: U, with tp pairs of twins told -/
def DmT (U : TW) (tp : Nat) (m : St) : Prop := m.2 3 4 = nI U.H ∧ m.2 3 5 = nI U.L ∧ m.2 3 6 = nI tp ∧ (∀ k, k < U.H → m.2 4 (8 + k) = nI (U.ki k) ∧ m.2 5 (8 + k) = nI (U.wa k) ∧ m.2 6 (8 + k) = nI (U.sl k)) ∧ ∀ k, k < U.L → m.2 7 (12 + k) = nI (U.ho k) ∧ m.2 8 (12 + k) = nI (U.oi k) ∧ m.2 9 (12 + k) = eT (U.tw k)
def CleanT (U : TW) : Prop := U.o = 0 ∧ (∀ k, U.li k = false) ∧ ∀ k, U.br k = false
def St8 (n : Nat) (B : Nat → Nat) (L : LX) (l : Nat) (c : Nat → Nat) (U : TW) (tp : Nat) (sr t g m : St) : Prop := Al n B L l c sr g m ∧ RcT U t ∧ DmT U tp m ∧ CleanT U ∧ aloneN U + 2 * tp = U.L ∧ (l = 0 ∨ hgN c l = 1)
section
variable {n : Nat} {B : Nat → Nat} {L : LX} {l : Nat} {c : Nat → Nat} {sr t g m m' : St} {kk p tp : Nat} {U : TW}
theorem DmT.fr (h : DmT U tp m) (f : FrE m m') : DmT U tp m' := by
  unfold DmT
  rw [f.2.2.1 4 (by decide), f.2.2.1 5 (by decide), f.2.2.1 6 (by decide), f.2.1 4 (by decide) (by decide), f.2.1 5 (by decide) (by decide), f.2.1 6 (by decide) (by decide), f.2.1 7 (by decide) (by decide), f.2.1 8 (by decide) (by decide), f.2.1 9 (by decide) (by decide)]
  exact h
/-- the expression's things, when the draft of the town alone changes -/
theorem Al.dr (h : Al n B L l c sr g m) (e1 : m'.1 = m.1) (e2 : m'.2 12 = m.2 12) (e3 : m'.2 3 7 = m.2 3 7) (e4 : m'.2 10 = m.2 10) : Al n B L l c sr g m' := by
  obtain ⟨h1, h2, h3, h4, h5, h6⟩ := h
  refine ⟨h1, ?_, h3, h4, ?_, h6⟩
  · unfold LxM ByM at h2 ⊢
    rw [e1, e2]
    exact h2
  · unfold DrR at h5 ⊢
    rw [e3, e4]
    exact h5
theorem numberUpTo_dead (h : ¬ sr.1 6 = 0) (x y : Int32) : f6_numberUpTo sr x y = some (0, sr) := by
  unfold f6_numberUpTo
  simp only [fail_dead h, Option.bind_some]
  have : (if (sr.1 7) = 2 then (if (sr.1 10) ≤ 4 then (if (sr.1 11) ≤ x then some sr else some sr) else some sr) else some sr : Option St) = some sr := by
    repeat' split
    all_goals rfl
  rw [this, Option.bind_some, if_neg h]
/-- a number, on both sides, before the next token; ck: the reference's further condition -/
theorem C_numberUpTo (h : Al n B L l c sr g m) {hi : Nat} (hh : hi < 100000) {k2 : Int32} : (L.2.2.1 = 2 ∧ L.2.1 - L.1 ≤ 4 ∧ L.2.2.2 ≤ hi ∧ f6_numberUpTo sr (nI hi) k2 = some (nI L.2.2.2, sr)) ∨ (¬ (L.2.2.1 = 2 ∧ L.2.1 - L.1 ≤ 4 ∧ L.2.2.2 ≤ hi) ∧ f6_numberUpTo sr (nI hi) k2 = (f6_fail sr (if L.2.2.1 = 2 then (if L.2.1 - L.1 ≤ 4 then k2 else 2) else 1)).bind fun q1 => if (q1.1 6) = 0 then some ((q1.1 11), q1) else some (0, q1)) := by
  have hn := h.n6
  have h317 := h.ok.c317
  have hen := h.ok.2.1
  unfold f6_numberUpTo
  rw [h.c7]
  by_cases z : L.2.2.1 = 2
  · obtain ⟨d10, d11⟩ := h.1.2.2.2.2.2.2 z
    rw [z, if_pos (show nI 2 = 2 from rfl), d10, if_pos rfl]
    by_cases y : L.2.1 - L.1 ≤ 4
    · have hv : L.2.2.2 ≤ 9999 := by
        rcases h.ok.2.2.2 with w | w | w | w | w
        · omega
        · omega
        · exact w.2 y
        · rw [z] at w; have := w.2.1; cases this
        · omega
      rw [if_pos (show nI (L.2.1 - L.1) ≤ 4 from nI_le (b := 4) y (by decide)), d11 y, if_pos y]
      by_cases w : L.2.2.2 ≤ hi
      · left
        rw [if_pos (nI_le w (by omega)), Option.bind_some, h.c6, if_pos rfl, d11 y]
        exact ⟨rfl, y, w, rfl⟩
      · right
        refine ⟨fun u => w u.2.2, ?_⟩
        rw [if_neg (nI_ge (by omega) (by omega)), Option.bind_assoc]
        rfl
    · right
      refine ⟨fun u => y u.2.1, ?_⟩
      rw [if_neg (show ¬ nI (L.2.1 - L.1) ≤ 4 from nI_ge (a := 4) (by omega) (by omega)), if_neg y, Option.bind_assoc]
      rfl
  · right
    refine ⟨fun u => z u.1, ?_⟩
    rw [if_neg (show ¬ nI L.2.2.1 = 2 from fun u => z ((nI_eq (b := 2) (by omega) (by decide)).1 u)), if_neg z, Option.bind_assoc]
    rfl
/-- a number up to hi, and the next token: both -/
theorem both_number (h : Al n B L l c sr g m) {hi : Nat} (hh : hi < 9999) : ∃ w sr1 sr' m', f6_numberUpTo sr (nI hi) 2 = some (nI w, sr1) ∧ f6_accept sr1 = some sr' ∧ f11_readNumber m 0 (nI hi) = some (nI w, m') ∧ Fr sR [] sr sr' ∧ FrE m m' ∧ ((w = 0 ∧ ∃ kk p, De kk p sr' g m' ∧ sr1 = sr') ∨ w ≤ hi ∧ ∃ L', Al n B L' l c sr' g m' ∧ L.1 < L'.1) := by
  unfold f11_readNumber
  rcases C_numberUpTo (k2 := 2) h (hi := hi) (by omega) with ⟨a1, a2, a3, a4⟩ | ⟨a1, a2⟩
  · rcases M_numberNow h.2.1 h.ok (hi := hi) (by omega) with ⟨-, -, -, e⟩ | ⟨y, -⟩
    · obtain ⟨sr', m', L', b1, b2, b3, b4, b5, b6⟩ := both_step h (by omega)
      rw [a4, e, Option.bind_some]
      dsimp only
      rw [h.m20, if_pos rfl, b2, Option.bind_some, Option.bind_some]
      exact ⟨_, sr, sr', m', rfl, b1, rfl, b3, b4, .inr ⟨a3, L', b5, b6⟩⟩
    · exact absurd ⟨a1, a2, a3⟩ y
  · rcases M_numberNow h.2.1 h.ok (hi := hi) (by omega) with ⟨y1, y2, y3, -⟩ | ⟨y, e⟩
    · exact absurd ⟨y1, y2, y3⟩ a1
    · have ek : (if L.2.2.1 = 2 then (if L.2.1 - L.1 ≤ 4 then 2 else 2) else 1 : Int32) = nI (if L.2.2.1 = 2 then 2 else 1) := by
        by_cases z : L.2.2.1 = 2
        · rw [if_pos z, if_pos z]
          split <;> rfl
        · rw [if_neg z, if_neg z]; rfl
      obtain ⟨sr', m', b1, b2, b3, b4, b5⟩ := both_fail h (k := if L.2.2.1 = 2 then 2 else 1) (by split <;> decide) (by split <;> decide)
      rw [a2, ek, b1, Option.bind_some, if_neg b5.c6, e, b2, Option.bind_some, Option.bind_some]
      dsimp only
      rw [if_neg b5.m20, Option.bind_some]
      exact ⟨0, sr', sr', m', rfl, accept_dead b5.c6, rfl, b3, b4, .inl ⟨rfl, _, _, b5, rfl⟩⟩
end
