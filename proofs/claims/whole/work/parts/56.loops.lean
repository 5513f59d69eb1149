/-! loops over hours, on both sides -/
section
variable {T U : TW} {t m g e : St} {r : RU}
theorem C_loopA {F : Int32 × St × St × St → Option ((Int32 × St × St × St) ⊕ (St × St × St))} {n : Nat} (hli : LiO T) (hok : okR r.1 r.2) (ho : T.o + n < 100000) (hF : ∀ i t e g, i < n → F (nI i, t, e, g) = (f2_passHour e g t).bind fun q => some (.inl (nI i + 1, q.2.2, q.1, q.2.1))) (hX : ∀ t e g, F (nI n, t, e, g) = some (.inr (t, e, g))) (h : HcI r T 0 t g) (e : St) : ∃ t' e' g', lpw F (0, t, e, g) = some (t', e', g') ∧ HcI r T n t' g' ∧ ∀ k, n = k + 1 → Bm T.L (lNn r (hrN r T k)) (e'.1 0) := by
  obtain ⟨q, h1, h2, h3⟩ := lpw_R (F := F) (fun i s => s.1 = nI i ∧ HcI r T i s.2.1 s.2.2.2 ∧ ∀ k, i = k + 1 → Bm T.L (lNn r (hrN r T k)) (s.2.2.1.1 0)) (fun q => HcI r T n q.1 q.2.2 ∧ ∀ k, n = k + 1 → Bm T.L (lNn r (hrN r T k)) (q.2.1.1 0)) n (s := (0, t, e, g)) (by
    rintro i ⟨j, t, e, g⟩ hi ⟨rfl, hI, -⟩
    obtain ⟨e', g', t', h1, h2, h3, h4, h5⟩ := C_step hli hok hI (by omega) e
    rw [hF i t e g hi, h1, Option.bind_some, nI_1]
    exact ⟨_, rfl, rfl, h2, fun k hk => by obtain rfl : i = k := by omega
                                           exact h3⟩) (by
    rintro ⟨j, t, e, g⟩ ⟨rfl, hI, h0⟩
    exact ⟨_, hX t e g, hI, h0⟩) ⟨rfl, h, fun k hk => absurd hk (by omega)⟩
  exact ⟨q.1, q.2.1, q.2.2, h1, h2, h3⟩
theorem C_loopB {F : Int32 × Int32 × St × St × St → Option ((Int32 × Int32 × St × St × St) ⊕ (Int32 × St × St × St))} {n : Nat} (D : St × St × St → Option Int32) (δ : Nat → Nat) (hli : LiO T) (hok : okR r.1 r.2) (ho : T.o + n < 100000) (hF : ∀ i a t e g, i < n → F (a, nI i, t, e, g) = (f2_passHour e g t).bind fun q => (D q).bind fun d => some (.inl (a + d, nI i + 1, q.2.2, q.1, q.2.1))) (hX : ∀ a t e g, F (a, nI n, t, e, g) = some (.inr (a, t, e, g))) (hD : ∀ i e' g' t', i < n → Bm T.L (lNn r (hrN r T i)) (e'.1 0) → Bm T.L (cMp r (hrN r T i)) (e'.1 1) → e'.1 2 = nI (qRl r (hrN r T i)) → D (e', g', t') = some (nI (δ i))) (h : HcI r T 0 t g) (e : St) : ∃ t' e' g', lpw F (0, 0, t, e, g) = some (nI (fb_sm δ n), t', e', g') ∧ HcI r T n t' g' := by
  obtain ⟨q, h1, h2, h3⟩ := lpw_R (F := F) (fun i s => s.1 = nI (fb_sm δ i) ∧ s.2.1 = nI i ∧ HcI r T i s.2.2.1 s.2.2.2.2) (fun q => q.1 = nI (fb_sm δ n) ∧ HcI r T n q.2.1 q.2.2.2) n (s := (0, 0, t, e, g)) (by
    rintro i ⟨a, j, t, e, g⟩ hi ⟨rfl, rfl, hI⟩
    obtain ⟨e', g', t', h1, h2, h3, h4, h5⟩ := C_step hli hok hI (by omega) e
    rw [hF i _ t e g hi, h1, Option.bind_some, hD i e' g' t' hi h3 h4 h5, Option.bind_some, nI_1, nI_add]
    exact ⟨_, rfl, rfl, rfl, h2⟩) (by
    rintro ⟨a, j, t, e, g⟩ ⟨rfl, rfl, hI⟩
    exact ⟨_, hX _ t e g, rfl, hI⟩) ⟨rfl, rfl, h⟩
  refine ⟨q.2.1, q.2.2.1, q.2.2.2, ?_, h3⟩
  rw [h1, ← h2]
theorem M_loopA {F : Int32 × St → Option ((Int32 × St) ⊕ St)} {n : Nat} (hli : LiO T) (hok : okR r.1 r.2) (hR : RmR r.1 r.2 m) (ho : T.o + n < 100000) (hF : ∀ i q, i < n → F (nI i, q) = (f11_anHour q).bind fun q => some (.inl (nI i + 1, q))) (hX : ∀ q, F (nI n, q) = some (.inr q)) (h : RmT T m) : ∃ m', lpw F (0, m) = some m' ∧ HmI r T n m m' ∧ ∀ k, n = k + 1 → Bm T.L (lNn r (hrN r T k)) (m'.1 36) := by
  obtain ⟨q, h1, h2, h3⟩ := lpw_R (F := F) (fun i s => s.1 = nI i ∧ HmI r T i m s.2 ∧ ∀ k, i = k + 1 → Bm T.L (lNn r (hrN r T k)) (s.2.1 36)) (fun q => HmI r T n m q ∧ ∀ k, n = k + 1 → Bm T.L (lNn r (hrN r T k)) (q.1 36)) n (s := (0, m)) (by
    rintro i ⟨j, q⟩ hi ⟨rfl, hI, -⟩
    obtain ⟨m', h1, h2, h3, h4, h5⟩ := M_step hli hok hR hI (by omega)
    rw [hF i q hi, h1, Option.bind_some, nI_1]
    exact ⟨_, rfl, rfl, h2, fun k hk => by obtain rfl : i = k := by omega
                                           exact h3⟩) (by
    rintro ⟨j, q⟩ ⟨rfl, hI, h0⟩
    exact ⟨_, hX q, hI, h0⟩) ⟨rfl, HmI.zero h, fun k hk => absurd hk (by omega)⟩
  exact ⟨q, h1, h2, h3⟩
theorem M_loopB {F : Int32 × Int32 × St → Option ((Int32 × Int32 × St) ⊕ (Int32 × St))} {n : Nat} (D : St → Option Int32) (δ : Nat → Nat) (hli : LiO T) (hok : okR r.1 r.2) (hR : RmR r.1 r.2 m) (ho : T.o + n < 100000) (hF : ∀ i a q, i < n → F (a, nI i, q) = (f11_anHour q).bind fun q => (D q).bind fun d => some (.inl (a + d, nI i + 1, q))) (hX : ∀ a q, F (a, nI n, q) = some (.inr (a, q))) (hD : ∀ i m', i < n → HmI r T (i + 1) m m' → Bm T.L (lNn r (hrN r T i)) (m'.1 36) → m'.1 35 = nI (qRl r (hrN r T i)) → (∀ k, k < T.H → m'.2 37 k = nI (fb_ct (fun l => cMp r (hrN r T i) l && decide (T.ho l = k)) T.L)) → D m' = some (nI (δ i))) (h : RmT T m) : ∃ m', lpw F (0, 0, m) = some (nI (fb_sm δ n), m') ∧ HmI r T n m m' := by
  obtain ⟨q, h1, h2, h3⟩ := lpw_R (F := F) (fun i s => s.1 = nI (fb_sm δ i) ∧ s.2.1 = nI i ∧ HmI r T i m s.2.2) (fun q => q.1 = nI (fb_sm δ n) ∧ HmI r T n m q.2) n (s := (0, 0, m)) (by
    rintro i ⟨a, j, q⟩ hi ⟨rfl, rfl, hI⟩
    obtain ⟨m', h1, h2, h3, h4, h5⟩ := M_step hli hok hR hI (by omega)
    rw [hF i _ q hi, h1, Option.bind_some, hD i m' hi h2 h3 h4 h5, Option.bind_some, nI_1, nI_add]
    exact ⟨_, rfl, rfl, rfl, h2⟩) (by
    rintro ⟨a, j, q⟩ ⟨rfl, rfl, hI⟩
    exact ⟨_, hX _ q, rfl, hI⟩) ⟨rfl, rfl, HmI.zero h⟩
  refine ⟨q.2, ?_, h3⟩
  rw [h1, ← h2]
/-! the first one -/
theorem fst_at {p : Nat → Bool} {n i : Nat} (hi : i < n) (hp : p i = true) (h : ∀ j, j < i → p j = false) : fa_first p n = i := by
  have h1 := fa_first_le p n
  rcases Nat.lt_trichotomy (fa_first p n) i with q | q | q
  · have := fa_first_yes p n (by omega)
    rw [h _ q] at this
    cases this
  · exact q
  · rw [fa_first_no p n i q] at hp
    cases hp
theorem fst_none {p : Nat → Bool} {n : Nat} (h : ∀ j, j < n → p j = false) : fa_first p n = n := by
  have h1 := fa_first_le p n
  rcases Nat.lt_or_ge (fa_first p n) n with q | q
  · have := fa_first_yes p n q
    rw [h _ q] at this
    cases this
  · omega
def fsA (p : Nat → Bool) (n d : Nat) : Int32 := if fa_first p n < n then nI (fa_first p n + d) else -1
theorem fsA_at {p : Nat → Bool} {n i d : Nat} (hi : i < n) (hp : p i = true) (h : ∀ j, j < i → p j = false) : fsA p n d = nI (i + d) := by
  unfold fsA
  rw [fst_at hi hp h, if_pos hi]
theorem fsA_none {p : Nat → Bool} {n d : Nat} (h : ∀ j, j < n → p j = false) : fsA p n d = -1 := by
  unfold fsA
  rw [fst_none h, if_neg (Nat.lt_irrefl _)]
theorem lt_snoc {p : Nat → Bool} {i : Nat} (h : ∀ j, j < i → p j = false) (hp : p i = false) : ∀ j, j < i + 1 → p j = false := fun j hj => by
  by_cases e : j = i
  · rw [e]; exact hp
  · exact h j (by omega)
/-- the most so far, the first one with it -/
def amX (c : Nat → Nat) : Nat → Option Nat × Nat
  | 0 => (none, 0)
  | i + 1 => if (amX c i).2 < c i then (some i, c i) else amX c i
def amN (c : Nat → Nat) (v : Nat) : Nat → Option Nat × Nat
  | 0 => (none, v)
  | i + 1 => if c i < (amN c v i).2 then (some i, c i) else amN c v i
theorem amX_lt (c : Nat → Nat) : ∀ n k, (amX c n).1 = some k → k < n := by
  intro n
  induction n with
  | zero => intro k h; cases h
  | succ n ih =>
    intro k h
    unfold amX at h
    split at h
    · cases h; omega
    · have := ih k h; omega
theorem amX_le (c : Nat → Nat) {B : Nat} (h : ∀ i, c i ≤ B) : ∀ n, (amX c n).2 ≤ B := by
  intro n
  induction n with
  | zero => exact Nat.zero_le _
  | succ n ih =>
    unfold amX
    split
    · exact h n
    · exact ih
theorem amX_ex (c : Nat → Nat) : ∃ A : Nat → Option Nat × Nat, A = amX c ∧ A 0 = (none, 0) ∧ ∀ i, A (i + 1) = if (A i).2 < c i then (some i, c i) else A i := ⟨amX c, rfl, rfl, fun _ => rfl⟩
theorem amN_le (c : Nat → Nat) (v : Nat) : ∀ n, (amN c v n).2 ≤ v := by
  intro n
  induction n with
  | zero => exact Nat.le_refl _
  | succ n ih =>
    unfold amN
    split
    · rename_i h; exact Nat.le_trans (Nat.le_of_lt h) ih
    · exact ih
theorem amN_ex (c : Nat → Nat) (v : Nat) : ∃ A : Nat → Option Nat × Nat, A 0 = (none, v) ∧ (∀ i, A (i + 1) = if c i < (A i).2 then (some i, c i) else A i) ∧ ∀ i, (A i).2 ≤ v := ⟨amN c v, rfl, fun _ => rfl, amN_le c v⟩
end
