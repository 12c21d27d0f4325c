/-! layers of a walk, purely -/
def zAny : Nat → (Nat → Bool) → Bool
  | 0, _ => false
  | n + 1, f => zAny n f || f n
theorem zAny_iff {n : Nat} {f : Nat → Bool} : zAny n f = true ↔ ∃ q, q < n ∧ f q = true := by
  induction n with
  | zero => simp [zAny]
  | succ n ih =>
    simp only [zAny, Bool.or_eq_true, ih]
    constructor
    · rintro (⟨q, h1, h2⟩ | h)
      · exact ⟨q, by omega, h2⟩
      · exact ⟨n, by omega, h⟩
    · rintro ⟨q, h1, h2⟩
      by_cases hq : q = n
      · subst hq; exact Or.inr h2
      · exact Or.inl ⟨q, by omega, h2⟩
theorem zAny_f {n : Nat} {f : Nat → Bool} : zAny n f = false ↔ ∀ q, q < n → f q = false := by
  rw [← Bool.not_eq_true, zAny_iff]
  constructor
  · intro h q hq
    cases hf : f q with
    | false => rfl
    | true => exact absurd ⟨q, hq, hf⟩ h
  · rintro h ⟨q, hq, hf⟩
    rw [h q hq] at hf
    exact absurd hf (by decide)
theorem zAny_congr {n : Nat} {f g : Nat → Bool} (h : ∀ q, q < n → f q = g q) : zAny n f = zAny n g := by
  induction n with
  | zero => rfl
  | succ n ih => rw [zAny, zAny, ih (fun q hq => h q (by omega)), h n (by omega)]
def zLow : Nat → (Nat → Bool) → Int
  | 0, _ => -1
  | n + 1, f => if zLow n f = -1 then (if f n then (n : Int) else -1) else zLow n f
theorem zLow_s {f : Nat → Bool} : ∀ n, (zLow n f = -1 ∧ ∀ q, q < n → f q = false) ∨ (∃ p : Nat, zLow n f = p ∧ p < n ∧ f p = true ∧ ∀ q, q < p → f q = false)
  | 0 => Or.inl ⟨rfl, fun q hq => absurd hq (Nat.not_lt_zero q)⟩
  | n + 1 => by
    unfold zLow
    rcases zLow_s (f := f) n with ⟨h1, h2⟩ | ⟨p, h1, h2, h3, h4⟩
    · rw [if_pos h1]
      by_cases hf : f n = true
      · rw [if_pos hf]
        exact Or.inr ⟨n, rfl, by omega, hf, h2⟩
      · rw [if_neg hf]
        refine Or.inl ⟨rfl, fun q hq => ?_⟩
        by_cases hq2 : q = n
        · subst hq2; simpa using hf
        · exact h2 q (by omega)
    · rw [if_neg (by omega)]
      exact Or.inr ⟨p, h1, by omega, h3, h4⟩
theorem zLow_u {f : Nat → Bool} {n p : Nat} (h1 : p < n) (h2 : f p = true) (h3 : ∀ q, q < p → f q = false) : zLow n f = p := by
  rcases zLow_s (f := f) n with ⟨_, h5⟩ | ⟨p2, h4, h5, h6, h7⟩
  · rw [h5 p h1] at h2; exact absurd h2 (by decide)
  · rcases Nat.lt_trichotomy p p2 with h | h | h
    · rw [h7 p h] at h2; exact absurd h2 (by decide)
    · rw [h4, h]
    · rw [h3 p2 h] at h6; exact absurd h6 (by decide)
theorem zLow_n {f : Nat → Bool} {n : Nat} (h : ∀ q, q < n → f q = false) : zLow n f = -1 := by
  rcases zLow_s (f := f) n with ⟨h1, _⟩ | ⟨p, _, h5, h6, _⟩
  · exact h1
  · rw [h p h5] at h6; exact absurd h6 (by decide)
theorem zLow_congr {n : Nat} {f g : Nat → Bool} (h : ∀ q, q < n → f q = g q) : zLow n f = zLow n g := by
  induction n with
  | zero => rfl
  | succ n ih => rw [zLow, zLow, ih (fun q hq => h q (by omega)), h n (by omega)]
section BF
variable (N : Nat) (adj : Nat → Nat → Bool) (opn : Nat → Bool) (s : Nat)
def zLS : Nat → (Nat → Bool) × (Nat → Bool)
  | 0 => (fun p => p == s, fun p => p == s)
  | k + 1 => (fun p => opn p && !(zLS k).2 p && zAny N (fun q => (zLS k).1 q && adj q p), fun p => (zLS k).2 p || (opn p && !(zLS k).2 p && zAny N (fun q => (zLS k).1 q && adj q p)))
def zLa (k p : Nat) : Bool := (zLS N adj opn s k).1 p
def zSe (k p : Nat) : Bool := (zLS N adj opn s k).2 p
def zWk : Nat → Nat → Bool
  | 0, p => p == s
  | k + 1, p => opn p && zAny N (fun q => zWk k q && adj q p)
variable {N adj opn s}
theorem zLa_0 (p : Nat) : zLa N adj opn s 0 p = (p == s) := rfl
theorem zSe_0 (p : Nat) : zSe N adj opn s 0 p = (p == s) := rfl
theorem zLa_s (k p : Nat) : zLa N adj opn s (k + 1) p = (opn p && !zSe N adj opn s k p && zAny N (fun q => zLa N adj opn s k q && adj q p)) := rfl
theorem zSe_s (k p : Nat) : zSe N adj opn s (k + 1) p = (zSe N adj opn s k p || zLa N adj opn s (k + 1) p) := rfl
theorem zSe_m {j k p : Nat} (h : j ≤ k) (hs : zSe N adj opn s j p = true) : zSe N adj opn s k p = true := by
  induction h with
  | refl => exact hs
  | step _ ih => rw [zSe_s, ih]; rfl
theorem zSe_la {k p : Nat} : zSe N adj opn s k p = true ↔ ∃ j, j ≤ k ∧ zLa N adj opn s j p = true := by
  induction k with
  | zero =>
    constructor
    · intro h; exact ⟨0, Nat.le_refl 0, h⟩
    · rintro ⟨j, hj, h⟩
      have : j = 0 := by omega
      subst this; exact h
  | succ k ih =>
    rw [zSe_s, Bool.or_eq_true, ih]
    constructor
    · rintro (⟨j, hj, h⟩ | h)
      · exact ⟨j, by omega, h⟩
      · exact ⟨k + 1, Nat.le_refl _, h⟩
    · rintro ⟨j, hj, h⟩
      by_cases hk : j = k + 1
      · subst hk; exact Or.inr h
      · exact Or.inl ⟨j, by omega, h⟩
theorem zLa_wk {k p : Nat} (h : zLa N adj opn s k p = true) : zWk N adj opn s k p = true := by
  induction k generalizing p with
  | zero => exact h
  | succ k ih =>
    rw [zLa_s, Bool.and_eq_true, Bool.and_eq_true, zAny_iff] at h
    obtain ⟨⟨h1, _⟩, q, hq, h3⟩ := h
    rw [Bool.and_eq_true] at h3
    rw [zWk, Bool.and_eq_true, zAny_iff]
    exact ⟨h1, q, hq, by rw [Bool.and_eq_true]; exact ⟨ih h3.1, h3.2⟩⟩
theorem zWk_se {k p : Nat} (h : zWk N adj opn s k p = true) : zSe N adj opn s k p = true := by
  induction k generalizing p with
  | zero => exact h
  | succ k ih =>
    rw [zWk, Bool.and_eq_true, zAny_iff] at h
    obtain ⟨h1, q, hq, h3⟩ := h
    rw [Bool.and_eq_true] at h3
    obtain ⟨j, hj, hl⟩ := zSe_la.mp (ih h3.1)
    refine zSe_m (j := j + 1) (by omega) ?_
    rw [zSe_s]
    cases hs : zSe N adj opn s j p with
    | true => rfl
    | false =>
      rw [Bool.false_or, zLa_s, h1, hs]
      rw [Bool.true_and, Bool.not_false, Bool.true_and, zAny_iff]
      exact ⟨q, hq, by rw [hl, h3.2]; rfl⟩
theorem zSe_wk {k p : Nat} : zSe N adj opn s k p = true ↔ ∃ j, j ≤ k ∧ zWk N adj opn s j p = true := by
  constructor
  · intro h
    obtain ⟨j, hj, hl⟩ := zSe_la.mp h
    exact ⟨j, hj, zLa_wk hl⟩
  · rintro ⟨j, hj, hl⟩
    exact zSe_m hj (zWk_se hl)
theorem zLa_se {k p : Nat} (h : zLa N adj opn s k p = true) : zSe N adj opn s k p = true := zSe_la.mpr ⟨k, Nat.le_refl k, h⟩
theorem zLa_nse {k p : Nat} (h : zLa N adj opn s (k + 1) p = true) : zSe N adj opn s k p = false := by
  rw [zLa_s, Bool.and_eq_true, Bool.and_eq_true] at h
  simpa using h.1.2
theorem zLa_u {j k p : Nat} (h : zLa N adj opn s j p = true) (h2 : zLa N adj opn s k p = true) : j = k := by
  rcases Nat.lt_trichotomy j k with hl | hl | hl
  · obtain ⟨k', rfl⟩ : ∃ k', k = k' + 1 := ⟨k - 1, by omega⟩
    have := zSe_m (k := k') (by omega) (zLa_se h)
    rw [zLa_nse h2] at this; exact absurd this (by decide)
  · exact hl
  · obtain ⟨k', rfl⟩ : ∃ k', j = k' + 1 := ⟨j - 1, by omega⟩
    have := zSe_m (k := k') (by omega) (zLa_se h2)
    rw [zLa_nse h] at this; exact absurd this (by decide)
theorem zLa_iff {k p : Nat} : zLa N adj opn s k p = true ↔ zWk N adj opn s k p = true ∧ ∀ j, j < k → zWk N adj opn s j p = false := by
  constructor
  · intro h
    refine ⟨zLa_wk h, fun j hj => ?_⟩
    cases hw : zWk N adj opn s j p with
    | false => rfl
    | true =>
      obtain ⟨i, hi, hl⟩ := zSe_la.mp (zWk_se hw)
      have := zLa_u h hl
      omega
  · rintro ⟨h1, h2⟩
    obtain ⟨i, hi, hl⟩ := zSe_la.mp (zWk_se h1)
    by_cases hik : i = k
    · subst hik; exact hl
    · have := h2 i (by omega)
      rw [zLa_wk hl] at this; exact absurd this (by decide)
theorem zLa_opn {k p : Nat} (h : zLa N adj opn s (k + 1) p = true) : opn p = true := by
  rw [zLa_s, Bool.and_eq_true, Bool.and_eq_true] at h
  exact h.1.1
theorem zLa_e {k : Nat} (h : ∀ p, p < N → zLa N adj opn s k p = false) : ∀ j, k < j → ∀ p, zLa N adj opn s j p = false := by
  intro j
  induction j with
  | zero => intro h0; exact absurd h0 (Nat.not_lt_zero _)
  | succ j ih =>
    intro hj p
    rw [zLa_s]
    have : zAny N (fun q => zLa N adj opn s j q && adj q p) = false := by
      rw [zAny_f]
      intro q hq
      by_cases hk : j = k
      · subst hk; rw [h q hq]; rfl
      · rw [ih (by omega) q]; rfl
    rw [this, Bool.and_false]
-- how many
def zCt : Nat → (Nat → Bool) → Nat
  | 0, _ => 0
  | n + 1, f => zCt n f + (if f n then 1 else 0)
theorem zCt_le {n : Nat} {f : Nat → Bool} : zCt n f ≤ n := by
  induction n with
  | zero => exact Nat.le_refl 0
  | succ n ih => rw [zCt]; split <;> omega
theorem zCt_mono {n : Nat} {f g : Nat → Bool} (h : ∀ q, q < n → f q = true → g q = true) : zCt n f ≤ zCt n g := by
  induction n with
  | zero => exact Nat.le_refl 0
  | succ n ih =>
    have := ih (fun q hq => h q (by omega))
    rw [zCt, zCt]
    have h2 := h n (by omega)
    split <;> split <;> simp_all <;> omega
theorem zCt_lt {n p : Nat} {f g : Nat → Bool} (h : ∀ q, q < n → f q = true → g q = true) (hp : p < n) (h1 : f p = false) (h2 : g p = true) : zCt n f < zCt n g := by
  induction n with
  | zero => exact absurd hp (Nat.not_lt_zero _)
  | succ n ih =>
    rw [zCt, zCt]
    by_cases hpn : p = n
    · subst hpn
      have := zCt_mono (n := p) (fun q hq => h q (by omega))
      rw [h1, h2]
      simp only [Bool.false_eq_true, if_false, if_true]
      omega
    · have := ih (fun q hq => h q (by omega)) (by omega)
      have h3 := h n (by omega)
      split <;> split <;> simp_all <;> omega
theorem zCt_congr {n : Nat} {f g : Nat → Bool} (h : ∀ q, q < n → f q = g q) : zCt n f = zCt n g := by
  induction n with
  | zero => rfl
  | succ n ih => rw [zCt, zCt, ih (fun q hq => h q (by omega)), h n (by omega)]
theorem zLa_ct {k : Nat} (hs : s < N) : (∃ p, p < N ∧ zLa N adj opn s k p = true) → k < zCt N (zSe N adj opn s k) := by
  induction k with
  | zero =>
    intro _
    have := zCt_lt (n := N) (p := s) (f := fun _ => false) (g := zSe N adj opn s 0) (by intro q _ h; exact absurd h (by decide)) hs rfl (by rw [zSe_0]; simp)
    omega
  | succ k ih =>
    rintro ⟨p, hp, h⟩
    have h1 : ∃ p, p < N ∧ zLa N adj opn s k p = true := by
      rw [zLa_s, Bool.and_eq_true, zAny_iff] at h
      obtain ⟨_, q, hq, h3⟩ := h
      rw [Bool.and_eq_true] at h3
      exact ⟨q, hq, h3.1⟩
    have h2 := ih h1
    have h3 := zCt_lt (n := N) (p := p) (f := zSe N adj opn s k) (g := zSe N adj opn s (k + 1)) (fun q _ hq => zSe_m (Nat.le_succ k) hq) hp (zLa_nse h) (zLa_se h)
    omega
theorem zLa_N {k p : Nat} (hs : s < N) (hk : N ≤ k) (hp : p < N) : zLa N adj opn s k p = false := by
  cases h : zLa N adj opn s k p with
  | false => rfl
  | true =>
    have h1 := zLa_ct hs ⟨p, hp, h⟩
    have h2 := zCt_le (n := N) (f := zSe N adj opn s k)
    omega
end BF
/-- the nearest of some goals: the first layer of m that has one, the lowest there -/
def zNe (N : Nat) (la : Nat → Nat → Bool) (g : Nat → Bool) : Nat → Int
  | 0 => -1
  | k + 1 => if zNe N la g k = -1 then zLow N (fun p => la k p && g p) else zNe N la g k
theorem zNe_s {N : Nat} {la : Nat → Nat → Bool} {g : Nat → Bool} : ∀ m, (zNe N la g m = -1 ∧ ∀ k p, k < m → p < N → la k p = true → g p = false) ∨ (∃ k p : Nat, zNe N la g m = p ∧ k < m ∧ p < N ∧ la k p = true ∧ g p = true ∧ (∀ j q, j < k → q < N → la j q = true → g q = false) ∧ ∀ q, q < p → la k q = true → g q = false)
  | 0 => Or.inl ⟨rfl, fun k p hk => absurd hk (Nat.not_lt_zero k)⟩
  | m + 1 => by
    unfold zNe
    rcases zNe_s (N := N) (la := la) (g := g) m with ⟨h1, h2⟩ | ⟨k, p, h1, h2, h3, h4, h5, h6, h7⟩
    · rw [if_pos h1]
      rcases zLow_s (f := fun p => la m p && g p) N with ⟨h3, h4⟩ | ⟨p, h3, h4, h5, h6⟩
      · refine Or.inl ⟨h3, fun k p hk hp hl => ?_⟩
        by_cases hkm : k = m
        · subst hkm
          have := h4 p hp
          rw [hl] at this
          simpa using this
        · exact h2 k p (by omega) hp hl
      · rw [Bool.and_eq_true] at h5
        refine Or.inr ⟨m, p, h3, by omega, h4, h5.1, h5.2, fun j q hj hq hl => h2 j q hj hq hl, fun q hq hl => ?_⟩
        have := h6 q hq
        rw [hl] at this
        simpa using this
    · rw [if_neg (by omega)]
      exact Or.inr ⟨k, p, h1, by omega, h3, h4, h5, h6, h7⟩
theorem zNe_u {N m k p : Nat} {la : Nat → Nat → Bool} {g : Nat → Bool} (hk : k < m) (hp : p < N) (h1 : la k p = true) (h2 : g p = true) (h3 : ∀ j q, j < k → q < N → la j q = true → g q = false) (h4 : ∀ q, q < p → la k q = true → g q = false) : zNe N la g m = p := by
  rcases zNe_s (N := N) (la := la) (g := g) m with ⟨_, h⟩ | ⟨k2, p2, e, e1, e2, e3, e4, e5, e6⟩
  · rw [h k p hk hp h1] at h2; exact absurd h2 (by decide)
  · rcases Nat.lt_trichotomy k k2 with h | h | h
    · rw [e5 k p h hp h1] at h2; exact absurd h2 (by decide)
    · subst h
      rcases Nat.lt_trichotomy p p2 with h | h | h
      · rw [e6 p h h1] at h2; exact absurd h2 (by decide)
      · rw [e, h]
      · rw [h4 p2 h e3] at e4; exact absurd e4 (by decide)
    · rw [h3 k2 p2 h e2 e3] at e4; exact absurd e4 (by decide)
theorem zNe_n {N m : Nat} {la : Nat → Nat → Bool} {g : Nat → Bool} (h : ∀ k p, k < m → p < N → la k p = true → g p = false) : zNe N la g m = -1 := by
  rcases zNe_s (N := N) (la := la) (g := g) m with ⟨h1, _⟩ | ⟨k2, p2, e, e1, e2, e3, e4, e5, e6⟩
  · exact h1
  · rw [h k2 p2 e1 e2 e3] at e4; exact absurd e4 (by decide)
