/-! the way, purely -/
section
variable {N : Nat} {adj : Nat → Nat → Bool} {op : Nat → Bool}
theorem zWk_s {s k p : Nat} : zWk N adj op s (k + 1) p = (op p && zAny N (fun q => zWk N adj op s k q && adj q p)) := rfl
theorem zWk_lt {n s k p : Nat} (hop : ∀ p, n < p → op p = false) (hs : s ≤ n) (h : zWk N adj op s k p = true) : p ≤ n := by
  cases k with
  | zero =>
    have : p = s := by simpa [zWk] using h
    omega
  | succ k =>
    rw [zWk_s, Bool.and_eq_true] at h
    refine Nat.le_of_not_lt fun hp => ?_
    rw [hop p hp] at h
    exact absurd h.1 (by decide)
theorem zWk_1 {s p : Nat} (hs : s < N) : zWk N adj op s 1 p = true ↔ op p = true ∧ adj s p = true := by
  rw [zWk_s, Bool.and_eq_true, zAny_iff]
  constructor
  · rintro ⟨h1, q, hq, h2⟩
    rw [Bool.and_eq_true] at h2
    have : q = s := by simpa [zWk] using h2.1
    subst this
    exact ⟨h1, h2.2⟩
  · rintro ⟨h1, h2⟩
    exact ⟨h1, s, hs, by rw [h2]; simp [zWk]⟩
/-- walks put together -/
theorem zWk_t {s p j : Nat} (h1 : zWk N adj op s j p = true) (hp : p < N) : ∀ {m : Nat} {q : Nat}, zWk N adj op p m q = true → zWk N adj op s (j + m) q = true
  | 0, q, h => by
    have : q = p := by simpa [zWk] using h
    subst this
    exact h1
  | m + 1, q, h => by
    rw [zWk_s, Bool.and_eq_true, zAny_iff] at h
    obtain ⟨h2, x, hx, h3⟩ := h
    rw [Bool.and_eq_true] at h3
    rw [← Nat.add_assoc, zWk_s, Bool.and_eq_true, zAny_iff]
    exact ⟨h2, x, hx, by rw [zWk_t h1 hp h3.1, h3.2]; rfl⟩
/-- a walk's first step -/
theorem zWk_f {s : Nat} (hs : s < N) : ∀ {m q : Nat}, q < N → zWk N adj op s (m + 1) q = true → ∃ p, p < N ∧ op p = true ∧ adj s p = true ∧ zWk N adj op p m q = true
  | 0, q, hq, h => by
    obtain ⟨h1, h2⟩ := (zWk_1 hs).mp h
    exact ⟨q, hq, h1, h2, by simp [zWk]⟩
  | m + 1, q, hq, h => by
    rw [zWk_s, Bool.and_eq_true, zAny_iff] at h
    obtain ⟨h1, x, hx, h2⟩ := h
    rw [Bool.and_eq_true] at h2
    obtain ⟨p, p1, p2, p3, p4⟩ := zWk_f hs hx h2.1
    refine ⟨p, p1, p2, p3, ?_⟩
    rw [zWk_s, Bool.and_eq_true, zAny_iff]
    exact ⟨h1, x, hx, by rw [p4, h2.2]; rfl⟩
end
section
variable (N : Nat) (adj : Nat → Nat → Bool) (op : Nat → Bool) (D gl : Nat)
/-- whether p can be the k-th step from a on -/
def zCC (k a p : Nat) : Bool := op p && adj a p && zWk N adj op p (D - k) gl
/-- the way's places -/
def zWy : Nat → Nat
  | 0 => 0
  | k + 1 => (zLow N (zCC N adj op D gl (k + 1) (zWy k))).toNat
variable {N adj op D gl}
theorem zWy_i (hN : 0 < N) (hg : gl < N) (hD : zLa N adj op 0 D gl = true) : ∀ k, k ≤ D → zWk N adj op 0 k (zWy N adj op D gl k) = true ∧ zWk N adj op (zWy N adj op D gl k) (D - k) gl = true ∧ zWy N adj op D gl k < N
  | 0, _ => ⟨by simp [zWk, zWy], zLa_wk hD, hN⟩
  | k + 1, hk => by
    obtain ⟨h1, h2, h3⟩ := zWy_i hN hg hD k (by omega)
    rw [show D - k = (D - (k + 1)) + 1 by omega] at h2
    obtain ⟨p, p1, p2, p3, p4⟩ := zWk_f h3 hg h2
    have hc : zCC N adj op D gl (k + 1) (zWy N adj op D gl k) p = true := by unfold zCC; rw [p2, p3, p4]; rfl
    rcases zLow_s (f := zCC N adj op D gl (k + 1) (zWy N adj op D gl k)) N with ⟨_, q2⟩ | ⟨q, q1, q2, q3, _⟩
    · rw [q2 p p1] at hc; exact absurd hc (by decide)
    · have e : zWy N adj op D gl (k + 1) = q := by
        show (zLow N (zCC N adj op D gl (k + 1) (zWy N adj op D gl k))).toNat = q
        rw [q1]; rfl
      rw [e]
      unfold zCC at q3
      rw [Bool.and_eq_true, Bool.and_eq_true] at q3
      refine ⟨?_, q3.2, q2⟩
      rw [zWk_s, Bool.and_eq_true, zAny_iff]
      exact ⟨q3.1.1, _, h3, by rw [h1, q3.1.2]; rfl⟩
theorem zWy_l (hN : 0 < N) (hg : gl < N) (hD : zLa N adj op 0 D gl = true) {k : Nat} (hk : k < D) : zLow N (zCC N adj op D gl (k + 1) (zWy N adj op D gl k)) = (zWy N adj op D gl (k + 1) : Int) := by
  obtain ⟨h1, h2, h3⟩ := zWy_i hN hg hD k (by omega)
  rw [show D - k = (D - (k + 1)) + 1 by omega] at h2
  obtain ⟨p, p1, p2, p3, p4⟩ := zWk_f h3 hg h2
  have hc : zCC N adj op D gl (k + 1) (zWy N adj op D gl k) p = true := by unfold zCC; rw [p2, p3, p4]; rfl
  rcases zLow_s (f := zCC N adj op D gl (k + 1) (zWy N adj op D gl k)) N with ⟨_, q2⟩ | ⟨q, q1, q2, q3, _⟩
  · rw [q2 p p1] at hc; exact absurd hc (by decide)
  · have e : zWy N adj op D gl (k + 1) = q := by
      show (zLow N (zCC N adj op D gl (k + 1) (zWy N adj op D gl k))).toNat = q
      rw [q1]; rfl
    rw [q1, e]
/-- what is reached by k steps and leads on by D - k lies in the layer k -/
theorem zLa_mid (hD : zLa N adj op 0 D gl = true) {k p : Nat} (hk : k ≤ D) (hp : p < N) (h1 : zWk N adj op 0 k p = true) (h2 : zWk N adj op p (D - k) gl = true) : zLa N adj op 0 k p = true := by
  rw [zLa_iff] at hD ⊢
  refine ⟨h1, fun j hj => ?_⟩
  cases hc : zWk N adj op 0 j p with
  | false => rfl
  | true =>
    have := zWk_t hc hp h2
    rw [hD.2 _ (by omega)] at this
    exact absurd this (by decide)
/-- what a layer keeps -/
def zKp (N : Nat) (adj : Nat → Nat → Bool) (op : Nat → Bool) (D gl k p : Nat) : Bool := zLa N adj op 0 k p && zWk N adj op p (D - k) gl
theorem zKp_s (hg : gl < N) (hD : zLa N adj op 0 D gl = true) {k p : Nat} (hk : k < D) (hp : p < N) : zKp N adj op D gl k p = (zLa N adj op 0 k p && zAny N (fun q => adj p q && zKp N adj op D gl (k + 1) q)) := by
  unfold zKp
  cases hl : zLa N adj op 0 k p with
  | false => rfl
  | true =>
    rw [Bool.true_and, Bool.true_and]
    cases hw : zWk N adj op p (D - k) gl with
    | true =>
      symm
      rw [show D - k = (D - (k + 1)) + 1 by omega] at hw
      obtain ⟨q, q1, q2, q3, q4⟩ := zWk_f hp hg hw
      rw [zAny_iff]
      refine ⟨q, q1, ?_⟩
      have h1 : zWk N adj op 0 (k + 1) q = true := by
        rw [zWk_s, Bool.and_eq_true, zAny_iff]
        exact ⟨q2, p, hp, by rw [zLa_wk hl, q3]; rfl⟩
      rw [q3, zLa_mid hD (by omega) q1 h1 q4, q4]
      rfl
    | false =>
      symm
      rw [zAny_f]
      intro q hq
      cases ha : adj p q with
      | false => rfl
      | true =>
        cases hl2 : zLa N adj op 0 (k + 1) q with
        | false => rfl
        | true =>
          cases hw2 : zWk N adj op q (D - (k + 1)) gl with
          | false => rfl
          | true =>
            have h1 : zWk N adj op p 1 q = true := (zWk_1 hp).mpr ⟨zLa_opn hl2, ha⟩
            have := zWk_t h1 hq hw2
            rw [show 1 + (D - (k + 1)) = D - k by omega, hw] at this
            exact absurd this (by decide)
theorem zKp_c (hD : zLa N adj op 0 D gl = true) {k a p : Nat} (hk : k < D) (ha : a < N) (hp : p < N) (hw : zWk N adj op 0 k a = true) : (zKp N adj op D gl (k + 1) p && adj a p) = zCC N adj op D gl (k + 1) a p := by
  unfold zKp zCC
  cases hl : zLa N adj op 0 (k + 1) p with
  | true =>
    rw [zLa_opn hl]
    cases adj a p <;> cases zWk N adj op p (D - (k + 1)) gl <;> rfl
  | false =>
    cases ho : op p with
    | false => rfl
    | true =>
      cases ha2 : adj a p with
      | false => rfl
      | true =>
        cases hw2 : zWk N adj op p (D - (k + 1)) gl with
        | false => rfl
        | true =>
          have h1 : zWk N adj op 0 (k + 1) p = true := by
            rw [zWk_s, Bool.and_eq_true, zAny_iff]
            exact ⟨ho, a, ha, by rw [hw, ha2]; rfl⟩
          rw [zLa_mid hD (by omega) hp h1 hw2] at hl
          exact absurd hl (by decide)
/-- how the reference picks a step -/
theorem zDi_c (hN : N ≤ 13) (hg : gl < N) (hirr : ∀ p, adj p p = false) (hD : zLa N adj op 0 D gl = true) {k a p : Nat} (hk : k < D) (ha : a < N) (hp : p < N) (hw : zWk N adj op 0 k a = true) : (zDi N adj op a p = 1 ∧ zDi N adj op p gl = (D : Int) - ((k : Int) + 1)) ↔ zCC N adj op D gl (k + 1) a p = true := by
  have key : ∀ (s q j : Nat), s < N → q < N → (zDi N adj op s q = (j : Int) ↔ zLa N adj op s j q = true) := by
    intro s q j hs hq
    rcases zDi_s (adj := adj) (op := op) hs hN hq with ⟨h1, h2⟩ | ⟨i, h1, h2, h3⟩
    · rw [h1, h2 j]
      constructor
      · intro h; omega
      · intro h; exact absurd h (by decide)
    · rw [h1]
      constructor
      · intro h
        have : i = j := by omega
        subst this; exact h3
      · intro h
        rw [zLa_u h3 h]
  have e1 : zDi N adj op a p = 1 ↔ zLa N adj op a 1 p = true := key a p 1 ha hp
  have e2 : zDi N adj op p gl = (D : Int) - ((k : Int) + 1) ↔ zLa N adj op p (D - (k + 1)) gl = true := by
    rw [← key p gl (D - (k + 1)) hp hg]
    rw [show ((D - (k + 1) : Nat) : Int) = (D : Int) - ((k : Int) + 1) by omega]
  rw [e1, e2]
  unfold zCC
  rw [Bool.and_eq_true, Bool.and_eq_true]
  constructor
  · rintro ⟨h1, h2⟩
    have := (zWk_1 ha).mp (zLa_wk h1)
    exact ⟨this, zLa_wk h2⟩
  · rintro ⟨⟨h1, h2⟩, h3⟩
    refine ⟨?_, ?_⟩
    · rw [zLa_iff]
      refine ⟨(zWk_1 ha).mpr ⟨h1, h2⟩, fun j hj => ?_⟩
      have : j = 0 := by omega
      subst this
      have hne : ¬ p = a := by
        intro e
        subst e
        rw [hirr p] at h2
        exact absurd h2 (by decide)
      simp [zWk, hne]
    · rw [zLa_iff]
      refine ⟨h3, fun j hj => ?_⟩
      cases hc : zWk N adj op p j gl with
      | false => rfl
      | true =>
        have h4 : zWk N adj op 0 (k + 1) p = true := by
          rw [zWk_s, Bool.and_eq_true, zAny_iff]
          exact ⟨h1, a, ha, by rw [hw, h2]; rfl⟩
        have := zWk_t h4 hp hc
        rw [(zLa_iff.mp hD).2 _ (by omega)] at this
        exact absurd this (by decide)
end
