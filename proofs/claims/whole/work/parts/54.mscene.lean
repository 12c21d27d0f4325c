/-! the reference's scene -/
/-- what the reference has laid out -/
def zMC (V : z_M) (ρ : Nat → Int) (n R m : Nat) (lev : Nat → Int) (car : Nat → Nat → Bool) (tq : Nat → Nat) (g0 : Nat → Bool) : Prop :=
  V 143 = ρ ∧ ρ 0 = (n : Int) ∧ ρ 1 = (R : Int) ∧ ρ 4 = (m : Int) ∧ (∀ t, t < n → V 156 t = lev (t + 1)) ∧ (∀ r, r < R → zBS (V 157 r) (fun t => decide (t < n) && car r t)) ∧ (∀ a, a < m → V 158 a = (tq a : Int)) ∧ zBS (V 141 36) (fun t => decide (t < n) && g0 t)
def zMD (V : z_M) (n : Nat) (w : Nat → Nat) (g : Nat → Bool) : Prop := zBS (V 141 44) (fun t => decide (t < n) && g t) ∧ ∀ r, r < 6 → V 162 r = (w r : Int) ∧ w r ≤ n
theorem zMC_c {V W : z_M} {ρ : Nat → Int} {n R m : Nat} {lev : Nat → Int} {car : Nat → Nat → Bool} {tq : Nat → Nat} {g0 : Nat → Bool} (h : zMC V ρ n R m lev car tq g0) (h1 : W 143 = V 143) (h2 : W 156 = V 156) (h3 : W 157 = V 157) (h4 : W 158 = V 158) (h5 : W 141 36 = V 141 36) : zMC W ρ n R m lev car tq g0 := by
  unfold zMC at h ⊢
  rw [h1, h2, h3, h4, h5]
  exact h
theorem zMD_c {V W : z_M} {n : Nat} {w : Nat → Nat} {g : Nat → Bool} (h : zMD V n w g) (h1 : W 162 = V 162) (h2 : W 141 44 = V 141 44) : zMD W n w g := by
  unfold zMD at h ⊢
  rw [h1, h2]
  exact h
/-- the bounds that a reader's steps need -/
theorem zMC_fs {V V0 : z_M} {b0 : Nat} {ρ : Nat → Int} {Λ : Nat → (Nat → Int) → Int} {n R m r : Nat} {lev : Nat → Int} {car : Nat → Nat → Bool} {tq : Nat → Nat} {g0 : Nat → Bool} (hT : zT b0 ρ V0 Λ) (h : zMC V ρ n R m lev car tq g0) (hr : r < R) (h0 : lev 0 = 0) (hb : ∀ p, p ≤ n → 0 ≤ lev p ∧ lev p ≤ 108) : zFS V n r lev (zSR ρ r) (ρ 7) := by
  obtain ⟨c1, c2, c3, c4, c5, _⟩ := h
  have a0 := zT_0 hT
  have a1 := zT_1 hT
  have a7 := zT_7 hT
  have ar := zT_r hT (r := r) (by omega)
  refine ⟨by rw [c1, c2], by omega, by omega, c5, h0, hb, ⟨by rw [c1]; rfl, ?_, ?_⟩, ⟨by rw [c1], ?_, ?_⟩⟩ <;> first | (unfold zSR; omega) | omega
theorem zOp_m {n : Nat} {c g : Nat → Bool} (q : Nat) : zOp n c g q = (decide (q = 0) || ((decide (q - 1 < n) && c (q - 1)) && !(decide (q - 1 < n) && g (q - 1)))) := by
  unfold zOp zCa zIn
  by_cases e : q = 0
  · simp [e]
  · rw [show decide (q - 1 < n) = decide (q ≤ n) by simp; omega, show decide (q = 0) = false by simp [e]]
    cases decide (q ≤ n) <;> cases c (q - 1) <;> cases g (q - 1) <;> rfl
theorem zDi_s {N s p : Nat} {adj : Nat → Nat → Bool} {op : Nat → Bool} (hs : s < N) (hN : N ≤ 13) (hp : p < N) : (zDi N adj op s p = -1 ∧ ∀ k, zLa N adj op s k p = false) ∨ (∃ k : Nat, zDi N adj op s p = k ∧ k < 13 ∧ zLa N adj op s k p = true) := by
  unfold zDi
  rcases zLow_s (f := fun k => zLa N adj op s k p) 14 with ⟨h1, h2⟩ | ⟨k, h1, h2, h3, _⟩
  · refine Or.inl ⟨h1, fun k => ?_⟩
    by_cases hk : k < 14
    · exact h2 k hk
    · exact zLa_N hs (by omega) hp
  · refine Or.inr ⟨k, h1, ?_, h3⟩
    by_cases hk : k < 13
    · exact hk
    · rw [zLa_N hs (by omega) hp] at h3
      exact absurd h3 (by decide)
theorem zNe_0 {N s : Nat} {adj : Nat → Nat → Bool} {op : Nat → Bool} (hs : s < N) (hN : N ≤ 13) : zNe N (zLa N adj op s) (fun k => decide (k = 0)) 13 = -1 ↔ zDi N adj op s 0 = -1 := by
  rcases zDi_s (adj := adj) (op := op) hs hN (show 0 < N by omega) with ⟨h1, h2⟩ | ⟨k, h1, h2, h3⟩
  · refine ⟨fun _ => h1, fun _ => zNe_n (fun k p _ _ hl => ?_)⟩
    by_cases e : p = 0
    · subst e
      rw [h2 k] at hl
      exact absurd hl (by decide)
    · simp [e]
  · constructor
    · intro h
      rcases zNe_s (N := N) (la := zLa N adj op s) (g := fun k => decide (k = 0)) 13 with ⟨_, h5⟩ | ⟨k2, p, h5, _⟩
      · have := h5 k 0 h2 (by omega) h3
        simp at this
      · omega
    · intro h
      omega
section
variable {d : Nat} {Q : Int → z_M → Prop}
theorem lp222 {V : z_M} {R t : Nat} {w : Nat → Nat} (hR : V 143 1 = (R : Int)) (hR2 : R ≤ 6) (ht : t ≤ 12) (hw : ∀ r, r < 6 → V 162 r = (w r : Int)) (h : Q (if zAny R (fun r => decide (w r = t + 1)) = true then 1 else 0) V) :
    ∀ k i b, i + k = R → b = (if zAny i (fun r => decide (w r = t + 1)) = true then (1 : Int) else 0) → z_Ex (z_MS d) 222 Q true 4 [some (.inr (.inr 141)), some (.inl (t : Int)), some (.inl b), some (.inl (i : Int))] [] 0 0 V
  | 0, i, b, e, hb => by
    have e2 : i = R := by omega
    subst e2
    refine zb222_141_p4 _ _ _ (z_ifn (by omega) (z_gp ?_ ?_))
    · rw [hb]; split <;> omega
    · rw [hb]; exact h
  | k + 1, i, b, e, hb => by
    refine zb222_141_p4 _ _ _ (z_ifp (by omega) ?_)
    rw [z_inc (by omega), z_inc (by omega)]
    refine z_ifc (fun h0 => z_gp (by omega) (z_all ?_)) (fun h0 => ?_)
    · rw [Int.toNat_natCast, hw i (by omega)]
      refine lp222 hR hR2 ht hw h k (i + 1) _ (by omega) ?_
      have hz : zAny i (fun r => decide (w r = t + 1)) = false := by
        cases hc : zAny i (fun r => decide (w r = t + 1)) with
        | false => rfl
        | true => rw [hb, hc] at h0; exact absurd h0 (by decide)
      rw [zAny, hz]
      by_cases ew : w i = t + 1
      · rw [if_pos (by omega)]; simp [ew]
      · rw [if_neg (by omega)]; simp [ew]
    · refine lp222 hR hR2 ht hw h k (i + 1) _ (by omega) ?_
      have hz : zAny i (fun r => decide (w r = t + 1)) = true := by
        cases hc : zAny i (fun r => decide (w r = t + 1)) with
        | true => rfl
        | false => rw [hb, hc] at h0; exact absurd rfl h0
      rw [zAny, hz]
      rfl
theorem sp222 {V : z_M} {R t : Nat} {w : Nat → Nat} (hR : V 143 1 = (R : Int)) (hR2 : R ≤ 6) (ht : t ≤ 12) (hw : ∀ r, r < 6 → V 162 r = (w r : Int)) (h : Q (if zAny R (fun r => decide (w r = t + 1)) = true then 1 else 0) V) : z_MS (d + 1) 222 true [.inr (.inr 141), .inl (t : Int)] V Q :=
  zb222_141 _ (lp222 hR hR2 ht hw h R 0 0 (by omega) rfl)
/-- the best place so far -/
def zBe (i : Nat) (far : Nat → Int) (can : Nat → Bool) (z : Int) : Prop :=
  (z = -1 ∧ ∀ p, p < i → can p = false) ∨ (∃ p0 : Nat, z = p0 ∧ p0 < i ∧ can p0 = true ∧ (∀ p, p < i → can p = true → far p0 ≤ far p) ∧ ∀ p, p < p0 → can p = true → far p0 < far p)
theorem zBe_0 {i : Nat} {far : Nat → Int} {can : Nat → Bool} {z : Int} (h : zBe i far can z) (hc : can i = false) : zBe (i + 1) far can z := by
  rcases h with ⟨h1, h2⟩ | ⟨p0, h1, h2, h3, h4, h5⟩
  · refine Or.inl ⟨h1, fun p hp => ?_⟩
    by_cases e : p = i
    · subst e; exact hc
    · exact h2 p (by omega)
  · refine Or.inr ⟨p0, h1, by omega, h3, fun p hp hcp => ?_, h5⟩
    by_cases e : p = i
    · subst e; rw [hc] at hcp; exact absurd hcp (by decide)
    · exact h4 p (by omega) hcp
theorem zBe_1 {i : Nat} {far : Nat → Int} {can : Nat → Bool} {z : Int} (h : zBe i far can z) (hc : can i = true) (hz : z = -1) : zBe (i + 1) far can i := by
  rcases h with ⟨h1, h2⟩ | ⟨p0, h1, h2, h3, h4, h5⟩
  · refine Or.inr ⟨i, rfl, by omega, hc, fun p hp hcp => ?_, fun p hp hcp => ?_⟩
    · by_cases e : p = i
      · subst e; exact Int.le_refl _
      · rw [h2 p (by omega)] at hcp; exact absurd hcp (by decide)
    · rw [h2 p hp] at hcp; exact absurd hcp (by decide)
  · omega
theorem zBe_2 {i p0 : Nat} {far : Nat → Int} {can : Nat → Bool} (h : zBe i far can p0) (hc : can i = true) : zBe (i + 1) far can (if far i < far p0 then (i : Int) else p0) := by
  rcases h with ⟨h1, h2⟩ | ⟨p1, h1, h2, h3, h4, h5⟩
  · omega
  · have : p1 = p0 := by omega
    subst this
    by_cases hl : far i < far p1
    · rw [if_pos hl]
      refine Or.inr ⟨i, rfl, by omega, hc, fun p hp hcp => ?_, fun p hp hcp => ?_⟩
      · by_cases e : p = i
        · subst e; exact Int.le_refl _
        · have := h4 p (by omega) hcp; omega
      · have := h4 p (by omega) hcp; omega
    · rw [if_neg hl]
      refine Or.inr ⟨p1, rfl, by omega, h3, fun p hp hcp => ?_, h5⟩
      by_cases e : p = i
      · subst e; omega
      · exact h4 p (by omega) hcp
theorem zBe_ne {N s : Nat} {adj : Nat → Nat → Bool} {op g can : Nat → Bool} {z : Int} (hs : s < N) (hN : N ≤ 13) (hcan : ∀ p, p < N → can p = (!decide (zDi N adj op s p = -1) && g p)) (h : zBe N (zDi N adj op s) can z) : zNe N (zLa N adj op s) g 13 = z := by
  have hd := fun p hp => zDi_s (adj := adj) (op := op) (p := p) hs hN hp
  rcases h with ⟨h1, h2⟩ | ⟨p0, h1, h2, h3, h4, h5⟩
  · rw [h1]
    refine zNe_n (fun k p hk hp hl => ?_)
    have := h2 p hp
    rw [hcan p hp] at this
    rcases hd p hp with ⟨_, q2⟩ | ⟨k2, q1, _⟩
    · rw [q2 k] at hl; exact absurd hl (by decide)
    · rw [show decide (zDi N adj op s p = -1) = false by simp; omega] at this
      simpa using this
  · rw [h1]
    have h6 := h3
    rw [hcan p0 h2, Bool.and_eq_true] at h6
    rcases hd p0 h2 with ⟨q1, _⟩ | ⟨k0, q1, q2, q3⟩
    · rw [q1] at h6; exact absurd h6.1 (by decide)
    · have far : ∀ j p, p < N → zLa N adj op s j p = true → zDi N adj op s p = j := by
        intro j p hp hl
        rcases hd p hp with ⟨_, r2⟩ | ⟨k2, r1, _, r3⟩
        · rw [r2 j] at hl; exact absurd hl (by decide)
        · rw [r1, zLa_u hl r3]
      refine zNe_u q2 h2 q3 h6.2 (fun j q hj hq hl => ?_) (fun q hq hl => ?_)
      · cases hg : g q with
        | false => rfl
        | true =>
          have e := far j q hq hl
          have := h4 q hq (by rw [hcan q hq, e, hg]; simp)
          omega
      · cases hg : g q with
        | false => rfl
        | true =>
          have e := far k0 q (by omega) hl
          have := h5 q hq (by rw [hcan q (by omega), e, hg]; simp)
          omega
end
