/-! walking, purely: steps, who stands where, what is gone -/
def zAd (n : Nat) (lev : Nat → Int) (up dn : Int) (q p : Nat) : Bool := decide (p ≤ n) && !decide (p = q) && decide (lev p - lev q ≤ up) && decide (lev q - lev p ≤ dn)
def zGr (n : Nat) (lev : Nat → Int) (up : Int) (b p : Nat) : Bool := decide (p ≤ n) && !decide (p = b) && decide (lev p - lev b ≤ up) && decide (lev b - lev p ≤ up)
def zCa (n : Nat) (c : Nat → Bool) (k : Nat) : Bool := decide (k = 0) || (decide (k ≤ n) && c (k - 1))
def zIn (n : Nat) (g : Nat → Bool) (k : Nat) : Bool := decide (k = 0) || (decide (k ≤ n) && !g (k - 1))
def zOp (n : Nat) (c g : Nat → Bool) (k : Nat) : Bool := zCa n c k && zIn n g k
theorem zOp_hi {n : Nat} {c g : Nat → Bool} {k : Nat} (h : n < k) : zOp n c g k = false := by
  unfold zOp zCa
  rw [show decide (k = 0) = false by simp; omega, show decide (k ≤ n) = false by simp; omega]
  rfl
theorem zAd_hi {n : Nat} {lev : Nat → Int} {up dn : Int} {q p : Nat} (h : n < p) : zAd n lev up dn q p = false := by
  unfold zAd
  rw [show decide (p ≤ n) = false by simp; omega]
  rfl
def zUw (w : Nat → Nat) (r p : Nat) : Nat → Nat := fun q => if q = r then p else w q
def zUg (g : Nat → Bool) (t : Nat) : Nat → Bool := fun k => decide (k = t) || g k
section
variable (n R : Nat) (lev : Nat → Int) (str : Nat → Int) (dr : Int) (car : Nat → Nat → Bool)
/-- where the reader r takes the book of t, or -1 -/
def zSv (w : Nat → Nat) (g : Nat → Bool) (r t : Nat) : Int :=
  if g t = true ∨ zAny R (fun q => decide (w q = t + 1)) = true then -1 else
    zNe (n + 1) (zLa (n + 1) (zAd n lev (str r) (str r + dr)) (zOp n (car r) g) (w r)) (zGr n lev (str r) (t + 1)) 13
/-- whether the reader r can't come to the ground -/
def zSd (w : Nat → Nat) (g : Nat → Bool) (r : Nat) : Bool :=
  !decide (w r = 0) && decide (zNe (n + 1) (zLa (n + 1) (zAd n lev (str r) (str r + dr)) (zOp n (car r) g) (w r)) (fun k => decide (k = 0)) 13 = -1)
end
/-- one asking -/
def zWs (sv : (Nat → Nat) → (Nat → Bool) → Nat → Nat → Int) (S : (Nat → Nat) × (Nat → Bool)) (r t : Nat) : (Nat → Nat) × (Nat → Bool) :=
  if sv S.1 S.2 r t = -1 then S else (zUw S.1 r (sv S.1 S.2 r t).toNat, zUg S.2 t)
/-- askings in a row -/
def zPl (sv : (Nat → Nat) → (Nat → Bool) → Nat → Nat → Int) (rq tq : Nat → Nat) (S : (Nat → Nat) × (Nat → Bool)) : Nat → (Nat → Nat) × (Nat → Bool)
  | 0 => S
  | a + 1 => zWs sv (zPl sv rq tq S a) (rq a) (tq a)
def zPb (sv : (Nat → Nat) → (Nat → Bool) → Nat → Nat → Int) (rq tq : Nat → Nat) (S : (Nat → Nat) × (Nat → Bool)) (a : Nat) : Bool :=
  !decide (sv (zPl sv rq tq S a).1 (zPl sv rq tq S a).2 (rq a) (tq a) = -1)
theorem zNe_lt {N m : Nat} {la : Nat → Nat → Bool} {g : Nat → Bool} (h : ¬ zNe N la g m = -1) : ∃ p : Nat, zNe N la g m = p ∧ p < N := by
  rcases zNe_s (N := N) (la := la) (g := g) m with ⟨h1, _⟩ | ⟨k, p, h1, _, h3, _⟩
  · exact absurd h1 h
  · exact ⟨p, h1, h3⟩
theorem zSv_lt {n R : Nat} {lev str : Nat → Int} {dr : Int} {car : Nat → Nat → Bool} {w : Nat → Nat} {g : Nat → Bool} {r t : Nat} (h : ¬ zSv n R lev str dr car w g r t = -1) : ∃ p : Nat, zSv n R lev str dr car w g r t = p ∧ p ≤ n := by
  unfold zSv at h ⊢
  split at h
  · exact absurd rfl h
  · rename_i hc
    rw [if_neg hc]
    obtain ⟨p, h1, h2⟩ := zNe_lt h
    exact ⟨p, h1, by omega⟩
/-- levels of places -/
def zLv (th : Nat → Int) (π : Nat → Nat) : Nat → Int
  | 0 => 0
  | p + 1 => zLv th π p + th (π p)
theorem zLv_b {th : Nat → Int} {π : Nat → Nat} {n : Nat} (h : ∀ t, t < n → 1 ≤ th (π t) ∧ th (π t) ≤ 9) : ∀ p, p ≤ n → 0 ≤ zLv th π p ∧ zLv th π p ≤ 9 * p
  | 0, _ => ⟨Int.le_refl 0, Int.le_refl 0⟩
  | p + 1, hp => by
    have h1 := zLv_b h p (by omega)
    have h2 := h p (by omega)
    unfold zLv
    omega
/-- what holds of the scene, for the readers of A -/
def zSC (V : z_M) (n R : Nat) (lev str : Nat → Int) (dr : Int) (car : Nat → Nat → Bool) (A : Nat → Bool) : Prop :=
  V 97 8 = (n : Int) ∧ V 97 9 = (R : Int) ∧ (∀ p, p ≤ n → V 98 p = lev p) ∧
  ∀ r, r < R → A r = true → zBS (V 99 r) (zCa n (car r)) ∧ ∀ q, q ≤ n → zBS (V (101 + r) q) (zAd n lev (str r) (str r + dr) q) ∧ zBS (V (108 + r) q) (zGr n lev (str r) q)
/-- who stands where, what is in -/
def zDY (V : z_M) (n : Nat) (w : Nat → Nat) (g : Nat → Bool) : Prop := zBS (V 97 7) (zIn n g) ∧ ∀ r, r < 6 → V 115 r = (w r : Int) ∧ w r ≤ n
theorem zSC_up {V W : z_M} {n R : Nat} {lev str : Nat → Int} {dr : Int} {car : Nat → Nat → Bool} {A : Nat → Bool} (hR : R ≤ 6) (h : zSC V n R lev str dr car A) (h8 : W 97 8 = V 97 8) (h9 : W 97 9 = V 97 9) (h0 : ∀ a, 98 ≤ a → a ≤ 113 → W a = V a) : zSC W n R lev str dr car A := by
  obtain ⟨a, b, c, e⟩ := h
  refine ⟨by rw [h8, a], by rw [h9, b], fun p hp => by rw [h0 98 (by omega) (by omega)]; exact c p hp, fun r hr hA => ?_⟩
  have e2 := e r hr hA
  rw [h0 99 (by omega) (by omega), h0 (101 + r) (by omega) (by omega), h0 (108 + r) (by omega) (by omega)]
  exact e2
