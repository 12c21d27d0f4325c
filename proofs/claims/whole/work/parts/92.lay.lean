/-! the class: treads laid in a new order -/
section
variable {d : Nat} {Q : Int → z_M → Prop}
theorem sp88_124 {V : z_M} {n k : Nat} {σ : Nat → Nat} {a : Int} (h7 : V 37 7 = (n : Int)) (hn : n ≤ 7) (hs : ∀ t, t < n → V 124 t = (σ t : Int)) (hk : k < n) (he : (σ k : Int) = a) (hf : ∀ j, j < k → ¬ (σ j : Int) = a) (h : Q (k : Int) V) : z_MS (d + 1) 88 true [.inr (.inr 37), .inr (.inr 124), .inl a] V Q := by
  have lp : ∀ (m j : Nat), j + m = k → z_Ex (z_MS d) 88 Q true 2 [some (.inr (.inr 37)), some (.inr (.inr 124)), some (.inl a), some (.inl (j : Int))] [] 0 0 V := by
    intro m
    induction m with
    | zero =>
      intro j e
      have e2 : j = k := by omega
      subst e2
      refine zb88_37_124_p2 _ _ (z_ifp (by omega) (z_ifp (by omega) (z_gp (by omega) (z_all ?_))))
      rw [Int.toNat_natCast, hs j hk]
      exact z_ifp he h
    | succ m ih =>
      intro j e
      refine zb88_37_124_p2 _ _ (z_ifp (by omega) (z_ifp (by omega) (z_gp (by omega) (z_all ?_))))
      rw [Int.toNat_natCast, hs j (by omega), z_inc (by omega)]
      exact z_ifn (hf j (by omega)) (ih (j + 1) (by omega))
  exact zb88_37_124 _ (lp k 0 (by omega))
theorem sp87_124 {V : z_M} {n m : Nat} {σ τ T : Nat → Nat} (h7 : V 37 7 = (n : Int)) (hn : n ≤ 7) (h11 : V 37 11 = (m : Int)) (hm : m ≤ 7) (hs : ∀ t, t < n → V 124 t = (σ t : Int)) (hp : zPm2 n σ τ) (hT : ∀ a, a < m → V 50 a = (T a : Int) ∧ T a < n)
    (h : ∀ W, (∀ x, ¬ (39 ≤ x ∧ x ≤ 42) → ¬ x = 50 → ¬ x = 52 → W x = V x) → (∀ w t, w < 4 → t < n → W (39 + w) t = V (39 + w) (σ t)) → (∀ a, a < m → W 50 a = (τ (T a) : Int)) → Q 0 W) : z_MS (d + 3) 87 true [.inr (.inr 37), .inr (.inr 124)] V Q := by
  have lpA : ∀ (W : z_M), (∀ x, ¬ (39 ≤ x ∧ x ≤ 42) → ¬ x = 52 → W x = V x) → (∀ w t, w < 4 → t < n → W (39 + w) t = V (39 + w) (σ t)) → ∀ (k a : Nat) (X : z_M) (o3 : Option z_V), a + k = m → (∀ x, ¬ x = 50 → X x = W x) → (∀ b, b < m → X 50 b = if b < a then (τ (T b) : Int) else (T b : Int)) → z_Ex (z_MS (d + 2)) 87 Q true 86 [some (.inr (.inr 37)), some (.inr (.inr 124)), some (.inl (a : Int)), o3] [] 0 0 X := by
    intro W w1 w2 k
    induction k with
    | zero =>
      intro a X o3 e x1 x2
      have e2 : a = m := by omega
      subst e2
      refine zb87_37_124_p86 _ _ (z_ifn (by rw [x1 37 (by decide), w1 37 (by omega) (by decide)]; omega) (h X (fun x p q r => by rw [x1 x q, w1 x p r]) (fun w t hw ht => by rw [x1 _ (by omega)]; exact w2 w t hw ht) (fun b hb => by rw [x2 b hb, if_pos hb])))
    | succ k ih =>
      intro a X o3 e x1 x2
      have hTa := (hT a (by omega)).2
      have pa := hp (T a) hTa
      refine zb87_37_124_p86 _ _ (z_ifp (by rw [x1 37 (by decide), w1 37 (by omega) (by decide)]; omega) (z_gp (by omega) (z_all ?_)))
      rw [Int.toNat_natCast, x2 a (by omega), if_neg (by omega), z_inc (by omega)]
      refine sp88_124 (d := d + 1) (n := n) (k := τ (T a)) (σ := σ) (by rw [x1 37 (by decide), w1 37 (by omega) (by decide)]; exact h7) hn (fun t ht => by rw [x1 124 (by decide), w1 124 (by omega) (by decide)]; exact hs t ht) pa.2.1 (by rw [pa.2.2.2]) (fun j hj q => ?_) (z_gp (by omega) (z_all (ih (a + 1) _ _ (by omega) (fun x hx => by rw [z_up_cell hx]; exact x1 x hx) (fun b hb => ?_))))
      · have hj2 := hp j (by omega)
        have e3 : σ j = T a := by omega
        rw [e3] at hj2
        omega
      · by_cases c : b = a
        · subst c
          rw [zUp_s, if_pos (by omega)]
        · rw [zUp_o (by omega), x2 b hb]
          by_cases c2 : b < a
          · rw [if_pos c2, if_pos (by omega)]
          · rw [if_neg c2, if_neg (by omega)]
  have lpR : ∀ (k r : Nat) (W : z_M) (o3 : Option z_V), r + k = 4 → (∀ x, ¬ (39 ≤ x ∧ x ≤ 42) → ¬ x = 52 → W x = V x) → (∀ w t, w < r → t < n → W (39 + w) t = V (39 + w) (σ t)) → (∀ w, r ≤ w → w < 4 → W (39 + w) = V (39 + w)) → z_Ex (z_MS (d + 2)) 87 Q true 12 [some (.inr (.inr 37)), some (.inr (.inr 124)), some (.inl (r : Int)), o3] [] 0 0 W := by
    intro k
    induction k with
    | zero =>
      intro r W o3 e w1 w2 w3
      refine zb87_37_124_p12 _ _ (z_ifp (by omega) (lpA W w1 (fun w t hw ht => w2 w t (by omega) ht) m 0 W o3 (by omega) (fun _ _ => rfl) (fun b hb => ?_)))
      rw [if_neg (by omega), w1 50 (by omega) (by decide)]
      exact (hT b hb).1
    | succ k ih =>
      intro r W o3 e w1 w2 w3
      have e7 : W 37 7 = (n : Int) := by rw [w1 37 (by omega) (by decide)]; exact h7
      have kr := zrk_38 (V := W) (i := r) (by omega)
      refine zb87_37_124_p12 _ _ (z_ifn (by omega) (z_gp (by omega) (z_all ?_)))
      rw [Int.toNat_natCast, kr.1]
      refine z_gp ⟨kr.2.1, by decide, by decide, by decide⟩ ?_
      rw [kr.2.2.2, e7]
      refine z_gp (by omega) (z_all ?_)
      rw [Int.toNat_natCast]
      have inner : ∀ (k2 j : Nat) (X : z_M), j + k2 = n → (∀ x, ¬ x = 39 + r → ¬ x = 52 → X x = W x) → (∀ t, t < n → X 52 t = V (39 + r) t) → (∀ t, t < n → X (39 + r) t = if t < j then V (39 + r) (σ t) else V (39 + r) t) → z_Ex (z_MS (d + 2)) 87 Q true 38 [some (.inr (.inr 37)), some (.inr (.inr 124)), some (.inl (r : Int)), some (.inl (j : Int))] [] 0 0 X := by
        intro k2
        induction k2 with
        | zero =>
          intro j X e2 x1 x2 x3
          have e3 : j = n := by omega
          subst e3
          refine zb87_37_124_p38 _ _ (z_ifn (by rw [x1 37 (by omega) (by decide)]; omega) ?_)
          rw [z_inc (by omega)]
          refine ih (r + 1) X _ (by omega) (fun x p q => by rw [x1 x (by omega) q]; exact w1 x p q) (fun w t hw ht => ?_) (fun w p q => by rw [x1 _ (by omega) (by omega)]; exact w3 w (by omega) q)
          by_cases c : w = r
          · subst c
            rw [x3 t ht, if_pos ht]
          · rw [x1 _ (by omega) (by omega)]
            exact w2 w t (by omega) ht
        | succ k2 ih2 =>
          intro j X e2 x1 x2 x3
          have xs : X 124 j = (σ j : Int) := by rw [x1 124 (by omega) (by decide), w1 124 (by omega) (by decide)]; exact hs j (by omega)
          have x7 : X 37 7 = (n : Int) := by rw [x1 37 (by omega) (by decide)]; exact e7
          have kx := zrk_38 (V := X) (i := r) (by omega)
          have pj := hp j (by omega)
          refine zb87_37_124_p38 _ _ (z_ifp (by omega) (z_gp (by omega) (z_all ?_)))
          rw [Int.toNat_natCast, xs, z_inc (i := j) (by omega)]
          refine sp75 (d := d) (by omega) (fun _ => z_ifn (by decide) (z_gp (by omega) (z_all ?_))) (fun q => absurd (by omega) q)
          rw [Int.toNat_natCast, kx.1]
          refine z_gp (by omega) (z_all ?_)
          rw [xs]
          refine z_gp (by omega) (z_all ?_)
          rw [Int.toNat_natCast, x2 (σ j) pj.1]
          refine z_gp ⟨kx.2.1, kx.2.2.1⟩ ?_
          rw [kx.2.2.2]
          refine z_gp (by omega) (z_all (ih2 (j + 1) _ (by omega) (fun x p q => by rw [z_up_cell (by omega)]; exact x1 x p q) (fun t ht => by rw [z_up_cell (by omega)]; exact x2 t ht) (fun t ht => ?_)))
          by_cases c : t = j
          · subst c
            rw [show 38 + 1 + r = 39 + r by omega, zUp_s, if_pos (by omega)]
          · rw [zUp_o (by omega), x3 t ht]
            by_cases c2 : t < j
            · rw [if_pos c2, if_pos (by omega)]
            · rw [if_neg c2, if_neg (by omega)]
      refine inner n 0 _ (by omega) (fun x p q => by rw [z_cpy_cell q]) (fun t ht => ?_) (fun t ht => ?_)
      · rw [z_cpy_rd, if_pos rfl, if_pos ⟨by omega, by omega⟩, show 0 + (t - 0) = t by omega, show 38 + 1 + r = 39 + r by omega, w3 r (Nat.le_refl r) (by omega)]
      · rw [if_neg (by omega), z_cpy_cell (by omega), w3 r (Nat.le_refl r) (by omega)]
  exact zb87_37_124 (z_ifn (by omega) (lpR 4 0 V none (by omega) (fun _ _ _ => rfl) (fun w t hw => absurd hw (Nat.not_lt_zero w)) (fun _ _ _ => rfl)))
theorem sp88_139 {V : z_M} {n k : Nat} {σ : Nat → Nat} {a : Int} (h7 : V 37 7 = (n : Int)) (hn : n ≤ 12) (hs : ∀ t, t < n → V 139 t = (σ t : Int)) (hk : k < n) (he : (σ k : Int) = a) (hf : ∀ j, j < k → ¬ (σ j : Int) = a) (h : Q (k : Int) V) : z_MS (d + 1) 88 true [.inr (.inr 37), .inr (.inr 139), .inl a] V Q := by
  have lp : ∀ (m j : Nat), j + m = k → z_Ex (z_MS d) 88 Q true 2 [some (.inr (.inr 37)), some (.inr (.inr 139)), some (.inl a), some (.inl (j : Int))] [] 0 0 V := by
    intro m
    induction m with
    | zero =>
      intro j e
      have e2 : j = k := by omega
      subst e2
      refine zb88_37_139_p2 _ _ (z_ifp (by omega) (z_ifp (by omega) (z_gp (by omega) (z_all ?_))))
      rw [Int.toNat_natCast, hs j hk]
      exact z_ifp he h
    | succ m ih =>
      intro j e
      refine zb88_37_139_p2 _ _ (z_ifp (by omega) (z_ifp (by omega) (z_gp (by omega) (z_all ?_))))
      rw [Int.toNat_natCast, hs j (by omega), z_inc (by omega)]
      exact z_ifn (hf j (by omega)) (ih (j + 1) (by omega))
  exact zb88_37_139 _ (lp k 0 (by omega))
theorem sp87_139 {V : z_M} {n m : Nat} {σ τ T : Nat → Nat} (h7 : V 37 7 = (n : Int)) (hn : n ≤ 12) (h11 : V 37 11 = (m : Int)) (hm : m ≤ 7) (hs : ∀ t, t < n → V 139 t = (σ t : Int)) (hp : zPm2 n σ τ) (hT : ∀ a, a < m → V 50 a = (T a : Int) ∧ T a < n)
    (h : ∀ W, (∀ x, ¬ (39 ≤ x ∧ x ≤ 42) → ¬ x = 50 → ¬ x = 52 → W x = V x) → (∀ w t, w < 4 → t < n → W (39 + w) t = V (39 + w) (σ t)) → (∀ a, a < m → W 50 a = (τ (T a) : Int)) → Q 0 W) : z_MS (d + 3) 87 true [.inr (.inr 37), .inr (.inr 139)] V Q := by
  have lpA : ∀ (W : z_M), (∀ x, ¬ (39 ≤ x ∧ x ≤ 42) → ¬ x = 52 → W x = V x) → (∀ w t, w < 4 → t < n → W (39 + w) t = V (39 + w) (σ t)) → ∀ (k a : Nat) (X : z_M) (o3 : Option z_V), a + k = m → (∀ x, ¬ x = 50 → X x = W x) → (∀ b, b < m → X 50 b = if b < a then (τ (T b) : Int) else (T b : Int)) → z_Ex (z_MS (d + 2)) 87 Q true 86 [some (.inr (.inr 37)), some (.inr (.inr 139)), some (.inl (a : Int)), o3] [] 0 0 X := by
    intro W w1 w2 k
    induction k with
    | zero =>
      intro a X o3 e x1 x2
      have e2 : a = m := by omega
      subst e2
      refine zb87_37_139_p86 _ _ (z_ifn (by rw [x1 37 (by decide), w1 37 (by omega) (by decide)]; omega) (h X (fun x p q r => by rw [x1 x q, w1 x p r]) (fun w t hw ht => by rw [x1 _ (by omega)]; exact w2 w t hw ht) (fun b hb => by rw [x2 b hb, if_pos hb])))
    | succ k ih =>
      intro a X o3 e x1 x2
      have hTa := (hT a (by omega)).2
      have pa := hp (T a) hTa
      refine zb87_37_139_p86 _ _ (z_ifp (by rw [x1 37 (by decide), w1 37 (by omega) (by decide)]; omega) (z_gp (by omega) (z_all ?_)))
      rw [Int.toNat_natCast, x2 a (by omega), if_neg (by omega), z_inc (by omega)]
      refine sp88_139 (d := d + 1) (n := n) (k := τ (T a)) (σ := σ) (by rw [x1 37 (by decide), w1 37 (by omega) (by decide)]; exact h7) hn (fun t ht => by rw [x1 139 (by decide), w1 139 (by omega) (by decide)]; exact hs t ht) pa.2.1 (by rw [pa.2.2.2]) (fun j hj q => ?_) (z_gp (by omega) (z_all (ih (a + 1) _ _ (by omega) (fun x hx => by rw [z_up_cell hx]; exact x1 x hx) (fun b hb => ?_))))
      · have hj2 := hp j (by omega)
        have e3 : σ j = T a := by omega
        rw [e3] at hj2
        omega
      · by_cases c : b = a
        · subst c
          rw [zUp_s, if_pos (by omega)]
        · rw [zUp_o (by omega), x2 b hb]
          by_cases c2 : b < a
          · rw [if_pos c2, if_pos (by omega)]
          · rw [if_neg c2, if_neg (by omega)]
  have lpR : ∀ (k r : Nat) (W : z_M) (o3 : Option z_V), r + k = 4 → (∀ x, ¬ (39 ≤ x ∧ x ≤ 42) → ¬ x = 52 → W x = V x) → (∀ w t, w < r → t < n → W (39 + w) t = V (39 + w) (σ t)) → (∀ w, r ≤ w → w < 4 → W (39 + w) = V (39 + w)) → z_Ex (z_MS (d + 2)) 87 Q true 12 [some (.inr (.inr 37)), some (.inr (.inr 139)), some (.inl (r : Int)), o3] [] 0 0 W := by
    intro k
    induction k with
    | zero =>
      intro r W o3 e w1 w2 w3
      refine zb87_37_139_p12 _ _ (z_ifp (by omega) (lpA W w1 (fun w t hw ht => w2 w t (by omega) ht) m 0 W o3 (by omega) (fun _ _ => rfl) (fun b hb => ?_)))
      rw [if_neg (by omega), w1 50 (by omega) (by decide)]
      exact (hT b hb).1
    | succ k ih =>
      intro r W o3 e w1 w2 w3
      have e7 : W 37 7 = (n : Int) := by rw [w1 37 (by omega) (by decide)]; exact h7
      have kr := zrk_38 (V := W) (i := r) (by omega)
      refine zb87_37_139_p12 _ _ (z_ifn (by omega) (z_gp (by omega) (z_all ?_)))
      rw [Int.toNat_natCast, kr.1]
      refine z_gp ⟨kr.2.1, by decide, by decide, by decide⟩ ?_
      rw [kr.2.2.2, e7]
      refine z_gp (by omega) (z_all ?_)
      rw [Int.toNat_natCast]
      have inner : ∀ (k2 j : Nat) (X : z_M), j + k2 = n → (∀ x, ¬ x = 39 + r → ¬ x = 52 → X x = W x) → (∀ t, t < n → X 52 t = V (39 + r) t) → (∀ t, t < n → X (39 + r) t = if t < j then V (39 + r) (σ t) else V (39 + r) t) → z_Ex (z_MS (d + 2)) 87 Q true 38 [some (.inr (.inr 37)), some (.inr (.inr 139)), some (.inl (r : Int)), some (.inl (j : Int))] [] 0 0 X := by
        intro k2
        induction k2 with
        | zero =>
          intro j X e2 x1 x2 x3
          have e3 : j = n := by omega
          subst e3
          refine zb87_37_139_p38 _ _ (z_ifn (by rw [x1 37 (by omega) (by decide)]; omega) ?_)
          rw [z_inc (by omega)]
          refine ih (r + 1) X _ (by omega) (fun x p q => by rw [x1 x (by omega) q]; exact w1 x p q) (fun w t hw ht => ?_) (fun w p q => by rw [x1 _ (by omega) (by omega)]; exact w3 w (by omega) q)
          by_cases c : w = r
          · subst c
            rw [x3 t ht, if_pos ht]
          · rw [x1 _ (by omega) (by omega)]
            exact w2 w t (by omega) ht
        | succ k2 ih2 =>
          intro j X e2 x1 x2 x3
          have xs : X 139 j = (σ j : Int) := by rw [x1 139 (by omega) (by decide), w1 139 (by omega) (by decide)]; exact hs j (by omega)
          have x7 : X 37 7 = (n : Int) := by rw [x1 37 (by omega) (by decide)]; exact e7
          have kx := zrk_38 (V := X) (i := r) (by omega)
          have pj := hp j (by omega)
          refine zb87_37_139_p38 _ _ (z_ifp (by omega) (z_gp (by omega) (z_all ?_)))
          rw [Int.toNat_natCast, xs, z_inc (i := j) (by omega)]
          refine sp75 (d := d) (by omega) (fun _ => z_ifn (by decide) (z_gp (by omega) (z_all ?_))) (fun q => absurd (by omega) q)
          rw [Int.toNat_natCast, kx.1]
          refine z_gp (by omega) (z_all ?_)
          rw [xs]
          refine z_gp (by omega) (z_all ?_)
          rw [Int.toNat_natCast, x2 (σ j) pj.1]
          refine z_gp ⟨kx.2.1, kx.2.2.1⟩ ?_
          rw [kx.2.2.2]
          refine z_gp (by omega) (z_all (ih2 (j + 1) _ (by omega) (fun x p q => by rw [z_up_cell (by omega)]; exact x1 x p q) (fun t ht => by rw [z_up_cell (by omega)]; exact x2 t ht) (fun t ht => ?_)))
          by_cases c : t = j
          · subst c
            rw [show 38 + 1 + r = 39 + r by omega, zUp_s, if_pos (by omega)]
          · rw [zUp_o (by omega), x3 t ht]
            by_cases c2 : t < j
            · rw [if_pos c2, if_pos (by omega)]
            · rw [if_neg c2, if_neg (by omega)]
      refine inner n 0 _ (by omega) (fun x p q => by rw [z_cpy_cell q]) (fun t ht => ?_) (fun t ht => ?_)
      · rw [z_cpy_rd, if_pos rfl, if_pos ⟨by omega, by omega⟩, show 0 + (t - 0) = t by omega, show 38 + 1 + r = 39 + r by omega, w3 r (Nat.le_refl r) (by omega)]
      · rw [if_neg (by omega), z_cpy_cell (by omega), w3 r (Nat.le_refl r) (by omega)]
  exact zb87_37_139 (z_ifn (by omega) (lpR 4 0 V none (by omega) (fun _ _ _ => rfl) (fun w t hw => absurd hw (Nat.not_lt_zero w)) (fun _ _ _ => rfl)))
end
/-- what is told after treads are laid in a new order -/
theorem zT_re {b : Nat} {ρ ρ' : Nat → Int} {V W : z_M} {Λ : Nat → (Nat → Int) → Int} {n m : Nat} {σ τ : Nat → Nat} (h : zT b ρ V Λ) (hn : ρ 0 = (n : Int)) (hm : ρ 4 = (m : Int)) (hp : zPm2 n σ τ) (hw : ∀ x, ¬ (b + 2 ≤ x ∧ x ≤ b + 5) → ¬ x = b + 13 → (x = 0 ∨ (b ≤ x ∧ x ≤ b + 14) ∨ 169 ≤ x) → W x = V x)
    (hb : b + 14 < 169) (w1 : ∀ w t, w < 4 → t < n → W (b + 2 + w) t = V (b + 2 + w) (σ t)) (w2 : ∀ a, a < m → W (b + 13) a = (τ (zAk ρ a) : Int))
    (r0 : ∀ k, (k < 8 ∨ (56 ≤ k ∧ k < 68) ∨ 82 ≤ k) → ρ' k = ρ k) (r1 : ∀ w t, w < 4 → t < n → ρ' (8 + 4 * t + w) = ρ (8 + 4 * σ t + w)) (r2 : ∀ a, a < m → ρ' (68 + 2 * a) = ρ (68 + 2 * a) ∧ ρ' (69 + 2 * a) = (τ (zAk ρ a) : Int)) : zT b ρ' W Λ := by
  have a0 := zT_0 h
  have a1 := zT_1 h
  have a3 := zT_3 h
  have a4 := zT_4 h
  have a5 := zT_5 h
  have a6 := zT_6 h
  have a7 := zT_7 h
  have wb := hw b (by omega) (by omega) (by omega)
  have w9 := hw (b + 9) (by omega) (by omega) (by omega)
  refine zT_mk h (fun k hk => r0 k (by omega)) (r0 2 (by omega)) (hw 0 (by omega) (by omega) (by omega)) (by rw [wb]) (hw (b + 10) (by omega) (by omega) (by omega)) (fun a ha => hw a (by omega) (by omega) (by omega)) (by rw [wb, r0 0 (by omega)]; exact a0) (by rw [wb, r0 1 (by omega)]; exact a1) (by rw [wb, r0 3 (by omega), r0 2 (by omega)]; exact a3) (by rw [wb, r0 4 (by omega)]; exact a4) (by rw [wb, r0 5 (by omega)]; exact a5) (by rw [w9, r0 6 (by omega)]; exact a6) (by rw [w9, r0 7 (by omega)]; exact a7) (fun t ht => ?_)
    (zT_cr h (r0 1 (by omega)) (fun k p q => r0 k (by omega)) (fun x p q => hw x (by omega) (by omega) (by omega))) (fun a ha => ?_) (zT_co h (r0 5 (by omega)) (fun k p q => r0 k (by omega)) (hw (b + 14) (by omega) (by omega) (by omega)))
  · rw [r0 0 (by omega), hn] at ht
    have ht : t < n := by omega
    have ps := zT_t h (t := σ t) (by have := (hp t ht).1; omega)
    have q0 := r1 0 t (by decide) ht
    have q1 := r1 1 t (by decide) ht
    have q2 := r1 2 t (by decide) ht
    have q3 := r1 3 t (by decide) ht
    rw [show 8 + 4 * t + 0 = 8 + 4 * t by omega, show 8 + 4 * σ t + 0 = 8 + 4 * σ t by omega] at q0
    rw [show 8 + 4 * t + 1 = 9 + 4 * t by omega, show 8 + 4 * σ t + 1 = 9 + 4 * σ t by omega] at q1
    rw [show 8 + 4 * t + 2 = 10 + 4 * t by omega, show 8 + 4 * σ t + 2 = 10 + 4 * σ t by omega] at q2
    rw [show 8 + 4 * t + 3 = 11 + 4 * t by omega, show 8 + 4 * σ t + 3 = 11 + 4 * σ t by omega] at q3
    rw [show W (b + 2) t = V (b + 2) (σ t) from w1 0 t (by decide) ht, show W (b + 3) t = V (b + 3) (σ t) from w1 1 t (by decide) ht, show W (b + 4) t = V (b + 4) (σ t) from w1 2 t (by decide) ht, show W (b + 5) t = V (b + 5) (σ t) from w1 3 t (by decide) ht, q0, q1, q2, q3]
    exact ps
  · rw [r0 4 (by omega), hm] at ha
    have ha : a < m := by omega
    have pa := zT_a h (a := a) (by omega)
    have pk := zAk_lt h hn hm ha
    have pt := (hp (zAk ρ a) pk.1).2.1
    rw [hw (b + 12) (by omega) (by omega) (by omega), w2 a ha, (r2 a ha).1, (r2 a ha).2, r0 0 (by omega), r0 1 (by omega)]
    exact ⟨pa.1, rfl, pa.2.2.1, pa.2.2.2.1, by omega, by omega⟩
