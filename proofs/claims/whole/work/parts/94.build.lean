/-! build: the stair that serves most is laid -/
section
variable {d : Nat} {Q : Int → z_M → Prop}
theorem lp236 {Y : z_M} {ρ : Nat → Int} {n m : Nat} {σ τ T : Nat → Nat} (hn6 : n ≤ 6) (hm7 : m ≤ 7) (h143 : Y 143 = ρ) (hn : ρ 0 = (n : Int)) (hm : ρ 4 = (m : Int)) (hp : zPm2 n σ τ) (h164 : ∀ t, t < n → Y 164 t = (σ t : Int)) (hT : ∀ a, a < m → ρ (69 + 2 * a) = (T a : Int) ∧ T a < n)
    (h : ∀ X, (∀ x, ¬ x = 143 → ¬ x = 165 → X x = Y x) → (∀ k, (k < 8 ∨ (56 ≤ k ∧ k < 68) ∨ 82 ≤ k) → X 143 k = ρ k) → (∀ w t, w < 4 → t < n → X 143 (8 + 4 * t + w) = ρ (8 + 4 * σ t + w)) → (∀ a, a < m → X 143 (68 + 2 * a) = ρ (68 + 2 * a) ∧ X 143 (69 + 2 * a) = (τ (T a) : Int)) → Q (zCt n (fun t => !decide (σ t = t)) : Int) (z_up X 141 1 0)) : z_Ex (z_MS (d + 2)) 236 Q true 29 [some (.inr (.inr 141)), some (.inl 0), some (.inl 0), none, none] [] 0 0 Y := by
  have lpA : ∀ (k l : Nat) (X : z_M) (o3 o4 : Option z_V), l + k = m → (∀ x, ¬ x = 143 → ¬ x = 165 → X x = Y x) → (∀ k, (k < 8 ∨ (56 ≤ k ∧ k < 68) ∨ 82 ≤ k) → X 143 k = ρ k) → (∀ w t, w < 4 → t < n → X 143 (8 + 4 * t + w) = ρ (8 + 4 * σ t + w)) → (∀ a, a < m → X 143 (68 + 2 * a) = ρ (68 + 2 * a) ∧ X 143 (69 + 2 * a) = if a < l then (τ (T a) : Int) else (T a : Int)) → z_Ex (z_MS (d + 2)) 236 Q true 133 [some (.inr (.inr 141)), some (.inl (zCt n (fun t => !decide (σ t = t)) : Int)), some (.inl (l : Int)), o3, o4] [] 0 0 X := by
    intro k
    induction k with
    | zero =>
      intro l X o3 o4 e x1 x2 x3 x4
      have e2 : l = m := by omega
      subst e2
      refine zb236_141_p133 _ _ _ _ (z_ifn (by rw [x2 4 (by omega)]; omega) (sp149p (d := d + 1) (by omega) (h X x1 x2 x3 (fun a ha => ?_))))
      have h4 := x4 a ha
      rw [if_pos ha] at h4
      exact h4
    | succ k ih =>
      intro l X o3 o4 e x1 x2 x3 x4
      have i1 : z_add (z_add 68 (z_mul 2 (l : Int))) 1 = ((69 + 2 * l : Nat) : Int) := by simp (disch := omega) only [z_mul_e, z_add_e, z_sub_e]; omega
      have pT := (hT l (by omega)).2
      have pp := hp (T l) pT
      refine zb236_141_p133 _ _ _ _ (z_ifp (by rw [x2 4 (by omega)]; omega) ?_)
      rw [i1]
      refine z_gp (by omega) (z_all ?_)
      rw [Int.toNat_natCast, (x4 l (by omega)).2, if_neg (by omega)]
      have inner : ∀ (k2 j : Nat) (Z : z_M), j + k2 = n → (∀ x, ¬ x = 143 → Z x = X x) → (∀ s, ¬ s = 69 + 2 * l → Z 143 s = X 143 s) → (Z 143 (69 + 2 * l) = if τ (T l) < j then (τ (T l) : Int) else (T l : Int)) → z_Ex (z_MS (d + 2)) 236 Q true 160 [some (.inr (.inr 141)), some (.inl (zCt n (fun t => !decide (σ t = t)) : Int)), some (.inl (l : Int)), some (.inl (T l : Int)), some (.inl (j : Int))] [] 0 0 Z := by
        intro k2
        induction k2 with
        | zero =>
          intro j Z e2 z1 z2 z3
          have e3 : j = n := by omega
          subst e3
          refine zb236_141_p160 _ _ _ _ (sp154 (d := d + 1) ?_)
          rw [z2 0 (by omega), x2 0 (by omega), hn, z_inc (i := l) (by omega)]
          refine z_ifn (by omega) (ih (l + 1) Z _ _ (by omega) (fun x p q => by rw [z1 x p]; exact x1 x p q) (fun s hs => by rw [z2 s (by omega)]; exact x2 s hs) (fun w t hw ht => by rw [z2 _ (by omega)]; exact x3 w t hw ht) (fun a ha => ?_))
          rw [z2 (68 + 2 * a) (by omega)]
          refine ⟨(x4 a ha).1, ?_⟩
          by_cases c : a = l
          · subst c
            rw [z3, if_pos pp.2.1, if_pos (by omega)]
          · rw [z2 _ (by omega), (x4 a ha).2]
            by_cases c2 : a < l
            · rw [if_pos c2, if_pos (by omega)]
            · rw [if_neg c2, if_neg (by omega)]
        | succ k2 ih2 =>
          intro j Z e2 z1 z2 z3
          have e164 : Z 164 j = (σ j : Int) := by rw [z1 164 (by decide), x1 164 (by decide) (by decide)]; exact h164 j (by omega)
          have pj := hp j (by omega)
          refine zb236_141_p160 _ _ _ _ (sp154 (d := d + 1) ?_)
          rw [z2 0 (by omega), x2 0 (by omega), hn, i1, z_inc (i := j) (by omega)]
          refine z_ifp (by omega) (z_gp (by omega) (z_all ?_))
          rw [Int.toNat_natCast, Int.toNat_natCast, e164]
          refine z_ifc (fun c => z_gp (by omega) (z_all (ih2 (j + 1) _ (by omega) (fun x p => by rw [z_up_cell p]; exact z1 x p) (fun s hs => by rw [zUp_o (by omega)]; exact z2 s hs) ?_))) (fun c => z_gp (by omega) (z_all (z_gp (by omega) (z_all (ih2 (j + 1) _ (by omega) (fun x p => by rw [z_up_cell p]; exact z1 x p) (fun s hs => by rw [zUp_o (by omega)]; exact z2 s hs) ?_)))))
          · have e5 : σ j = T l := by omega
            have e6 : τ (T l) = j := by rw [← e5]; exact pj.2.2.1
            rw [zUp_s, if_pos (by omega), e6]
          · rw [zUp_s, z3]
            have e6 : ¬ τ (T l) = j := fun q => c (by rw [← q, pp.2.2.2])
            by_cases c2 : τ (T l) < j
            · rw [if_pos c2, if_pos (by omega)]
            · rw [if_neg c2, if_neg (by omega)]
      refine inner n 0 X (by omega) (fun _ _ => rfl) (fun _ _ => rfl) ?_
      rw [(x4 l (by omega)).2, if_neg (by omega), if_neg (by omega)]
  have lpT : ∀ (k t : Nat) (X : z_M) (o3 : Option z_V), t + k = n → (∀ x, ¬ x = 143 → ¬ x = 165 → X x = Y x) → (∀ s, s < 48 → X 165 s = ρ (8 + s)) → (∀ k, (k < 8 ∨ 56 ≤ k) → X 143 k = ρ k) → (∀ w s, w < 4 → s < t → X 143 (8 + 4 * s + w) = ρ (8 + 4 * σ s + w)) → z_Ex (z_MS (d + 2)) 236 Q true 58 [some (.inr (.inr 141)), some (.inl (zCt t (fun t => !decide (σ t = t)) : Int)), some (.inl (t : Int)), o3, none] [] 0 0 X := by
    intro k
    induction k with
    | zero =>
      intro t X o3 e x1 x0 x2 x3
      have e2 : t = n := by omega
      subst e2
      refine zb236_141_p58 _ _ _ (sp154 (d := d + 1) ?_)
      rw [x2 0 (by omega), hn]
      refine z_ifn (by omega) (lpA m 0 X _ _ (by omega) x1 (fun k hk => x2 k (by omega)) x3 (fun a ha => ?_))
      rw [x2 _ (by omega), x2 _ (by omega), if_neg (by omega)]
      exact ⟨rfl, (hT a ha).1⟩
    | succ k ih =>
      intro t X o3 e x1 x0 x2 x3
      have e164 : X 164 t = (σ t : Int) := by rw [x1 164 (by decide) (by decide)]; exact h164 t (by omega)
      have hle := zCt_le (n := t) (f := fun t => !decide (σ t = t))
      have pt := hp t (by omega)
      refine zb236_141_p58 _ _ _ (sp154 (d := d + 1) ?_)
      rw [x2 0 (by omega), hn]
      refine z_ifp (by omega) (z_gp (by omega) (z_all ?_))
      rw [Int.toNat_natCast, e164]
      have ec : z_add (zCt t (fun t => !decide (σ t = t)) : Int) (if (σ t : Int) = (t : Int) then 0 else 1) = (zCt (t + 1) (fun t => !decide (σ t = t)) : Int) := by
        rw [zCt]
        by_cases c : σ t = t
        · rw [if_pos (by omega), show (!decide (σ t = t)) = false by simp [c], z_add_e (by omega)]
          exact Int.add_zero _
        · rw [if_neg (by omega), show (!decide (σ t = t)) = true by simp [c], z_add_e (by omega)]
          rfl
      rw [ec]
      have inner : ∀ (k2 w : Nat) (Z : z_M), w + k2 = 4 → (∀ x, ¬ x = 143 → Z x = X x) → (∀ s, (s < 8 ∨ 56 ≤ s) → Z 143 s = X 143 s) → (∀ w2 s, w2 < 4 → (s < t ∨ (s = t ∧ w2 < w)) → Z 143 (8 + 4 * s + w2) = ρ (8 + 4 * σ s + w2)) → z_Ex (z_MS (d + 2)) 236 Q true 86 [some (.inr (.inr 141)), some (.inl (zCt (t + 1) (fun t => !decide (σ t = t)) : Int)), some (.inl (t : Int)), some (.inl (w : Int)), none] [] 0 0 Z := by
        intro k2
        induction k2 with
        | zero =>
          intro w Z e2 z1 z2 z3
          have e3 : w = 4 := by omega
          subst e3
          refine zb236_141_p86 _ _ _ (z_ifn (by decide) ?_)
          rw [z_inc (i := t) (by omega)]
          exact ih (t + 1) Z _ (by omega) (fun x p q => by rw [z1 x p]; exact x1 x p q) (fun s hs => by rw [z1 165 (by decide)]; exact x0 s hs) (fun s hs => by rw [z2 s hs]; exact x2 s hs) (fun w2 s hw hs => z3 w2 s hw (by omega))
        | succ k2 ih2 =>
          intro w Z e2 z1 z2 z3
          have g164 : Z 164 t = (σ t : Int) := by rw [z1 164 (by decide)]; exact e164
          have i1 : z_add (z_mul 4 (σ t : Int)) (w : Int) = ((4 * σ t + w : Nat) : Int) := by simp (disch := omega) only [z_mul_e, z_add_e, z_sub_e]; omega
          have i2 : z_add (z_add 8 (z_mul 4 (t : Int))) (w : Int) = ((8 + 4 * t + w : Nat) : Int) := by simp (disch := omega) only [z_mul_e, z_add_e, z_sub_e]; omega
          refine zb236_141_p86 _ _ _ (z_ifp (by omega) (z_gp (by omega) (z_all ?_)))
          rw [Int.toNat_natCast, g164, i1, i2, z_inc (i := w) (by omega)]
          refine z_gp (by omega) (z_all (z_gp (by omega) (z_all ?_)))
          rw [Int.toNat_natCast, Int.toNat_natCast, z1 165 (by decide), x0 _ (by omega), show 8 + (4 * σ t + w) = 8 + 4 * σ t + w by omega]
          refine ih2 (w + 1) _ (by omega) (fun x p => by rw [z_up_cell p]; exact z1 x p) (fun s hs => by rw [zUp_o (by omega)]; exact z2 s hs) (fun w2 s hw hs => ?_)
          by_cases c : s = t ∧ w2 = w
          · obtain ⟨rfl, rfl⟩ := c
            rw [zUp_s]
          · rw [zUp_o (by omega)]
            exact z3 w2 s hw (by omega)
      exact inner 4 0 X (by omega) (fun _ _ => rfl) (fun _ _ => rfl) (fun w2 s hw hs => x3 w2 s hw (by omega))
  have lpC : ∀ (k l : Nat) (X : z_M), l + k = 48 → (∀ x, ¬ x = 165 → X x = Y x) → (∀ s, s < l → X 165 s = ρ (8 + s)) → z_Ex (z_MS (d + 2)) 236 Q true 29 [some (.inr (.inr 141)), some (.inl 0), some (.inl (l : Int)), none, none] [] 0 0 X := by
    intro k
    induction k with
    | zero =>
      intro l X e x1 x2
      have e2 : l = 48 := by omega
      subst e2
      exact zb236_141_p29 _ _ (z_ifn (by decide) (lpT n 0 X none (by omega) (fun x p q => x1 x q) x2 (fun k hk => by rw [x1 143 (by decide), h143]) (fun w s hw hs => absurd hs (Nat.not_lt_zero s))))
    | succ k ih =>
      intro l X e x1 x2
      refine zb236_141_p29 _ _ (z_ifp (by omega) ?_)
      rw [show z_add 8 (l : Int) = ((8 + l : Nat) : Int) by simp (disch := omega) only [z_mul_e, z_add_e, z_sub_e]; omega, z_inc (by omega)]
      refine z_gp (by omega) (z_all (z_gp (by omega) (z_all ?_)))
      rw [Int.toNat_natCast, Int.toNat_natCast, x1 143 (by decide), h143]
      refine ih (l + 1) _ (by omega) (fun x p => by rw [z_up_cell p]; exact x1 x p) (fun s hs => ?_)
      by_cases c : s = l
      · subst c; rw [zUp_s]
      · rw [zUp_o (by omega)]; exact x2 s (by omega)
  exact lpC 48 0 Y (by omega) (fun _ _ => rfl) (fun s hs => absurd hs (Nat.not_lt_zero s))
end
