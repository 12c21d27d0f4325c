/-! swap -/
def zSx2 (a b t : Nat) : Nat := if t = a then b else if t = b then a else t
theorem zSx2_p {n a b : Nat} (ha : a < n) (hb : b < n) : zPm2 n (zSx2 a b) (zSx2 a b) := by
  intro t ht
  unfold zSx2
  by_cases c : t = a
  · subst c
    rw [if_pos rfl]
    by_cases c2 : b = t
    · subst c2; rw [if_pos rfl]; omega
    · rw [if_neg c2, if_pos rfl]; omega
  · rw [if_neg c]
    by_cases c2 : t = b
    · subst c2; rw [if_pos rfl, if_pos rfl]; omega
    · rw [if_neg c2, if_neg c, if_neg c2]; omega
section
variable {d : Nat} {Q : Int → z_M → Prop}
theorem cm_swap {V : z_M} (hR : zR V) (a b : Int) : zPr (d + 6) 118 237 [.inl a, .inl b] V := by
  have hR2 := hR
  obtain ⟨⟨Λ, hT, hc⟩, r3, r4, r5⟩ := hR2
  obtain ⟨n, R, m, hn, hRr, hm, n12, R6, m7⟩ := zR_nat hT
  have a0 := zT_0 hT
  have a1 := zT_1 hT
  have a4 := zT_4 hT
  have e7 : V 37 7 = (n : Int) := by omega
  have e11 : V 37 11 = (m : Int) := by omega
  have rj : ∀ e : Int, -6 ≤ e ∧ e ≤ -1 → (¬ ((0 ≤ a ∧ a < (n : Int)) ∧ (0 ≤ b ∧ b < (n : Int))) ∧ e = -2) ∨ (((0 ≤ a ∧ a < (n : Int)) ∧ (0 ≤ b ∧ b < (n : Int))) ∧ a = b ∧ e = -3) → z_MS (d + 6) 237 true [.inr (.inr 141), .inl a, .inl b] (zRf e V) (fun z2 X => z2 = e ∧ zR X) := by
    intro e he h
    have fin := zR_rf he hR
    have h143 : z_up (zRf e V) 141 0 0 143 0 = (n : Int) := hn
    refine zb237_141 _ _ (z_all (sp155 (d := d + 3) (n := n) h143 n12 (fun h1 => z_ifn (by decide) (sp155 (d := d + 3) (n := n) h143 n12 (fun h2 => z_ifn (by decide) ?_) (fun h2 => z_ifp rfl ?_))) (fun h1 => z_ifp rfl ?_)))
    · rcases h with ⟨h3, _⟩ | ⟨_, h3, h4⟩
      · exact absurd ⟨h1, h2⟩ h3
      · subst h4
        exact z_ifp h3 (sp149 (d := d + 4) he ⟨rfl, fin⟩)
    · rcases h with ⟨_, h4⟩ | ⟨h3, _⟩
      · subst h4; exact sp149 (d := d + 4) he ⟨rfl, fin⟩
      · exact absurd h3.2 h2
    · rcases h with ⟨_, h4⟩ | ⟨h3, _⟩
      · subst h4; exact sp149 (d := d + 4) he ⟨rfl, fin⟩
      · exact absurd h3.1 h1
  refine zb118_36 _ _ (sp75 (d := d + 3) (by omega) (fun h1 => z_ifn (by decide) (sp75 (d := d + 3) (by omega) (fun h2 => z_ifn (by decide) ?_) (fun h2 => z_ifp rfl (sp130 (d := d + 3) (by decide) (rj _ (by decide) (Or.inl ⟨fun q => h2 (by omega), rfl⟩)))))) (fun h1 => z_ifp rfl (sp130 (d := d + 3) (by decide) (rj _ (by decide) (Or.inl ⟨fun q => h1 (by omega), rfl⟩)))))
  rw [e7] at h1 h2
  refine z_ifc (fun c => sp130 (d := d + 3) (by decide) (rj _ (by decide) (Or.inr ⟨⟨h1, h2⟩, c, rfl⟩))) (fun c => ?_)
  obtain ⟨a, rfl⟩ := Int.eq_ofNat_of_zero_le h1.1
  obtain ⟨b, rfl⟩ := Int.eq_ofNat_of_zero_le h2.1
  have ha : a < n := by omega
  have hb : b < n := by omega
  have hab : ¬ a = b := fun q => c (by rw [q])
  refine z_gp (by decide) (z_all (z_gp (by omega) (z_all (z_gp (by omega) (z_all ?_)))))
  rw [Int.toNat_natCast, Int.toNat_natCast]
  have pp := zSx2_p ha hb
  have hTT : ∀ s, s < m → V 50 s = (zAk (V 143) s : Int) ∧ zAk (V 143) s < n := fun s hs => by
    have pk := zAk_lt hT hn hm hs
    have pa := zT_a hT (a := s) (by omega)
    exact ⟨by rw [← pk.2]; exact pa.2.1, pk.1⟩
  generalize hV1 : z_up (z_up (z_cpy V 6 0 139 0 12) 139 a (b : Int)) 139 b (a : Int) = V1
  have v1 : ∀ x, ¬ x = 139 → V1 x = V x := fun x p => by rw [← hV1, z_up_cell p, z_up_cell p, z_cpy_cell p]
  have v139 : ∀ t, t < n → V1 139 t = (zSx2 a b t : Int) := by
    intro t ht
    rw [← hV1]
    unfold zSx2
    by_cases c1 : t = a
    · subst c1
      rw [if_pos rfl, zUp_o (by omega), zUp_s]
    · rw [if_neg c1]
      by_cases c2 : t = b
      · subst c2; rw [if_pos rfl, zUp_s]
      · rw [if_neg c2, zUp_o (by omega), zUp_o (by omega), z_cpy_rd, if_pos rfl, if_pos ⟨by omega, by omega⟩, show 0 + (t - 0) = t by omega]
        exact zSt_6 r5.1 (by omega)
  refine sp87_139 (d := d + 2) (V := V1) (n := n) (m := m) (σ := zSx2 a b) (τ := zSx2 a b) (T := zAk (V 143)) (by rw [v1 37 (by decide)]; exact e7) n12 (by rw [v1 37 (by decide)]; exact e11) m7 v139 pp (fun s hs => by rw [v1 50 (by decide)]; exact hTT s hs) (fun W w1 w2 w3 => sp131 (d := d + 4) ?_)
  have e143 : z_up (zDn W) 141 0 0 143 = V 143 := by simp (disch := omega) only [zDn, z_up_cell]; rw [w1 143 (by omega) (by decide) (by decide), v1 143 (by decide)]
  refine zb237_141 _ _ (z_all (sp155 (d := d + 3) (n := n) (by rw [e143]; exact hn) n12 (fun _ => z_ifn (by decide) (sp155 (d := d + 3) (n := n) (by rw [e143]; exact hn) n12 (fun _ => z_ifn (by decide) (z_ifn c ?_)) (fun q => absurd h2 q))) (fun q => absurd h1 q)))
  generalize hU : z_up (zDn W) 141 0 0 = U at e143 ⊢
  -- the askings
  have lpA : ∀ (k j : Nat) (X : z_M) (o4 : Option z_V), j + k = m → (∀ x, ¬ x = 143 → X x = U x) → (∀ k, (k < 8 ∨ (56 ≤ k ∧ k < 68) ∨ 82 ≤ k) → X 143 k = V 143 k) → (∀ w t, w < 4 → t < n → X 143 (8 + 4 * t + w) = V 143 (8 + 4 * zSx2 a b t + w)) → (∀ s, s < m → X 143 (68 + 2 * s) = V 143 (68 + 2 * s) ∧ X 143 (69 + 2 * s) = if s < j then (zSx2 a b (zAk (V 143) s) : Int) else (zAk (V 143) s : Int)) → z_Ex (z_MS (d + 5)) 237 (fun z2 X => z2 = 0 ∧ zR X) true 111 [some (.inr (.inr 141)), some (.inl (a : Int)), some (.inl (b : Int)), some (.inl (j : Int)), o4] [] 0 0 X := by
    intro k
    induction k with
    | zero =>
      intro j X o4 e x1 x2 x3 x4
      have e2 : j = m := by omega
      subst e2
      refine zb237_141_p111 _ _ _ _ (z_ifn (by rw [x2 4 (by omega)]; omega) (sp149p (d := d + 4) (by decide) ⟨rfl, ?_⟩))
      have zc : ∀ x, ¬ x = 141 → ¬ x = 143 → z_up X 141 1 0 x = zDn W x := fun x p q => by rw [z_up_cell p, x1 x q, ← hU, z_up_cell p]
      have ww : ∀ x, ¬ (39 ≤ x ∧ x ≤ 42) → ¬ x = 36 → ¬ x = 50 → ¬ x = 52 → ¬ x = 119 → ¬ x = 123 → ¬ x = 139 → ¬ x = 141 → ¬ x = 143 → z_up X 141 1 0 x = V x := fun x p0 p1 p2 p3 p4 p5 p6 p7 p8 => by
        rw [zc x p7 p8]
        simp (disch := omega) only [zDn, z_up_cell]
        rw [w1 x p0 p2 p3, v1 x p6]
      have z36 : ∀ k, ¬ k = 15 → z_up X 141 1 0 36 k = V 36 k := fun k hk => by
        rw [zc 36 (by decide) (by decide)]; simp (disch := omega) only [zDn, zUp_o, zUp_s]; rw [w1 36 (by omega) (by decide) (by decide), v1 36 (by decide)]
      have z141 : ∀ k, ¬ k = 0 → ¬ k = 1 → z_up X 141 1 0 141 k = V 141 k := fun k k0 k1 => by
        rw [zUp_o (by omega), x1 141 (by decide), ← hU]; simp (disch := omega) only [zDn, zUp_o, zUp_s]; rw [w1 141 (by omega) (by decide) (by decide), v1 141 (by decide)]
      refine zR_dn hR (Λ := Λ) ?_ (fun x hx => by unfold zKd at hx; exact ww x (by omega) (by omega) (by omega) (by omega) (by omega) (by omega) (by omega) (by omega) (by omega)) (fun k hk hk1 => by unfold zKf at hk; exact z141 k (by omega) hk1) (z36 13 (by decide)) (z36 14 (by decide)) (by rw [zc 36 (by decide) (by decide)]; simp (disch := omega) only [zDn, zUp_o, zUp_s]) (by rw [zc 119 (by decide) (by decide)]; simp (disch := omega) only [zDn, zUp_o, zUp_s]) (by rw [zc 123 (by decide) (by decide)]; simp (disch := omega) only [zDn, zUp_o, zUp_s])
      rw [show z_up X 141 1 0 143 = X 143 from z_up_cell (by decide)]
      refine zT_re hT hn hm pp (fun x p q r => ?_) (by decide) (fun w t hw ht => ?_) (fun s hs => ?_) x2 x3 (fun s hs => ?_)
      · by_cases c52 : x = 52
        · omega
        · exact ww x (by omega) (by omega) (by omega) c52 (by omega) (by omega) (by omega) (by omega) (by omega)
      · rw [zc _ (by omega) (by omega)]
        unfold zDn
        rw [z_up_cell (by omega), z_up_cell (by omega), z_up_cell (by omega), show 37 + 2 + w = 39 + w by omega, w2 w t hw ht, v1 _ (by omega)]
      · rw [zc _ (by omega) (by omega)]
        exact w3 s hs
      · rw [(x4 s hs).1, (x4 s hs).2, if_pos hs]
        exact ⟨rfl, rfl⟩
    | succ k ih =>
      intro j X o4 e x1 x2 x3 x4
      have i1 : z_add (z_add 68 (z_mul 2 (j : Int))) 1 = ((69 + 2 * j : Nat) : Int) := by simp (disch := omega) only [z_mul_e, z_add_e, z_sub_e]; omega
      refine zb237_141_p111 _ _ _ _ (z_ifp (by rw [x2 4 (by omega)]; omega) ?_)
      rw [i1, z_inc (by omega)]
      refine z_gp (by omega) (z_all (z_gp (by omega) (z_all ?_)))
      rw [Int.toNat_natCast, (x4 j (by omega)).2, if_neg (by omega)]
      have ev : (if ((zAk (V 143) j : Nat) : Int) = (a : Int) then (b : Int) else (if ((zAk (V 143) j : Nat) : Int) = (b : Int) then (a : Int) else ((zAk (V 143) j : Nat) : Int))) = (zSx2 a b (zAk (V 143) j) : Int) := by
        unfold zSx2
        by_cases c1 : zAk (V 143) j = a
        · rw [if_pos c1, if_pos (by omega)]
        · rw [if_neg c1, if_neg (by omega)]
          by_cases c2 : zAk (V 143) j = b
          · rw [if_pos c2, if_pos (by omega)]
          · rw [if_neg c2, if_neg (by omega)]
      rw [ev]
      refine ih (j + 1) _ _ (by omega) (fun x p => by rw [z_up_cell p]; exact x1 x p) (fun k hk => by rw [zUp_o (by omega)]; exact x2 k hk) (fun w t hw ht => by rw [zUp_o (by omega)]; exact x3 w t hw ht) (fun s hs => ?_)
      rw [zUp_o (by omega)]
      refine ⟨(x4 s hs).1, ?_⟩
      by_cases c1 : s = j
      · subst c1; rw [zUp_s, if_pos (by omega)]
      · rw [zUp_o (by omega), (x4 s hs).2]
        by_cases c2 : s < j
        · rw [if_pos c2, if_pos (by omega)]
        · rw [if_neg c2, if_neg (by omega)]
  have lpW : ∀ (k j : Nat) (X : z_M) (o4 : Option z_V), j + k = 4 → (∀ x, ¬ x = 143 → X x = U x) → (∀ k, (k < 8 ∨ 56 ≤ k) → X 143 k = V 143 k) → (∀ w t, w < 4 → t < n → X 143 (8 + 4 * t + w) = V 143 (8 + 4 * (if w < j then zSx2 a b t else t) + w)) → z_Ex (z_MS (d + 5)) 237 (fun z2 X => z2 = 0 ∧ zR X) true 42 [some (.inr (.inr 141)), some (.inl (a : Int)), some (.inl (b : Int)), some (.inl (j : Int)), o4] [] 0 0 X := by
    intro k
    induction k with
    | zero =>
      intro j X o4 e x1 x2 x3
      have e2 : j = 4 := by omega
      subst e2
      refine zb237_141_p42 _ _ _ _ (z_ifn (by decide) (lpA m 0 X o4 (by omega) x1 (fun k hk => x2 k (by omega)) (fun w t hw ht => by rw [x3 w t hw ht, if_pos hw]) (fun s hs => ?_)))
      rw [x2 _ (by omega), x2 _ (by omega), if_neg (by omega)]
      exact ⟨rfl, (zAk_lt hT hn hm hs).2⟩
    | succ k ih =>
      intro j X o4 e x1 x2 x3
      have ia : z_add (z_add 8 (z_mul 4 (a : Int))) (j : Int) = ((8 + 4 * a + j : Nat) : Int) := by simp (disch := omega) only [z_mul_e, z_add_e, z_sub_e]; omega
      have ib : z_add (z_add 8 (z_mul 4 (b : Int))) (j : Int) = ((8 + 4 * b + j : Nat) : Int) := by simp (disch := omega) only [z_mul_e, z_add_e, z_sub_e]; omega
      refine zb237_141_p42 _ _ _ _ (z_ifp (by omega) ?_)
      rw [ia, ib, z_inc (by omega)]
      refine z_gp (by omega) (z_all (z_gp (by omega) (z_all (z_gp (by omega) (z_all (z_gp (by omega) (z_all ?_)))))))
      rw [Int.toNat_natCast, Int.toNat_natCast, x3 j a (by omega) ha, x3 j b (by omega) hb, if_neg (by omega), if_neg (by omega)]
      refine ih (j + 1) _ _ (by omega) (fun x p => by rw [z_up_cell p, z_up_cell p]; exact x1 x p) (fun k hk => by rw [zUp_o (by omega), zUp_o (by omega)]; exact x2 k hk) (fun w t hw ht => ?_)
      by_cases cw : w = j
      · subst cw
        rw [if_pos (by omega)]
        unfold zSx2
        by_cases c1 : t = a
        · subst c1
          rw [if_pos rfl, zUp_o (by omega), zUp_s]
        · rw [if_neg c1]
          by_cases c2 : t = b
          · subst c2; rw [if_pos rfl, zUp_s]
          · rw [if_neg c2, zUp_o (by omega), zUp_o (by omega), x3 w t hw ht, if_neg (by omega)]
      · rw [zUp_o (by omega), zUp_o (by omega), x3 w t hw ht]
        by_cases c1 : w < j
        · rw [if_pos c1, if_pos (by omega)]
        · rw [if_neg c1, if_neg (by omega)]
  exact lpW 4 0 U none (by omega) (fun _ _ => rfl) (fun k hk => by rw [e143]) (fun w t hw ht => by rw [e143, if_neg (by omega)])
end
