/-! days of the reference -/
section
variable {d : Nat} {Q : Int → z_M → Prop}
theorem lp245b {U V0 : z_M} {b0 : Nat} {ρ : Nat → Int} {Λ : Nat → (Nat → Int) → Int} {n R m x k : Nat} {lev : Nat → Int} {car : Nat → Nat → Bool} {tq : Nat → Nat} {g0 : Nat → Bool} {o1 : Option z_V} (hT : zT b0 ρ V0 Λ) (hl0 : lev 0 = 0) (hlb : ∀ p, p ≤ n → 0 ≤ lev p ∧ lev p ≤ 108) (hC : zMC U ρ n R m lev car tq g0) (hx : U 141 53 = (x : Int)) (hx2 : x ≤ 1000003) (hk : k ≤ 20)
    (h : ∀ W, (∀ a, ¬ a = 141 → ¬ a = 168 → (a < 159 ∨ 162 < a) → W a = U a) → (∀ i, (i < 44 ∨ 53 < i) → W 141 i = U 141 i) → (∀ j, j < k → zDq (zSv n R lev (zSR ρ) (ρ 7) car) (zSd n lev (zSR ρ) (ρ 7) car) n R (fun _ => 0, g0) x j (W 168 (3 * j)) (W 168 (3 * j + 1)) (W 168 (3 * j + 2))) → Q ((zDx (zSv n R lev (zSR ρ) (ρ 7) car) n R (fun _ => 0, g0) x k).2 : Int) (z_up W 141 1 0)) :
    z_Ex (z_MS (d + 5)) 245 Q true 55 [some (.inr (.inr 141)), o1, some (.inl (k : Int)), some (.inl 0), some (.inl 0), none, none, none] [] 0 0 U := by
  have lp : ∀ (q i : Nat) (W : z_M) (o5 o6 o7 : Option z_V), i + q = k → (∀ a, ¬ a = 141 → ¬ a = 168 → (a < 159 ∨ 162 < a) → W a = U a) → (∀ i, (i < 44 ∨ 53 < i) → W 141 i = U 141 i) → W 141 53 = ((zDx (zSv n R lev (zSR ρ) (ρ 7) car) n R (fun _ => 0, g0) x i).1 : Int) → (∀ j, j < i → zDq (zSv n R lev (zSR ρ) (ρ 7) car) (zSd n lev (zSR ρ) (ρ 7) car) n R (fun _ => 0, g0) x j (W 168 (3 * j)) (W 168 (3 * j + 1)) (W 168 (3 * j + 2))) → z_Ex (z_MS (d + 5)) 245 Q true 55 [some (.inr (.inr 141)), o1, some (.inl (k : Int)), some (.inl ((zDx (zSv n R lev (zSR ρ) (ρ 7) car) n R (fun _ => 0, g0) x i).2 : Int)), some (.inl (i : Int)), o5, o6, o7] [] 0 0 W := by
    intro q
    induction q with
    | zero =>
      intro i W o5 o6 o7 e w1 w2 w3 w4
      have e2 : i = k := by omega
      subst e2
      exact zb245_141_p55 _ _ _ _ _ _ _ (z_ifn (by omega) (sp149p (d := d + 4) (by omega) (h W w1 w2 w4)))
    | succ q ih =>
      intro i W o5 o6 o7 e w1 w2 w3 w4
      have hb := zDx_b (sv := zSv n R lev (zSR ρ) (ρ 7) car) (n := n) (R := R) (S := (fun _ => 0, g0)) hx2 i
      have hd := zDd_b (sv := zSv n R lev (zSR ρ) (ρ 7) car) (n := n) (R := R) (S := (fun _ => 0, g0)) hb.1
      have hCW : zMC W ρ n R m lev car tq g0 := zMC_c hC (w1 143 (by decide) (by decide) (by omega)) (w1 156 (by decide) (by decide) (by omega)) (w1 157 (by decide) (by decide) (by omega)) (w1 158 (by decide) (by decide) (by omega)) (w2 36 (by omega))
      refine zb245_141_p55 _ _ _ _ _ _ _ (z_ifp (by omega) (sp221 (d := d + 4) hCW (fun X x1 x2 x3 => ?_)))
      refine lp245 (d := d) (x := (zDx (zSv n R lev (zSR ρ) (ρ 7) car) n R (fun _ => 0, g0) x i).1) hT hl0 hlb x2 x3 (by rw [x1.2 53 (by omega)]; exact w3) hb.1 (fun Y o6 o7 y1 y2 y3 y4 => ?_)
      generalize hD : zDd (zSv n R lev (zSR ρ) (ρ 7) car) n R (fun _ => 0, g0) (zDx (zSv n R lev (zSR ρ) (ρ 7) car) n R (fun _ => 0, g0) x i).1 = st at hd y3 y4 ⊢
      have i0 : z_mul 3 (i : Int) = ((3 * i : Nat) : Int) := by simp (disch := omega) only [z_mul_e, z_add_e, z_sub_e]; omega
      have i1 : z_add ((3 * i : Nat) : Int) 1 = ((3 * i + 1 : Nat) : Int) := by simp (disch := omega) only [z_mul_e, z_add_e, z_sub_e]; omega
      have i2 : z_add ((3 * i : Nat) : Int) 2 = ((3 * i + 2 : Nat) : Int) := by simp (disch := omega) only [z_mul_e, z_add_e, z_sub_e]; omega
      refine zb245_141_p139 _ _ _ _ _ _ _ ?_
      rw [i0, i1, i2]
      refine z_gp (by omega) (z_all ?_)
      rw [Int.toNat_natCast]
      have yc : ∀ a, ¬ a = 141 → ¬ a = 168 → (a < 159 ∨ 162 < a) → Y a = U a := fun a p1 p2 p3 => by rw [y1.1 a p1 p3, x1.1 a p1 p3]; exact w1 a p1 p2 p3
      have y168 : Y 168 = W 168 := by rw [y1.1 168 (by decide) (by omega), x1.1 168 (by decide) (by omega)]
      have cC : zMC (z_up Y 168 (3 * i) (st.2.2 : Int)) ρ n R m lev car tq g0 := zMC_c y2 (by simp (disch := omega) only [zDn, z_up_cell]) (by simp (disch := omega) only [zDn, z_up_cell]) (by simp (disch := omega) only [zDn, z_up_cell]) (by simp (disch := omega) only [zDn, z_up_cell]) (by simp (disch := omega) only [zDn, zUp_o, zUp_s])
      have cM : zMD (z_up Y 168 (3 * i) (st.2.2 : Int)) n st.2.1.1 st.2.1.2 := by
        unfold zMD at y4 ⊢
        rw [show z_up Y 168 (3 * i) (st.2.2 : Int) 141 44 = Y 141 44 by simp (disch := omega) only [zDn, zUp_o, zUp_s], show z_up Y 168 (3 * i) (st.2.2 : Int) 162 = Y 162 by simp (disch := omega) only [zDn, z_up_cell]]
        exact y4
      refine sp224 (d := d + 1) hT cC cM hl0 hlb (fun Z u z1 hu => ?_)
      refine z_gp (by omega) (z_all (z_gp (by omega) (z_all ?_)))
      have z168 : Z 168 = z_up Y 168 (3 * i) (st.2.2 : Int) 168 := z1 168 (by decide)
      have z141 : Z 141 = Y 141 := by rw [z1 141 (by decide)]; simp (disch := omega) only [zDn, z_up_cell]
      rw [Int.toNat_natCast, Int.toNat_natCast, show z_up Z 168 (3 * i + 1) u 141 44 = Y 141 44 by rw [z_up_cell (by decide), z141], z_inc (i := i) (by omega), z_add_e (by omega)]
      have nx := ih (i + 1) (z_up (z_up Z 168 (3 * i + 1) u) 168 (3 * i + 2) (Y 141 44)) (some (.inl (st.2.2 : Int))) o6 o7 (by omega) (fun a p1 p2 p3 => by rw [z_up_cell p2, z_up_cell p2, z1 a (by omega), z_up_cell p2]; exact yc a p1 p2 p3) (fun s hs => by rw [z_up_cell (by decide), z_up_cell (by decide), z141, y1.2 s hs, x1.2 s (by omega)]; exact w2 s hs) (by rw [z_up_cell (by decide), z_up_cell (by decide), z141, y3, ← hD]; rfl) (fun j hj => ?_)
      · rw [zDx, hD] at nx
        rw [show ((zDx (zSv n R lev (zSR ρ) (ρ 7) car) n R (fun _ => 0, g0) x i).2 : Int) + (st.2.2 : Int) = (((zDx (zSv n R lev (zSR ρ) (ρ 7) car) n R (fun _ => 0, g0) x i).2 + st.2.2 : Nat) : Int) by omega]
        exact nx
      · by_cases c : j = i
        · subst c
          rw [show z_up (z_up Z 168 (3 * j + 1) u) 168 (3 * j + 2) (Y 141 44) 168 (3 * j) = (st.2.2 : Int) by rw [zUp_o (by omega), zUp_o (by omega), z168, zUp_s], show z_up (z_up Z 168 (3 * j + 1) u) 168 (3 * j + 2) (Y 141 44) 168 (3 * j + 1) = u by rw [zUp_o (by omega), zUp_s], zUp_s]
          unfold zDq
          rw [hD]
          exact ⟨rfl, hu, y4.1⟩
        · have w4 := w4 j (by omega)
          have old : ∀ s, s < 3 → z_up (z_up Z 168 (3 * i + 1) u) 168 (3 * i + 2) (Y 141 44) 168 (3 * j + s) = W 168 (3 * j + s) := fun s hs => by rw [zUp_o (by omega), zUp_o (by omega), z168, zUp_o (by omega), y168]
          rw [show z_up (z_up Z 168 (3 * i + 1) u) 168 (3 * i + 2) (Y 141 44) 168 (3 * j) = W 168 (3 * j) from old 0 (by decide), old 1 (by decide), old 2 (by decide)]
          exact w4
  exact lp k 0 U none none none (by omega) (fun _ _ _ _ => rfl) (fun _ _ => rfl) hx (fun j hj => absurd hj (Nat.not_lt_zero j))
end
