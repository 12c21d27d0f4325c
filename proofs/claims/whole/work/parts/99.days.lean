/-! days -/
def zDx (sv : (Nat → Nat) → (Nat → Bool) → Nat → Nat → Int) (n R : Nat) (S : (Nat → Nat) × (Nat → Bool)) (x : Nat) : Nat → Nat × Nat
  | 0 => (x, 0)
  | i + 1 => ((zDd sv n R S (zDx sv n R S x i).1).1, (zDx sv n R S x i).2 + (zDd sv n R S (zDx sv n R S x i).1).2.2)
theorem zDx_b {sv : (Nat → Nat) → (Nat → Bool) → Nat → Nat → Int} {n R x : Nat} {S : (Nat → Nat) × (Nat → Bool)} (hx : x ≤ 1000003) : ∀ i, (zDx sv n R S x i).1 ≤ 1000003 ∧ (zDx sv n R S x i).2 ≤ 6 * i
  | 0 => ⟨hx, Nat.le_refl 0⟩
  | i + 1 => by
    have h := zDx_b (sv := sv) (n := n) (R := R) (S := S) hx i
    have h2 := zDd_b (sv := sv) (n := n) (R := R) (S := S) h.1
    exact ⟨h2.1, by show (zDx sv n R S x i).2 + _ ≤ _; omega⟩
/-- day j's three numbers: served, who is stranded, what is out -/
def zDq (sv : (Nat → Nat) → (Nat → Bool) → Nat → Nat → Int) (sd : (Nat → Nat) → (Nat → Bool) → Nat → Bool) (n R : Nat) (S : (Nat → Nat) × (Nat → Bool)) (x j : Nat) (a b c : Int) : Prop :=
  a = ((zDd sv n R S (zDx sv n R S x j).1).2.2 : Int) ∧ zBS b (fun r => decide (r < R) && sd (zDd sv n R S (zDx sv n R S x j).1).2.1.1 (zDd sv n R S (zDx sv n R S x j).1).2.1.2 r) ∧ zBS c (fun t => decide (t < n) && (zDd sv n R S (zDx sv n R S x j).1).2.1.2 t)
section
variable {d : Nat} {Q : Int → z_M → Prop}
theorem sp12 {V : z_M} {ρ : Nat → Int} {Λ : Nat → (Nat → Int) → Int} {n R x k : Nat} (hSt : zSt V) (hT : zT 37 ρ V Λ) (hn : ρ 0 = (n : Int)) (hR : ρ 1 = (R : Int)) (hS : zSC V n R (zLE ρ (fun t => t)) (zSR ρ) (ρ 7) (zCR ρ Λ (fun t => t)) (fun _ => true)) (hx : x ≤ 1000003) (hk : k ≤ 20)
    (h : ∀ W, (∀ a, ¬ a = 97 → ¬ a = 98 → ¬ a = 115 → ¬ a = 134 → ¬ (136 ≤ a ∧ a ≤ 138) → W a = V a) → W 134 1 = (k : Int) → (∀ j, j < k → zDq (zSv n R (zLE ρ (fun t => t)) (zSR ρ) (ρ 7) (zCR ρ Λ (fun t => t))) (zSd n (zLE ρ (fun t => t)) (zSR ρ) (ρ 7) (zCR ρ Λ (fun t => t))) n R (fun _ => 0, zG0 ρ (fun t => t)) x j (W 136 j) (W 137 j) (W 138 j)) → Q ((zDx (zSv n R (zLE ρ (fun t => t)) (zSR ρ) (ρ 7) (zCR ρ Λ (fun t => t))) n R (fun _ => 0, zG0 ρ (fun t => t)) x k).2 : Int) W) : z_MS (d + 5) 12 true [.inr (.inr 134), .inr (.inr 37), .inr (.inr 97), .inl (x : Int), .inl (k : Int)] V Q := by
  have a0 := zT_0 hT
  have a1 := zT_1 hT
  have n12 : n ≤ 12 := by omega
  have R6 : R ≤ 6 := by omega
  refine zb12_134_37_97 _ _ (z_all ?_)
  rw [show z_min (k : Int) 20 = (k : Int) by unfold z_min; split <;> omega]
  refine z_all ?_
  have lp : ∀ (m i : Nat) (W : z_M) (o3 o4 : Option z_V), i + m = k → (∀ a, ¬ a = 97 → ¬ a = 98 → ¬ a = 115 → ¬ a = 134 → ¬ (136 ≤ a ∧ a ≤ 138) → W a = V a) → W 134 1 = (k : Int) → W 134 2 = ((zDx (zSv n R (zLE ρ (fun t => t)) (zSR ρ) (ρ 7) (zCR ρ Λ (fun t => t))) n R (fun _ => 0, zG0 ρ (fun t => t)) x i).1 : Int) → (∀ j, j < i → zDq (zSv n R (zLE ρ (fun t => t)) (zSR ρ) (ρ 7) (zCR ρ Λ (fun t => t))) (zSd n (zLE ρ (fun t => t)) (zSR ρ) (ρ 7) (zCR ρ Λ (fun t => t))) n R (fun _ => 0, zG0 ρ (fun t => t)) x j (W 136 j) (W 137 j) (W 138 j)) → z_Ex (z_MS (d + 4)) 12 Q true 22 [some (.inr (.inr 134)), some (.inr (.inr 37)), some (.inr (.inr 97)), o3, o4, some (.inl ((zDx (zSv n R (zLE ρ (fun t => t)) (zSR ρ) (ρ 7) (zCR ρ Λ (fun t => t))) n R (fun _ => 0, zG0 ρ (fun t => t)) x i).2 : Int)), some (.inl (i : Int))] [] 0 0 W := by
    intro m
    induction m with
    | zero =>
      intro i W o3 o4 e w1 w2 w3 w4
      have e2 : i = k := by omega
      subst e2
      exact zb12_134_37_97_p22 _ _ _ _ (z_ifn (by omega) (h W w1 w2 w4))
    | succ m ih =>
      intro i W o3 o4 e w1 w2 w3 w4
      have hb := zDx_b (sv := zSv n R (zLE ρ (fun t => t)) (zSR ρ) (ρ 7) (zCR ρ Λ (fun t => t))) (n := n) (R := R) (S := (fun _ => 0, zG0 ρ (fun t => t))) hx i
      have hd := zDd_b (sv := zSv n R (zLE ρ (fun t => t)) (zSR ρ) (ρ 7) (zCR ρ Λ (fun t => t))) (n := n) (R := R) (S := (fun _ => 0, zG0 ρ (fun t => t))) hb.1
      have hTW : zT 37 ρ W Λ := zT_c hT (w1 0 (by omega) (by omega) (by omega) (by omega) (by omega)) (fun a p q => w1 a (by omega) (by omega) (by omega) (by omega) (by omega)) (fun a p => w1 a (by omega) (by omega) (by omega) (by omega) (by omega))
      refine zb12_134_37_97_p22 _ _ _ _ (z_ifp (by omega) ?_)
      refine sp48_6 (d := d + 1) (π := fun t => t) hTW hn hR (by omega) (fun t ht => ⟨by rw [w1 6 (by omega) (by omega) (by omega) (by omega) (by omega)]; exact zSt_6 hSt (by omega), ht⟩) (fun X x1 x2 x3 x4 x5 => ?_)
      have hS2 : zSC X n R (zLE ρ (fun t => t)) (zSR ρ) (ρ 7) (zCR ρ Λ (fun t => t)) (fun _ => true) := ⟨x2, x3, x4, fun r hr hA => by
        have c1 : ∀ a, 99 ≤ a → a ≤ 113 → X a = V a := fun a p q => by rw [x1 a (by omega) (by omega) (by omega), w1 a (by omega) (by omega) (by omega) (by omega) (by omega)]
        rw [c1 99 (by omega) (by omega), c1 (101 + r) (by omega) (by omega), c1 (108 + r) (by omega) (by omega)]
        exact hS.2.2.2 r hr hA⟩
      have xc : ∀ a, ¬ a = 97 → ¬ a = 98 → ¬ a = 115 → X a = W a := x1
      refine sp13 (d := d) (x := (zDx (zSv n R (zLE ρ (fun t => t)) (zSR ρ) (ρ 7) (zCR ρ Λ (fun t => t))) n R (fun _ => 0, zG0 ρ (fun t => t)) x i).1) (by rw [xc 37 (by decide) (by decide) (by decide), w1 37 (by omega) (by omega) (by omega) (by omega) (by omega)]; omega) (by rw [xc 37 (by decide) (by decide) (by decide), w1 37 (by omega) (by omega) (by omega) (by omega) (by omega)]; omega) hS2 x5 n12 R6 (by rw [xc 134 (by decide) (by decide) (by decide)]; exact w3) hb.1 (fun Y y1 y2 y3 y4 y5 y6 => ?_)
      refine z_gp (by omega) (z_all ?_)
      rw [Int.toNat_natCast]
      generalize hD : zDd (zSv n R (zLE ρ (fun t => t)) (zSR ρ) (ρ 7) (zCR ρ Λ (fun t => t))) n R (fun _ => 0, zG0 ρ (fun t => t)) (zDx (zSv n R (zLE ρ (fun t => t)) (zSR ρ) (ρ 7) (zCR ρ Λ (fun t => t))) n R (fun _ => 0, zG0 ρ (fun t => t)) x i).1 = st at hd y5 y6 ⊢
      have sS : ∀ Z : z_M, (∀ a, ¬ a = 136 → ¬ a = 137 → Z a = Y a) → zSC Z n R (zLE ρ (fun t => t)) (zSR ρ) (ρ 7) (zCR ρ Λ (fun t => t)) (fun _ => true) ∧ zDY Z n st.2.1.1 st.2.1.2 := fun Z hZ => ⟨zSC_up R6 hS2 (by rw [hZ 97 (by decide) (by decide)]; exact y2) (by rw [hZ 97 (by decide) (by decide)]; exact y3) (fun a p q => by rw [hZ a (by omega) (by omega)]; exact y1 a (by omega) (by omega) (by omega)), zDY_c y6 (hZ 97 (by decide) (by decide)) (hZ 115 (by decide) (by decide))⟩
      have s1 := sS (z_up Y 136 i (st.2.2 : Int)) (fun a p q => by simp (disch := omega) only [zDn, z_up_cell])
      refine sp62 (d := d + 1) s1.1 s1.2 n12 R6 (fun _ _ _ => rfl) (fun u hu => ?_)
      refine z_gp (by omega) (z_all ?_)
      have s2 := sS (z_up (z_up Y 136 i (st.2.2 : Int)) 137 i u) (fun a p q => by simp (disch := omega) only [zDn, z_up_cell])
      refine sp64 (d := d + 3) s2.1.1 s2.2 n12 (fun v hv => ?_)
      refine z_gp (by omega) (z_all (z_gp (by omega) (z_all ?_)))
      rw [show z_up (z_up (z_up Y 136 i (st.2.2 : Int)) 137 i u) 138 i v 136 i = (st.2.2 : Int) by simp (disch := omega) only [zDn, zUp_o, zUp_s], z_inc (i := i) (by omega), z_add_e (by omega)]
      have nx := ih (i + 1) (z_up (z_up (z_up Y 136 i (st.2.2 : Int)) 137 i u) 138 i v) o3 (cond (z_o2 o4) none o4) (by omega) (fun a p1 p2 p3 p4 p5 => by rw [z_up_cell (by omega), z_up_cell (by omega), z_up_cell (by omega), y1 a p1 p3 p4, xc a p1 p2 p3]; exact w1 a p1 p2 p3 p4 p5) (by rw [z_up_cell (by decide), z_up_cell (by decide), z_up_cell (by decide), y4 1 (by decide), xc 134 (by decide) (by decide) (by decide)]; exact w2) (by rw [z_up_cell (by decide), z_up_cell (by decide), z_up_cell (by decide), y5, ← hD]; rfl) (fun j hj => ?_)
      · rw [zDx, hD] at nx
        rw [show ((zDx (zSv n R (zLE ρ (fun t => t)) (zSR ρ) (ρ 7) (zCR ρ Λ (fun t => t))) n R (fun _ => 0, zG0 ρ (fun t => t)) x i).2 : Int) + (st.2.2 : Int) = (((zDx (zSv n R (zLE ρ (fun t => t)) (zSR ρ) (ρ 7) (zCR ρ Λ (fun t => t))) n R (fun _ => 0, zG0 ρ (fun t => t)) x i).2 + st.2.2 : Nat) : Int) by omega]
        exact nx
      · by_cases c : j = i
        · subst c
          rw [show z_up (z_up (z_up Y 136 j (st.2.2 : Int)) 137 j u) 138 j v 136 j = (st.2.2 : Int) by simp (disch := omega) only [zDn, zUp_o, zUp_s], show z_up (z_up (z_up Y 136 j (st.2.2 : Int)) 137 j u) 138 j v 137 j = u by simp (disch := omega) only [zDn, zUp_o, zUp_s], zUp_s]
          unfold zDq
          rw [hD]
          exact ⟨rfl, hu, hv⟩
        · have w4 := w4 j (by omega)
          rw [show z_up (z_up (z_up Y 136 i (st.2.2 : Int)) 137 i u) 138 i v 136 j = W 136 j by simp (disch := omega) only [zDn, zUp_o, zUp_s]; rw [y1 136 (by decide) (by decide) (by decide), xc 136 (by decide) (by decide) (by decide)], show z_up (z_up (z_up Y 136 i (st.2.2 : Int)) 137 i u) 138 i v 137 j = W 137 j by simp (disch := omega) only [zDn, zUp_o, zUp_s]; rw [y1 137 (by decide) (by decide) (by decide), xc 137 (by decide) (by decide) (by decide)], show z_up (z_up (z_up Y 136 i (st.2.2 : Int)) 137 i u) 138 i v 138 j = W 138 j by simp (disch := omega) only [zDn, zUp_o, zUp_s]; rw [y1 138 (by decide) (by decide) (by decide), xc 138 (by decide) (by decide) (by decide)]]
          exact w4
  refine lp k 0 _ _ _ (by omega) (fun a p1 p2 p3 p4 p5 => by rw [z_up_cell p4, z_up_cell p4]) zUp_s (by simp (disch := omega) only [zDn, zUp_o, zUp_s]; rfl) (fun j hj => absurd hj (Nat.not_lt_zero j))
end
