/-! drop -/
section
variable {d : Nat} {Q : Int → z_M → Prop}
theorem sp82 {V : z_M} {m i : Nat} (hm : V 37 11 = (m : Int)) (hm7 : m ≤ 7) (hi : i < m)
    (h : ∀ W, (∀ x, ¬ x = 37 → ¬ x = 49 → ¬ x = 50 → W x = V x) → (∀ k, ¬ k = 11 → W 37 k = V 37 k) → W 37 11 = (m : Int) - 1 → (∀ k, k < m - 1 → W 49 k = V 49 (if k < i then k else k + 1) ∧ W 50 k = V 50 (if k < i then k else k + 1)) → Q 0 W) : z_MS (d + 1) 82 true [.inr (.inr 37), .inl (i : Int)] V Q := by
  have lp : ∀ (k j : Nat) (W : z_M) (o1 : Option z_V), j + k = m → i < j → (∀ x, ¬ x = 49 → ¬ x = 50 → W x = V x) → (∀ s, s < m → W 49 s = V 49 (if i ≤ s ∧ s + 1 < j then s + 1 else s) ∧ W 50 s = V 50 (if i ≤ s ∧ s + 1 < j then s + 1 else s)) → z_Ex (z_MS d) 82 Q true 8 [some (.inr (.inr 37)), o1, some (.inl (j : Int))] [] 0 0 W := by
    intro k
    induction k with
    | zero =>
      intro j W o1 e hj w1 w2
      have e2 : j = m := by omega
      subst e2
      have e11 : W 37 11 = (j : Int) := by rw [w1 37 (by decide) (by decide)]; exact hm
      refine zb82_37_p8 _ _ (z_ifn (by omega) ?_)
      rw [e11, z_sub_e (by omega)]
      refine z_all (h _ (fun x p q r => by simp (disch := omega) only [zDn, z_up_cell]; exact w1 x q r) (fun x p => by simp (disch := omega) only [zDn, zUp_o, zUp_s]; rw [w1 37 (by decide) (by decide)]) zUp_s (fun s hs => ?_))
      have hw := w2 s (by omega)
      rw [z_up_cell (by decide), z_up_cell (by decide)]
      by_cases c : s < i
      · rw [if_neg (by omega)] at hw
        rw [if_pos c]; exact hw
      · rw [if_pos (by omega)] at hw
        rw [if_neg c]; exact hw
    | succ k ih =>
      intro j W o1 e hj w1 w2
      have e11 : W 37 11 = (m : Int) := by rw [w1 37 (by decide) (by decide)]; exact hm
      refine zb82_37_p8 _ _ (z_ifp (by omega) (z_gp (by omega) (z_all ?_)))
      rw [z_sub_e (by omega), show (j : Int) - 1 = ((j - 1 : Nat) : Int) by omega, z_inc (by omega)]
      refine z_gp (by omega) (z_all (z_gp (by omega) (z_all (z_gp (by omega) (z_all ?_)))))
      rw [Int.toNat_natCast, Int.toNat_natCast]
      refine ih (j + 1) _ _ (by omega) (by omega) (fun x p q => by simp (disch := omega) only [zDn, z_up_cell]; exact w1 x p q) (fun s hs => ?_)
      have h1 := w2 j (by omega)
      rw [if_neg (by omega)] at h1
      by_cases c : s = j - 1
      · subst c
        rw [if_pos (by omega), show j - 1 + 1 = j by omega]
        constructor
        · rw [zUp_o (by omega), zUp_s]; exact h1.1
        · rw [zUp_s, zUp_o (by omega)]; exact h1.2
      · have h2 := w2 s hs
        have e3 : (if i ≤ s ∧ s + 1 < j + 1 then s + 1 else s) = (if i ≤ s ∧ s + 1 < j then s + 1 else s) := by
          by_cases c2 : i ≤ s ∧ s + 1 < j
          · rw [if_pos c2, if_pos (by omega)]
          · rw [if_neg c2, if_neg (by omega)]
        rw [e3]
        constructor
        · simp (disch := omega) only [zDn, zUp_o, zUp_s]; exact h2.1
        · simp (disch := omega) only [zDn, zUp_o, zUp_s]; exact h2.2
  refine zb82_37 _ ?_
  have e1 : z_max (i : Int) 0 = (i : Int) := by unfold z_max; split <;> omega
  rw [e1, z_inc (by omega)]
  refine lp (m - (i + 1)) (i + 1) V _ (by omega) (by omega) (fun _ _ _ => rfl) (fun s hs => ?_)
  rw [if_neg (by omega)]
  exact ⟨rfl, rfl⟩
theorem cm_drop {V : z_M} (hR : zR V) (a : Int) : zPr (d + 6) 112 220 [.inl a] V := by
  have hR2 := hR
  obtain ⟨⟨Λ, hT, hc⟩, r3, r4, r5⟩ := hR2
  obtain ⟨n, R, m, hn, hRr, hm, n12, R6, m7⟩ := zR_nat hT
  have a0 := zT_0 hT
  have a1 := zT_1 hT
  have a4 := zT_4 hT
  have b2 := zT_2 hT
  have b3 := zT_3 hT
  have b5 := zT_5 hT
  have b6 := zT_6 hT
  have b7 := zT_7 hT
  have e11 : V 37 11 = (m : Int) := by omega
  refine zb112_36 _ ?_
  rw [e11, z_sub_e (by omega)]
  refine sp133 (d := d + 4) (fun h1 => z_ifn (by decide) ?_) (fun h1 => z_ifp rfl (sp130 (d := d + 3) (by decide) ?_))
  rotate_left
  · have fin := zR_rf (e := -2) (by decide) hR
    refine zb220_141 _ (z_all ?_)
    rw [show z_up (zRf (-2) V) 141 0 0 143 4 = V 143 4 from rfl, z_lsub_e (by omega)]
    exact sp145 (d := d + 4) (fun q => absurd (by omega) h1) (fun q => z_ifp rfl (sp149 (d := d + 4) (by decide) ⟨rfl, fin⟩))
  obtain ⟨i, rfl⟩ := Int.eq_ofNat_of_zero_le h1.1
  refine sp82 (d := d + 4) (m := m) (i := i) e11 m7 (by omega) (fun W w1 w2 w3 w4 => ?_)
  rw [w3]
  refine sp131 (d := d + 4) ?_
  have e143 : z_up (zDn W) 141 0 0 143 = V 143 := by simp (disch := omega) only [zDn, z_up_cell]; exact w1 143 (by decide) (by decide) (by decide)
  refine zb220_141 _ (z_all ?_)
  rw [e143, z_lsub_e (by omega)]
  refine sp145 (d := d + 4) (fun _ => z_ifn (by decide) ?_) (fun q => absurd (by omega) q)
  have i0 : z_add 68 (z_mul 2 (i : Int)) = ((68 + 2 * i : Nat) : Int) := by simp (disch := omega) only [z_mul_e, z_add_e, z_sub_e]; omega
  rw [i0]
  generalize hU : z_up (zDn W) 141 0 0 = U at e143
  have lp : ∀ (k j : Nat) (X : z_M) (o1 : Option z_V), j + k = 80 → 68 + 2 * i ≤ j → (∀ x, ¬ x = 143 → X x = U x) → (∀ s, X 143 s = V 143 (if 68 + 2 * i ≤ s ∧ s < j then s + 2 else s)) → z_Ex (z_MS (d + 5)) 220 (fun z2 X => z2 = (m : Int) - 1 ∧ zR X) true 37 [some (.inr (.inr 141)), o1, some (.inl (j : Int))] [] 0 0 X := by
    intro k
    induction k with
    | zero =>
      intro j X o1 e hj x1 x2
      have e2 : j = 80 := by omega
      subst e2
      refine zb220_141_p37 _ _ (z_ifn (by omega) ?_)
      rw [x2 4, if_neg (by omega), hm, z_sub_e (by omega)]
      refine z_all ?_
      rw [zUp_s]
      refine sp149p (d := d + 4) (by omega) ⟨rfl, ?_⟩
      have r4 : z_up (z_up X 143 4 ((m : Int) - 1)) 141 1 0 143 4 = (m : Int) - 1 := by simp (disch := omega) only [zDn, zUp_o, zUp_s]
      have rr : ∀ s, ¬ s = 4 → z_up (z_up X 143 4 ((m : Int) - 1)) 141 1 0 143 s = V 143 (if 68 + 2 * i ≤ s ∧ s < 80 then s + 2 else s) := fun s hs => by simp (disch := omega) only [zDn, zUp_o, zUp_s]; exact x2 s
      have r0 : ∀ s, ¬ s = 4 → ¬ (68 ≤ s ∧ s < 80) → z_up (z_up X 143 4 ((m : Int) - 1)) 141 1 0 143 s = V 143 s := fun s hs h2 => by rw [rr s hs, if_neg (by omega)]
      have yc : ∀ x, ¬ x = 36 → ¬ x = 37 → ¬ x = 49 → ¬ x = 50 → ¬ x = 119 → ¬ x = 123 → ¬ x = 141 → ¬ x = 143 → z_up (z_up X 143 4 ((m : Int) - 1)) 141 1 0 x = V x := by
        intro x p1 p2 p3 p4 p5 p6 p7 p8
        rw [z_up_cell p7, z_up_cell p8, x1 x p8, ← hU]
        simp (disch := omega) only [zDn, z_up_cell]
        exact w1 x p2 p3 p4
      have yd : ∀ x, ¬ x = 141 → ¬ x = 143 → z_up (z_up X 143 4 ((m : Int) - 1)) 141 1 0 x = zDn W x := fun x p q => by
        rw [z_up_cell p, z_up_cell q, x1 x q, ← hU, z_up_cell p]
      have y36 : ∀ k, ¬ k = 15 → z_up (z_up X 143 4 ((m : Int) - 1)) 141 1 0 36 k = V 36 k := fun k hk => by
        rw [yd 36 (by decide) (by decide)]; simp (disch := omega) only [zDn, zUp_o, zUp_s]; rw [w1 36 (by decide) (by decide) (by decide)]
      have y37 : ∀ k, ¬ k = 11 → z_up (z_up X 143 4 ((m : Int) - 1)) 141 1 0 37 k = V 37 k := fun k hk => by
        rw [yd 37 (by decide) (by decide)]; simp (disch := omega) only [zDn, zUp_o, zUp_s]; exact w2 k hk
      refine zR_dn hR (Λ := Λ) ?_ (fun x hx => by unfold zKd at hx; exact yc x (by omega) (by omega) (by omega) (by omega) (by omega) (by omega) (by omega) (by omega)) (fun k hk hk1 => by
        unfold zKf at hk
        simp (disch := omega) only [zDn, zUp_o, zUp_s]
        rw [x1 141 (by decide), ← hU]
        simp (disch := omega) only [zDn, zUp_o, zUp_s]
        rw [w1 141 (by decide) (by decide) (by decide)]) (y36 13 (by decide)) (y36 14 (by decide)) (by rw [yd 36 (by decide) (by decide)]; simp (disch := omega) only [zDn, zUp_o, zUp_s]) (by rw [yd 119 (by decide) (by decide)]; simp (disch := omega) only [zDn, zUp_o, zUp_s]) (by rw [yd 123 (by decide) (by decide)]; simp (disch := omega) only [zDn, zUp_o, zUp_s])
      refine zT_mk hT (fun k hk => r0 k (by omega) (by omega)) (r0 2 (by omega) (by omega)) (yc 0 (by decide) (by decide) (by decide) (by decide) (by decide) (by decide) (by decide) (by decide)) (y37 9 (by decide)) (yc 47 (by decide) (by decide) (by decide) (by decide) (by decide) (by decide) (by decide) (by decide)) (fun x hx => yc x (by omega) (by omega) (by omega) (by omega) (by omega) (by omega) (by omega) (by omega)) (by rw [r0 0 (by omega) (by omega), y37 7 (by decide)]; exact a0) (by rw [r0 1 (by omega) (by omega), y37 8 (by decide)]; exact a1) (by rw [r0 3 (by omega) (by omega), r0 2 (by omega) (by omega), y37 10 (by decide)]; exact b3) ⟨by rw [r4, yd 37 (by decide) (by decide)]; simp (disch := omega) only [zDn, zUp_o, zUp_s]; exact w3, by rw [r4]; omega, by rw [r4]; omega⟩ (by rw [r0 5 (by omega) (by omega), y37 12 (by decide)]; exact b5) (by rw [r0 6 (by omega) (by omega), yc 46 (by decide) (by decide) (by decide) (by decide) (by decide) (by decide) (by decide) (by decide)]; exact b6) (by rw [r0 7 (by omega) (by omega), yc 46 (by decide) (by decide) (by decide) (by decide) (by decide) (by decide) (by decide) (by decide)]; exact b7)
        (zT_ct hT (r0 0 (by omega) (by omega)) (fun k p q => r0 k (by omega) (by omega)) (fun x p q => yc x (by omega) (by omega) (by omega) (by omega) (by omega) (by omega) (by omega) (by omega)))
        (zT_cr hT (r0 1 (by omega) (by omega)) (fun k p q => r0 k (by omega) (by omega)) (fun x p q => yc x (by omega) (by omega) (by omega) (by omega) (by omega) (by omega) (by omega) (by omega)))
        (fun s hs => ?_)
        (zT_co hT (r0 5 (by omega) (by omega)) (fun k p q => r0 k (by omega) (by omega)) (yc 51 (by decide) (by decide) (by decide) (by decide) (by decide) (by decide) (by decide) (by decide)))
      rw [r4] at hs
      have hw := w4 s (by omega)
      rw [yd (37 + 12) (by omega) (by omega), yd (37 + 13) (by omega) (by omega), rr (68 + 2 * s) (by omega), rr (69 + 2 * s) (by omega), r0 0 (by omega) (by omega), r0 1 (by omega) (by omega)]
      rw [show zDn W (37 + 12) s = W 49 s from rfl, show zDn W (37 + 13) s = W 50 s from rfl, hw.1, hw.2]
      by_cases c : s < i
      · rw [if_pos c, if_neg (by omega), if_neg (by omega)]
        exact zT_a hT (a := s) (by omega)
      · rw [if_neg c, if_pos (by omega), if_pos (by omega), show 68 + 2 * s + 2 = 68 + 2 * (s + 1) by omega, show 69 + 2 * s + 2 = 69 + 2 * (s + 1) by omega]
        exact zT_a hT (a := s + 1) (by omega)
    | succ k ih =>
      intro j X o1 e hj x1 x2
      refine zb220_141_p37 _ _ (z_ifp (by omega) ?_)
      rw [show z_add (j : Int) 2 = ((j + 2 : Nat) : Int) by simp (disch := omega) only [z_mul_e, z_add_e, z_sub_e]; omega, z_inc (by omega)]
      refine z_gp (by omega) (z_all (z_gp (by omega) (z_all ?_)))
      rw [Int.toNat_natCast, Int.toNat_natCast, x2 (j + 2), if_neg (by omega)]
      refine ih (j + 1) _ _ (by omega) (by omega) (fun x p => by simp (disch := omega) only [zDn, z_up_cell]; exact x1 x p) (fun s => ?_)
      by_cases c : s = j
      · subst c
        rw [zUp_s, if_pos (by omega)]
      · rw [zUp_o (by omega), x2 s]
        congr 1
        by_cases c2 : 68 + 2 * i ≤ s ∧ s < j
        · rw [if_pos c2, if_pos (by omega)]
        · rw [if_neg c2, if_neg (by omega)]
  refine lp (80 - (68 + 2 * i)) (68 + 2 * i) U _ (by omega) (by omega) (fun _ _ => rfl) (fun s => ?_)
  rw [e143, if_neg (by omega)]
end
