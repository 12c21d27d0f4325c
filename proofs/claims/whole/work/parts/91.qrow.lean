/-! row -/
theorem zUp_same {V : z_M} {a k : Nat} {v : Int} (h : V a k = v) : z_up V a k v = V := by
  funext b j
  rw [z_up_rd]
  by_cases c : b = a
  · by_cases c2 : j = k
    · rw [if_pos c, if_pos c2, c, c2]; exact h.symm
    · rw [if_pos c, if_neg c2]
  · rw [if_neg c]
section
variable {d : Nat} {Q : Int → z_M → Prop}
theorem cm_row {V : z_M} (hR : zR V) : zPr (d + 6) 100 168 [] V := by
  have hR2 := hR
  obtain ⟨⟨Λ, hT, hc⟩, r3, r4, r5⟩ := hR2
  obtain ⟨n, R, m, hn, hRr, hm, n12, R6, m7⟩ := zR_nat hT
  have a0 := zT_0 hT
  have a1 := zT_1 hT
  have a4 := zT_4 hT
  have b2 := zT_2 hT
  have b3 := zT_3 hT
  have b5 := zT_5 hT
  have b6 := zT_6 hT
  have b7 := zT_7 hT
  obtain ⟨m1, ⟨t1, t2, t3, t4⟩, m3, m4, m5, m6, m7, m8, m9⟩ := id r5
  obtain ⟨L, hL⟩ := Int.eq_ofNat_of_zero_le t2
  refine zb100_36 (z_ifc (fun c => sp130 (d := d + 3) (by decide) ?_) (fun c => z_all ?_))
  · have h8 : z_up (zRf (-6) V) 141 0 0 141 8 = 0 := by show V 141 8 = 0; omega
    refine zb168_141 (z_all (z_all ?_))
    rw [zUp_same h8]
    exact z_ifp h8 (sp149 (d := d + 4) (by decide) ⟨rfl, zR_rf (e := -6) (by decide) hR⟩)
  have e37 : V 37 7 = (n : Int) := by omega
  have hD : ∀ t w : Nat, t < n → w < 4 → zBk w ((fun t w : Nat => V 143 (8 + 4 * t + w)) t w) := fun t w ht hw => by
    have pt := zT_t hT (t := t) (by omega)
    show zBk w (V 143 (8 + 4 * t + w))
    unfold zBk
    rcases (show w = 0 ∨ w = 1 ∨ w = 2 ∨ w = 3 by omega) with rfl | rfl | rfl | rfl
    · rw [show 8 + 4 * t + 0 = 8 + 4 * t by omega]; omega
    · rw [show 8 + 4 * t + 1 = 9 + 4 * t by omega]; omega
    · rw [show 8 + 4 * t + 2 = 10 + 4 * t by omega]; omega
    · rw [show 8 + 4 * t + 3 = 11 + 4 * t by omega]; omega
  have hD0 : ∀ t w : Nat, t < n → w < 4 → V (39 + w) t = V 143 (8 + 4 * t + w) := fun t w ht hw => by
    have pt := zT_t hT (t := t) (by omega)
    rcases (show w = 0 ∨ w = 1 ∨ w = 2 ∨ w = 3 by omega) with rfl | rfl | rfl | rfl
    · exact pt.1
    · rw [show 8 + 4 * t + 1 = 9 + 4 * t by omega]; exact pt.2.1
    · rw [show 8 + 4 * t + 2 = 10 + 4 * t by omega]; exact pt.2.2.1
    · rw [show 8 + 4 * t + 3 = 11 + 4 * t by omega]; exact pt.2.2.2.1
  refine lp100 (d := d + 2) (V := z_up V 36 13 0) (n := n) (L := L) (D := fun t w => V 143 (8 + 4 * t + w)) (fun a p q => by rw [z_up_cell (by omega)]; exact m1 a p q) n12 (by rw [z_up_cell (by decide)]; exact hL) (by omega) hD (fun W N hN1 hN2 hx => ?_) 135 0 (z_up V 36 13 0) (by omega) (Or.inl rfl) ⟨fun _ _ _ _ => rfl, fun _ _ => rfl, rfl, fun _ _ => rfl, by rw [z_up_cell (by decide)]; exact e37, fun t w ht hw => by rw [z_up_cell (by omega)]; exact hD0 t w ht hw⟩
  obtain ⟨x1, x2, x3, x4, x5, x6⟩ := hx
  have e88 : z_up V 36 13 0 88 = V 88 := z_up_cell (by decide)
  rw [e88] at x3 x5 x6 ⊢
  have xv : ∀ x, ¬ x = 36 → ¬ x = 37 → ¬ (39 ≤ x ∧ x ≤ 42) → W x = V x := fun x p q r => by rw [x1 x p q r, z_up_cell p]
  have e0 : zDn (z_up W 87 1 0) 141 = V 141 := by simp (disch := omega) only [zDn, z_up_cell]; exact xv 141 (by decide) (by decide) (by omega)
  have e3 : zDn (z_up W 87 1 0) 143 = V 143 := by simp (disch := omega) only [zDn, z_up_cell]; exact xv 143 (by decide) (by decide) (by omega)
  have e146 : zDn (z_up W 87 1 0) 146 = V 146 := by simp (disch := omega) only [zDn, z_up_cell]; exact xv 146 (by decide) (by decide) (by omega)
  generalize hU0 : zDn (z_up W 87 1 0) = U0 at e0 e3 e146 ⊢
  have e8 : z_up U0 141 0 0 141 8 = (L : Int) := by rw [zUp_o (by omega), e0]; omega
  refine zb168_141 (z_all (z_all ?_))
  rw [e8]
  refine z_ifn (by omega) (z_all ?_)
  generalize hU : z_up (z_up (z_up U0 141 0 0) 141 8 0) 141 6 0 = U
  have uc : ∀ x, ¬ x = 141 → U x = U0 x := fun x p => by rw [← hU]; simp (disch := omega) only [zDn, z_up_cell]
  refine lp168 (d := d + 2) (V := U) (n := n) (L := L) (D := fun t w => V 143 (8 + 4 * t + w)) (B := V 88) n12 (by omega) (fun j hj => by rw [uc 146 (by decide), e146]; exact (t4 j (by omega)).1.symm) hD (fun X N2 hM1 hM2 hy => ?_) 135 0 U none (by omega) (Or.inl rfl) ⟨fun _ _ _ => rfl, fun _ _ => rfl, by rw [← hU]; rfl, by rw [uc 143 (by decide), e3]; exact hn, fun _ _ _ => rfl, fun t w ht hw => by rw [uc 143 (by decide), e3]; rfl⟩
  have eN : N2 = N := by omega
  subst eN
  refine ⟨rfl, ?_⟩
  obtain ⟨bb1, bb2, bb3⟩ := zRw_b (B := V 88) (L := L) n12 hD N2
  obtain ⟨y1, y2, y3, y4, y5, y6⟩ := hy
  generalize hst : zRw (V 88) L n (fun t w => V 143 (8 + 4 * t + w)) N2 = st at x3 x5 x6 y3 y4 y6 bb1 bb2 bb3
  obtain ⟨cn, Dn⟩ := st
  have x3 : W 36 13 = (N2 : Int) - (cn : Int) := x3
  have x5 : W 37 7 = ((n + cn : Nat) : Int) := x5
  have x6 : ∀ t w, t < n + cn → w < 4 → W (39 + w) t = Dn t w := x6
  have y3 : X 141 6 = (N2 : Int) - (cn : Int) := y3
  have y4 : X 143 0 = ((n + cn : Nat) : Int) := y4
  have y6 : ∀ t w, t < n + cn → w < 4 → X 143 (8 + 4 * t + w) = Dn t w := y6
  have bb2 : n + cn ≤ 12 := bb2
  have bb3 : ∀ t w : Nat, t < n + cn → w < 4 → zBk w (Dn t w) := bb3
  -- what the cells are at last
  have zc : ∀ x, ¬ x = 141 → ¬ x = 143 → z_up X 141 1 0 x = U0 x := fun x p q => by rw [z_up_cell p, y1 x p q, uc x p]
  have ww : ∀ x, ¬ x = 36 → ¬ x = 37 → ¬ (39 ≤ x ∧ x ≤ 42) → ¬ x = 87 → ¬ x = 119 → ¬ x = 123 → ¬ x = 141 → ¬ x = 143 → z_up X 141 1 0 x = V x := fun x p1 p2 p3 p4 p5 p6 p7 p8 => by
    rw [zc x p7 p8, ← hU0]
    simp (disch := omega) only [zDn, z_up_cell]
    exact xv x p1 p2 p3
  have z37 : z_up X 141 1 0 37 = W 37 := by rw [zc 37 (by decide) (by decide), ← hU0]; simp (disch := omega) only [zDn, z_up_cell]
  have zt : ∀ x, 39 ≤ x → x ≤ 42 → z_up X 141 1 0 x = W x := fun x p q => by rw [zc x (by omega) (by omega), ← hU0]; simp (disch := omega) only [zDn, z_up_cell]
  have z36 : ∀ k, ¬ k = 15 → z_up X 141 1 0 36 k = W 36 k := fun k hk => by rw [zc 36 (by decide) (by decide), ← hU0]; simp (disch := omega) only [zDn, zUp_o, zUp_s]
  have z3 : z_up X 141 1 0 36 15 = 0 ∧ z_up X 141 1 0 119 1 = 0 ∧ z_up X 141 1 0 123 1 = 0 ∧ z_up X 141 1 0 87 1 = 0 := by
    refine ⟨?_, ?_, ?_, ?_⟩ <;> (rw [zc _ (by decide) (by decide), ← hU0]; simp (disch := omega) only [zDn, zUp_o, zUp_s])
  have r0 : ∀ k, ¬ k = 0 → (k < 8 ∨ 56 ≤ k) → z_up X 141 1 0 143 k = V 143 k := fun k hk h2 => by rw [z_up_cell (by decide), y5 k hk h2, uc 143 (by decide), e3]
  have r1 : z_up X 141 1 0 143 0 = ((n + cn : Nat) : Int) := by rw [z_up_cell (by decide)]; exact y4
  have z141 : ∀ k, ¬ k = 1 → ¬ k = 6 → z_up X 141 1 0 141 k = if k = 8 then 0 else if k = 0 then 0 else V 141 k := fun k k1 k6 => by
    rw [zUp_o (by omega), y2 k k6, ← hU]
    by_cases c8 : k = 8
    · subst c8; rfl
    · rw [if_neg c8]
      by_cases c0 : k = 0
      · subst c0; rfl
      · rw [if_neg c0]; simp (disch := omega) only [zDn, zUp_o, zUp_s]; rw [e0]
  have z141a : z_up X 141 1 0 141 1 = 0 ∧ z_up X 141 1 0 141 6 = (N2 : Int) - (cn : Int) := ⟨zUp_s, by rw [zUp_o (by omega)]; exact y3⟩
  have hl : ∀ a, 169 ≤ a → z_up X 141 1 0 a = V a := fun a ha => ww a (by omega) (by omega) (by omega) (by omega) (by omega) (by omega) (by omega) (by omega)
  have h0 := ww 0 (by omega) (by omega) (by omega) (by omega) (by omega) (by omega) (by omega) (by omega)
  refine ⟨⟨Λ, ?_, fun _ _ _ _ _ _ => ⟨Or.inl z3.2.1, Or.inl z3.2.2.1⟩⟩, zRi_c r3 h0 (ww 86 (by omega) (by omega) (by omega) (by omega) (by omega) (by omega) (by omega) (by omega)) (ww 145 (by omega) (by omega) (by omega) (by omega) (by omega) (by omega) (by omega) (by omega)) (ww 144 (by omega) (by omega) (by omega) (by omega) (by omega) (by omega) (by omega) (by omega)) (fun a x y => ww a (by omega) (by omega) (by omega) (by omega) (by omega) (by omega) (by omega) (by omega)) hl, zRi_c r4 h0 (ww 86 (by omega) (by omega) (by omega) (by omega) (by omega) (by omega) (by omega) (by omega)) (ww 145 (by omega) (by omega) (by omega) (by omega) (by omega) (by omega) (by omega) (by omega)) (ww 144 (by omega) (by omega) (by omega) (by omega) (by omega) (by omega) (by omega) (by omega)) (fun a x y => ww a (by omega) (by omega) (by omega) (by omega) (by omega) (by omega) (by omega) (by omega)) hl, ?_⟩
  · refine zT_mk hT (fun k hk => r0 k (by omega) (by omega)) (r0 2 (by omega) (by omega)) h0 (by rw [z37, x4 9 (by decide), z_up_cell (by decide)]) (ww 47 (by omega) (by omega) (by omega) (by omega) (by omega) (by omega) (by omega) (by omega)) hl ⟨by rw [z37, r1]; exact x5, by rw [r1]; omega, by rw [r1]; omega⟩ (by rw [r0 1 (by omega) (by omega), z37, x4 8 (by decide), z_up_cell (by decide)]; exact a1) (by rw [r0 3 (by omega) (by omega), r0 2 (by omega) (by omega), z37, x4 10 (by decide), z_up_cell (by decide)]; exact b3) (by rw [r0 4 (by omega) (by omega), z37, x4 11 (by decide), z_up_cell (by decide)]; exact a4) (by rw [r0 5 (by omega) (by omega), z37, x4 12 (by decide), z_up_cell (by decide)]; exact b5) (by rw [r0 6 (by omega) (by omega), ww 46 (by omega) (by omega) (by omega) (by omega) (by omega) (by omega) (by omega) (by omega)]; exact b6) (by rw [r0 7 (by omega) (by omega), ww 46 (by omega) (by omega) (by omega) (by omega) (by omega) (by omega) (by omega) (by omega)]; exact b7)
      (fun t ht => ?_)
      (zT_cr hT (r0 1 (by omega) (by omega)) (fun k p q => r0 k (by omega) (by omega)) (fun x p q => ww x (by omega) (by omega) (by omega) (by omega) (by omega) (by omega) (by omega) (by omega)))
      (zT_ca hT (r0 4 (by omega) (by omega)) (by rw [r1]; omega) (by rw [r0 1 (by omega) (by omega)]; omega) (fun k p q => r0 k (by omega) (by omega)) (fun x p q => ww x (by omega) (by omega) (by omega) (by omega) (by omega) (by omega) (by omega) (by omega)))
      (zT_co hT (r0 5 (by omega) (by omega)) (fun k p q => r0 k (by omega) (by omega)) (ww 51 (by omega) (by omega) (by omega) (by omega) (by omega) (by omega) (by omega) (by omega)))
    rw [r1] at ht
    have ht : t < n + cn := by omega
    have g0 := x6 t 0 ht (by decide)
    have g1 := x6 t 1 ht (by decide)
    have g2 := x6 t 2 ht (by decide)
    have g3 := x6 t 3 ht (by decide)
    have f0 := y6 t 0 ht (by decide)
    have f1 := y6 t 1 ht (by decide)
    have f2 := y6 t 2 ht (by decide)
    have f3 := y6 t 3 ht (by decide)
    rw [show 8 + 4 * t + 0 = 8 + 4 * t by omega] at f0
    rw [show 8 + 4 * t + 1 = 9 + 4 * t by omega] at f1
    rw [show 8 + 4 * t + 2 = 10 + 4 * t by omega] at f2
    rw [show 8 + 4 * t + 3 = 11 + 4 * t by omega] at f3
    have k0 := bb3 t 0 ht (by decide)
    have k1 := bb3 t 1 ht (by decide)
    have k2 := bb3 t 2 ht (by decide)
    have k3 := bb3 t 3 ht (by decide)
    unfold zBk at k0 k1 k2 k3
    rw [zt (37 + 2) (by omega) (by omega), zt (37 + 3) (by omega) (by omega), zt (37 + 4) (by omega) (by omega), zt (37 + 5) (by omega) (by omega), z_up_cell (by decide), f0, f1, f2, f3]
    exact ⟨g0, g1, g2, g3, by omega, by omega, by omega, by omega, by omega, by omega, by omega, by omega⟩
  · unfold zRm
    rw [z3.2.2.2, z141 8 (by decide) (by decide), z36 13 (by decide), z36 14 (by decide), z3.1, z141a.1, z141a.2, z141 13 (by decide) (by decide), z141 55 (by decide) (by decide), h0, ww 140 (by omega) (by omega) (by omega) (by omega) (by omega) (by omega) (by omega) (by omega), ww 142 (by omega) (by omega) (by omega) (by omega) (by omega) (by omega) (by omega) (by omega), ww 134 (by omega) (by omega) (by omega) (by omega) (by omega) (by omega) (by omega) (by omega), ww 152 (by omega) (by omega) (by omega) (by omega) (by omega) (by omega) (by omega) (by omega), ww 168 (by omega) (by omega) (by omega) (by omega) (by omega) (by omega) (by omega) (by omega), x3, x2 14 (by decide)]
    refine ⟨fun a x y => by rw [ww a (by omega) (by omega) (by omega) (by omega) (by omega) (by omega) (by omega) (by omega)]; exact m1 a x y, ⟨rfl, by decide, by decide, fun j hj => absurd hj (by omega)⟩, rfl, ?_, rfl, m6, ⟨m7.1, m7.2.1, m7.2.2.1, fun w i hw hi => ?_⟩, m8, m9⟩
    · exact m4
    · rw [ww (136 + w) (by omega) (by omega) (by omega) (by omega) (by omega) (by omega) (by omega) (by omega)]
      exact m7.2.2.2 w i hw hi
end
