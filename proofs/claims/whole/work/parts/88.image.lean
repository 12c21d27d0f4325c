/-! image, back -/
theorem zT_rho {b : Nat} {ρ ρ' : Nat → Int} {V : z_M} {Λ : Nat → (Nat → Int) → Int} (hT : zT b ρ V Λ) (h : ∀ i, i < 5490 → ρ' i = ρ i) : zT b ρ' V Λ := by
  have a0 := zT_0 hT
  have a1 := zT_1 hT
  have a2 := zT_2 hT
  have a3 := zT_3 hT
  have a4 := zT_4 hT
  have a5 := zT_5 hT
  have a6 := zT_6 hT
  have a7 := zT_7 hT
  unfold zT
  rw [h 0 (by omega), h 1 (by omega), h 2 (by omega), h 3 (by omega), h 4 (by omega), h 5 (by omega), h 6 (by omega), h 7 (by omega)]
  refine ⟨a0, a1, a2, a3, a4, a5, a6, a7, fun t ht => ?_, fun r hr => ?_, fun s hs => ?_, fun k hk => ?_, zT_ls hT, fun l hl => ?_⟩
  · rw [h (8 + 4 * t) (by omega), h (9 + 4 * t) (by omega), h (10 + 4 * t) (by omega), h (11 + 4 * t) (by omega)]
    exact zT_t hT ht
  · rw [h (56 + 2 * r) (by omega), h (57 + 2 * r) (by omega)]
    exact zT_r hT hr
  · rw [h (68 + 2 * s) (by omega), h (69 + 2 * s) (by omega)]
    exact zT_a hT hs
  · rw [h (82 + k) (by omega)]
    exact zT_o hT hk
  · obtain ⟨q, x1, x2, x3, x4⟩ := zT_l hT hl
    refine ⟨q, x1, x2, x3, ?_⟩
    unfold zLm at x4 ⊢
    obtain ⟨n, hd, Fs, Ft, ts, y1, y2, y3, y4, y5⟩ := x4
    refine ⟨n, hd, Fs, Ft, ts, y1, y2, y3, by rw [h _ (by omega)]; exact y4, fun c hcn => ?_⟩
    obtain ⟨u1, u2, u3, u4, u5⟩ := y5 c hcn
    rw [h (92 + 900 * l + 8 * c) (by omega), h (95 + 900 * l + 8 * c) (by omega), h (96 + 900 * l + 8 * c) (by omega), h (97 + 900 * l + 8 * c) (by omega), h (98 + 900 * l + 8 * c) (by omega)]
    refine ⟨u1, u2, fun q => ?_, fun q => ?_, u5⟩
    · obtain ⟨s, e, v1, v2, v3, v4⟩ := u3 q
      exact ⟨s, e, v1, v2, v3, zSeg_congr (fun k k1 k2 => ⟨(h _ (by omega)).symm, (h _ (by omega)).symm⟩) (Nat.le_refl _) v4⟩
    · obtain ⟨s, e, v1, v2, v3, v4⟩ := u4 q
      exact ⟨s, e, v1, v2, v3, zSeg_congr (fun k k1 k2 => ⟨(h _ (by omega)).symm, (h _ (by omega)).symm⟩) (Nat.le_refl _) v4⟩
def zKe (a : Nat) : Prop := a = 0 ∨ (2 ≤ a ∧ a < 36) ∨ a = 87 ∨ a = 88 ∨ (134 ≤ a ∧ a ≤ 138) ∨ a = 140 ∨ a = 142 ∨ a = 146 ∨ a = 152 ∨ a = 168
theorem zRm_c {V X : z_M} (hR : zRm V) (c : ∀ a, zKe a → X a = V a) (hf : ∀ k, zKf k → ¬ k = 1 → X 141 k = V 141 k) (h13 : X 36 13 = V 36 13) (h14 : X 36 14 = V 36 14) (h15 : X 36 15 = X 141 1) : zRm X := by
  obtain ⟨m1, m2, m3, m4, m5, m6, m7, m8, m9⟩ := hR
  unfold zRm
  rw [c 87 (by unfold zKe; omega), c 88 (by unfold zKe; omega), c 134 (by unfold zKe; omega), c 140 (by unfold zKe; omega), c 142 (by unfold zKe; omega), c 146 (by unfold zKe; omega), c 168 (by unfold zKe; omega), c 152 (by unfold zKe; omega), c 0 (by unfold zKe; omega), hf 8 (by unfold zKf; omega) (by omega), hf 6 (by unfold zKf; omega) (by omega), hf 13 (by unfold zKf; omega) (by omega), hf 55 (by unfold zKf; omega) (by omega), h13, h14]
  refine ⟨fun a x y => by rw [c a (by unfold zKe; omega)]; exact m1 a x y, m2, m3, m4, h15, m6, ⟨m7.1, m7.2.1, m7.2.2.1, fun w i hw hi => ?_⟩, m8, m9⟩
  rw [c (136 + w) (by unfold zKe; omega)]
  exact m7.2.2.2 w i hw hi
section
variable {d : Nat} {Q : Int → z_M → Prop}
theorem lp152 {U : z_M} {k : Nat} (hk : k < 2) (h : ∀ X, (∀ x, ¬ x = 144 → X x = U x) → (∀ s, s < 5490 → X 144 (5490 * k + s) = U 143 s) → (∀ i, (i < 5490 * k ∨ 5490 * k + 5490 ≤ i) → X 144 i = U 144 i) → Q 0 (z_up (z_up X 145 k 1) 141 1 0)) : z_Ex (z_MS (d + 1)) 152 Q true 23 [some (.inr (.inr 141)), some (.inl (k : Int)), some (.inl 0)] [] 0 0 U := by
  have lp : ∀ (m j : Nat) (X : z_M), j + m = 5490 → (∀ x, ¬ x = 144 → X x = U x) → (∀ s, s < j → X 144 (5490 * k + s) = U 143 s) → (∀ i, (i < 5490 * k ∨ 5490 * k + 5490 ≤ i) → X 144 i = U 144 i) → z_Ex (z_MS (d + 1)) 152 Q true 23 [some (.inr (.inr 141)), some (.inl (k : Int)), some (.inl (j : Int))] [] 0 0 X := by
    intro m
    induction m with
    | zero =>
      intro j X e x1 x2 x3
      refine zb152_141_p23 _ _ (z_ifn (by omega) (z_gp (by omega) (z_all (sp149p (d := d) (by decide) ?_))))
      rw [Int.toNat_natCast]
      exact h X x1 (fun s hs => x2 s (by omega)) x3
    | succ m ih =>
      intro j X e x1 x2 x3
      have ei : z_add (z_mul 5490 (k : Int)) (j : Int) = ((5490 * k + j : Nat) : Int) := by simp (disch := omega) only [z_mul_e, z_add_e, z_sub_e]; omega
      refine zb152_141_p23 _ _ (z_ifp (by omega) (z_gp (by omega) (z_all ?_)))
      rw [ei, z_inc (by omega)]
      refine z_gp (by omega) (z_all ?_)
      rw [Int.toNat_natCast, Int.toNat_natCast]
      refine ih (j + 1) _ (by omega) (fun x hx => by rw [z_up_cell hx]; exact x1 x hx) (fun s hs => ?_) (fun i hi => by rw [zUp_o (by omega)]; exact x3 i hi)
      by_cases c : s = j
      · subst c; rw [zUp_s, x1 143 (by decide)]
      · rw [zUp_o (by omega)]; exact x2 s (by omega)
  exact lp 5490 0 U (by omega) (fun _ _ => rfl) (fun s hs => absurd hs (Nat.not_lt_zero s)) (fun _ _ => rfl)
theorem lp153 {U : z_M} {k : Nat} (hk : k < 2) (h : ∀ X, (∀ x, ¬ x = 143 → X x = U x) → (∀ s, s < 5490 → X 143 s = U 144 (5490 * k + s)) → Q 0 (z_up X 141 1 0)) : z_Ex (z_MS (d + 1)) 153 Q true 39 [some (.inr (.inr 141)), some (.inl (k : Int)), some (.inl 0)] [] 0 0 U := by
  have lp : ∀ (m j : Nat) (X : z_M), j + m = 5490 → (∀ x, ¬ x = 143 → X x = U x) → (∀ s, s < j → X 143 s = U 144 (5490 * k + s)) → z_Ex (z_MS (d + 1)) 153 Q true 39 [some (.inr (.inr 141)), some (.inl (k : Int)), some (.inl (j : Int))] [] 0 0 X := by
    intro m
    induction m with
    | zero =>
      intro j X e x1 x2
      exact zb153_141_p39 _ _ (z_ifn (by omega) (sp149p (d := d) (by decide) (h X x1 (fun s hs => x2 s (by omega)))))
    | succ m ih =>
      intro j X e x1 x2
      have ei : z_add (z_mul 5490 (k : Int)) (j : Int) = ((5490 * k + j : Nat) : Int) := by simp (disch := omega) only [z_mul_e, z_add_e, z_sub_e]; omega
      refine zb153_141_p39 _ _ (z_ifp (by omega) ?_)
      rw [ei, z_inc (by omega)]
      refine z_gp (by omega) (z_all (z_gp (by omega) (z_all ?_)))
      rw [Int.toNat_natCast, Int.toNat_natCast]
      refine ih (j + 1) _ (by omega) (fun x hx => by rw [z_up_cell hx]; exact x1 x hx) (fun s hs => ?_)
      by_cases c : s = j
      · subst c; rw [zUp_s, x1 144 (by decide)]
      · rw [zUp_o (by omega)]; exact x2 s (by omega)
  exact lp 5490 0 U (by omega) (fun _ _ => rfl) (fun s hs => absurd hs (Nat.not_lt_zero s))
theorem cm_image {V : z_M} (hR : zR V) (k : Int) : zPr (d + 4) 126 152 [.inl k] V := by
  have hR2 := hR
  obtain ⟨⟨Λ, hT, hc⟩, r3, r4, r5⟩ := hR2
  obtain ⟨n, R, m, hn, hRr, hm, n12, R6, m7⟩ := zR_nat hT
  have a0 := zT_0 hT
  have a1 := zT_1 hT
  have a4 := zT_4 hT
  refine zb126_36 _ (sp133 (d := d + 2) (fun h => z_ifn (by decide) ?_) (fun h => z_ifp rfl (sp130 (d := d + 1) (by decide) (zb152_141 _ (z_all (sp145 (d := d + 2) (fun q => absurd q h) (fun _ => z_ifp rfl (sp149 (d := d + 2) (by decide) ⟨rfl, zR_rf (e := -1) (by decide) hR⟩))))))))
  have hk : k = 0 ∨ k = 1 := by omega
  rcases hk with rfl | rfl
  · refine z_gp (by decide) (z_all ?_)
    rw [show z_rr true V 53 (Int.toNat 0) = 54 from rfl]
    refine z_gp (by decide) (sp73_54_37 (d := d + 1) (zT_ls hT) (fun W hW => z_gp (by decide) (z_all (sp131 (d := d + 2) ?_))))
    have hTW := zCy_T hT (by decide) (by decide) hW
    have w1 := hW.1
    refine zb152_141 _ (z_all (sp145 (d := d + 2) (fun _ => z_ifn (by decide) ?_) (fun q => absurd h q)))
    refine lp152 (d := d + 2) (k := 0) (by decide) (fun X x1 x2 x3 => ⟨rfl, ?_⟩)
    generalize hY : z_up (z_up X 145 0 1) 141 1 0 = Y
    have yc : ∀ x, ¬ x = 36 → ¬ x = 86 → ¬ x = 119 → ¬ x = 123 → ¬ x = 141 → ¬ x = 144 → ¬ x = 145 → Y x = W x := by
      intro x p1 p2 p3 p4 p5 p6 p7
      rw [← hY, z_up_cell p5, z_up_cell p7, x1 x p6]
      simp (disch := omega) only [zDn, z_up_cell]
    have y144 : Y 144 = X 144 := by rw [← hY]; simp (disch := omega) only [zDn, z_up_cell]
    have e143 : Y 143 = V 143 := by rw [yc 143 (by decide) (by decide) (by decide) (by decide) (by decide) (by decide) (by decide), w1 143 (by omega)]
    have y86 : ∀ i, Y 86 i = if i = 0 then 1 else V 86 i := by
      intro i
      rw [← hY, z_up_cell (by decide), z_up_cell (by decide), x1 86 (by decide)]
      by_cases c : i = 0
      · subst c; rfl
      · rw [if_neg c, z_up_cell (by decide)]
        unfold zDn
        rw [z_up_cell (by decide), z_up_cell (by decide), z_up_cell (by decide), show Int.toNat 0 = 0 from rfl, zUp_o (by omega), w1 86 (by omega)]
    have y145 : ∀ i, Y 145 i = if i = 0 then 1 else V 145 i := by
      intro i
      rw [← hY, z_up_cell (by decide)]
      by_cases c : i = 0
      · subst c; rfl
      · rw [if_neg c, zUp_o (by omega), x1 145 (by decide)]
        simp (disch := omega) only [zDn, z_up_cell]
        rw [w1 145 (by omega)]
    have ww : ∀ x, ¬ (54 ≤ x ∧ x ≤ 54 + 14) → ¬ x = 36 → ¬ x = 86 → ¬ x = 119 → ¬ x = 123 → ¬ x = 141 → ¬ x = 144 → ¬ x = 145 → Y x = V x := fun x p0 p1 p2 p3 p4 p5 p6 p7 => by rw [yc x p1 p2 p3 p4 p5 p6 p7, w1 x (by omega)]
    have y36 : ∀ i, ¬ i = 15 → Y 36 i = V 36 i := by
      intro i hi
      rw [← hY, z_up_cell (by decide), z_up_cell (by decide), x1 36 (by decide)]
      simp (disch := omega) only [zDn, zUp_o, zUp_s]
      rw [w1 36 (by omega)]
    have y3 : Y 36 15 = 0 ∧ Y 119 1 = 0 ∧ Y 123 1 = 0 := by
      rw [← hY]
      refine ⟨?_, ?_, ?_⟩ <;> (rw [z_up_cell (by decide), z_up_cell (by decide), x1 _ (by decide)]; rfl)
    have y141 : Y 141 1 = 0 ∧ ∀ i, ¬ i = 0 → ¬ i = 1 → Y 141 i = V 141 i := by
      rw [← hY]
      refine ⟨zUp_s, fun i i0 i1 => ?_⟩
      rw [zUp_o (by omega), z_up_cell (by decide), x1 141 (by decide)]
      simp (disch := omega) only [zDn, zUp_o, zUp_s]
      rw [w1 141 (by omega)]
    have hl : ∀ a, 169 ≤ a → Y a = V a := fun a ha => ww a (by omega) (by omega) (by omega) (by omega) (by omega) (by omega) (by omega) (by omega)
    have h0 : Y 0 = V 0 := ww 0 (by omega) (by omega) (by omega) (by omega) (by omega) (by omega) (by omega) (by omega)
    have rk : zRi Y 0 54 0 := by
      unfold zRi
      rw [y86, y145, if_pos rfl]
      refine ⟨rfl, Or.inr rfl, fun _ => ⟨Λ, ?_⟩⟩
      have h2 : zT 54 (V 143) Y Λ := zT_c hTW (yc 0 (by omega) (by omega) (by omega) (by omega) (by omega) (by omega) (by omega)) (fun a x y => yc a (by omega) (by omega) (by omega) (by omega) (by omega) (by omega) (by omega)) (fun a x => yc a (by omega) (by omega) (by omega) (by omega) (by omega) (by omega) (by omega))
      refine zT_rho h2 (fun i hi => ?_)
      rw [y144, show 0 + i = 5490 * 0 + i by omega, x2 i hi]
      show z_up _ 141 0 0 143 i = _
      simp (disch := omega) only [zDn, z_up_cell]
      rw [w1 143 (by omega)]
    have rk2 : zRi V 1 70 5490 → zRi Y 1 70 5490 := by
      intro ⟨i1, i2, i3⟩
      unfold zRi
      rw [y86, y145, if_neg (by decide), if_neg (by decide)]
      refine ⟨i1, i2, fun q => ?_⟩
      obtain ⟨Λ2, h2⟩ := i3 q
      refine ⟨Λ2, zT_rho (zT_c h2 h0 (fun a x y => ww a (by omega) (by omega) (by omega) (by omega) (by omega) (by omega) (by omega) (by omega)) hl) (fun i hi => ?_)⟩
      rw [y144, x3 _ (by omega)]
      show z_up _ 141 0 0 144 _ = _
      simp (disch := omega) only [zDn, z_up_cell]
      rw [w1 144 (by omega)]
    refine ⟨⟨Λ, ?_, fun _ _ _ _ _ _ => ⟨Or.inl y3.2.1, Or.inl y3.2.2⟩⟩, ?_, ?_, zRm_c r5 (fun a ha => by unfold zKe at ha; exact ww a (by omega) (by omega) (by omega) (by omega) (by omega) (by omega) (by omega) (by omega)) (fun i hi hi1 => by unfold zKf at hi; exact y141.2 i (by omega) hi1) (y36 13 (by decide)) (y36 14 (by decide)) (by rw [y3.1, y141.1])⟩
    · rw [e143]
      exact zT_c hT h0 (fun a x y => ww a (by omega) (by omega) (by omega) (by omega) (by omega) (by omega) (by omega) (by omega)) hl
    · first | exact rk | exact rk2 r3
    · first | exact rk | exact rk2 r4
  · refine z_gp (by decide) (z_all ?_)
    rw [show z_rr true V 53 (Int.toNat 1) = 70 from rfl]
    refine z_gp (by decide) (sp73_70_37 (d := d + 1) (zT_ls hT) (fun W hW => z_gp (by decide) (z_all (sp131 (d := d + 2) ?_))))
    have hTW := zCy_T hT (by decide) (by decide) hW
    have w1 := hW.1
    refine zb152_141 _ (z_all (sp145 (d := d + 2) (fun _ => z_ifn (by decide) ?_) (fun q => absurd h q)))
    refine lp152 (d := d + 2) (k := 1) (by decide) (fun X x1 x2 x3 => ⟨rfl, ?_⟩)
    generalize hY : z_up (z_up X 145 1 1) 141 1 0 = Y
    have yc : ∀ x, ¬ x = 36 → ¬ x = 86 → ¬ x = 119 → ¬ x = 123 → ¬ x = 141 → ¬ x = 144 → ¬ x = 145 → Y x = W x := by
      intro x p1 p2 p3 p4 p5 p6 p7
      rw [← hY, z_up_cell p5, z_up_cell p7, x1 x p6]
      simp (disch := omega) only [zDn, z_up_cell]
    have y144 : Y 144 = X 144 := by rw [← hY]; simp (disch := omega) only [zDn, z_up_cell]
    have e143 : Y 143 = V 143 := by rw [yc 143 (by decide) (by decide) (by decide) (by decide) (by decide) (by decide) (by decide), w1 143 (by omega)]
    have y86 : ∀ i, Y 86 i = if i = 1 then 1 else V 86 i := by
      intro i
      rw [← hY, z_up_cell (by decide), z_up_cell (by decide), x1 86 (by decide)]
      by_cases c : i = 1
      · subst c; rfl
      · rw [if_neg c, z_up_cell (by decide)]
        unfold zDn
        rw [z_up_cell (by decide), z_up_cell (by decide), z_up_cell (by decide), show Int.toNat 1 = 1 from rfl, zUp_o (by omega), w1 86 (by omega)]
    have y145 : ∀ i, Y 145 i = if i = 1 then 1 else V 145 i := by
      intro i
      rw [← hY, z_up_cell (by decide)]
      by_cases c : i = 1
      · subst c; rfl
      · rw [if_neg c, zUp_o (by omega), x1 145 (by decide)]
        simp (disch := omega) only [zDn, z_up_cell]
        rw [w1 145 (by omega)]
    have ww : ∀ x, ¬ (70 ≤ x ∧ x ≤ 70 + 14) → ¬ x = 36 → ¬ x = 86 → ¬ x = 119 → ¬ x = 123 → ¬ x = 141 → ¬ x = 144 → ¬ x = 145 → Y x = V x := fun x p0 p1 p2 p3 p4 p5 p6 p7 => by rw [yc x p1 p2 p3 p4 p5 p6 p7, w1 x (by omega)]
    have y36 : ∀ i, ¬ i = 15 → Y 36 i = V 36 i := by
      intro i hi
      rw [← hY, z_up_cell (by decide), z_up_cell (by decide), x1 36 (by decide)]
      simp (disch := omega) only [zDn, zUp_o, zUp_s]
      rw [w1 36 (by omega)]
    have y3 : Y 36 15 = 0 ∧ Y 119 1 = 0 ∧ Y 123 1 = 0 := by
      rw [← hY]
      refine ⟨?_, ?_, ?_⟩ <;> (rw [z_up_cell (by decide), z_up_cell (by decide), x1 _ (by decide)]; rfl)
    have y141 : Y 141 1 = 0 ∧ ∀ i, ¬ i = 0 → ¬ i = 1 → Y 141 i = V 141 i := by
      rw [← hY]
      refine ⟨zUp_s, fun i i0 i1 => ?_⟩
      rw [zUp_o (by omega), z_up_cell (by decide), x1 141 (by decide)]
      simp (disch := omega) only [zDn, zUp_o, zUp_s]
      rw [w1 141 (by omega)]
    have hl : ∀ a, 169 ≤ a → Y a = V a := fun a ha => ww a (by omega) (by omega) (by omega) (by omega) (by omega) (by omega) (by omega) (by omega)
    have h0 : Y 0 = V 0 := ww 0 (by omega) (by omega) (by omega) (by omega) (by omega) (by omega) (by omega) (by omega)
    have rk : zRi Y 1 70 5490 := by
      unfold zRi
      rw [y86, y145, if_pos rfl]
      refine ⟨rfl, Or.inr rfl, fun _ => ⟨Λ, ?_⟩⟩
      have h2 : zT 70 (V 143) Y Λ := zT_c hTW (yc 0 (by omega) (by omega) (by omega) (by omega) (by omega) (by omega) (by omega)) (fun a x y => yc a (by omega) (by omega) (by omega) (by omega) (by omega) (by omega) (by omega)) (fun a x => yc a (by omega) (by omega) (by omega) (by omega) (by omega) (by omega) (by omega))
      refine zT_rho h2 (fun i hi => ?_)
      rw [y144, show 5490 + i = 5490 * 1 + i by omega, x2 i hi]
      show z_up _ 141 0 0 143 i = _
      simp (disch := omega) only [zDn, z_up_cell]
      rw [w1 143 (by omega)]
    have rk2 : zRi V 0 54 0 → zRi Y 0 54 0 := by
      intro ⟨i1, i2, i3⟩
      unfold zRi
      rw [y86, y145, if_neg (by decide), if_neg (by decide)]
      refine ⟨i1, i2, fun q => ?_⟩
      obtain ⟨Λ2, h2⟩ := i3 q
      refine ⟨Λ2, zT_rho (zT_c h2 h0 (fun a x y => ww a (by omega) (by omega) (by omega) (by omega) (by omega) (by omega) (by omega) (by omega)) hl) (fun i hi => ?_)⟩
      rw [y144, x3 _ (by omega)]
      show z_up _ 141 0 0 144 _ = _
      simp (disch := omega) only [zDn, z_up_cell]
      rw [w1 144 (by omega)]
    refine ⟨⟨Λ, ?_, fun _ _ _ _ _ _ => ⟨Or.inl y3.2.1, Or.inl y3.2.2⟩⟩, ?_, ?_, zRm_c r5 (fun a ha => by unfold zKe at ha; exact ww a (by omega) (by omega) (by omega) (by omega) (by omega) (by omega) (by omega) (by omega)) (fun i hi hi1 => by unfold zKf at hi; exact y141.2 i (by omega) hi1) (y36 13 (by decide)) (y36 14 (by decide)) (by rw [y3.1, y141.1])⟩
    · rw [e143]
      exact zT_c hT h0 (fun a x y => ww a (by omega) (by omega) (by omega) (by omega) (by omega) (by omega) (by omega) (by omega)) hl
    · first | exact rk | exact rk2 r3
    · first | exact rk | exact rk2 r4
theorem cm_back {V : z_M} (hR : zR V) (k : Int) : zPr (d + 4) 127 153 [.inl k] V := by
  have hR2 := hR
  obtain ⟨⟨Λ, hT, hc⟩, r3, r4, r5⟩ := hR2
  obtain ⟨n, R, m, hn, hRr, hm, n12, R6, m7⟩ := zR_nat hT
  have a0 := zT_0 hT
  have a1 := zT_1 hT
  have a4 := zT_4 hT
  refine zb127_36 _ (sp133 (d := d + 2) (fun h => z_ifn (by decide) ?_) (fun h => z_ifp rfl (sp130 (d := d + 1) (by decide) (zb153_141 _ (z_all (sp145 (d := d + 2) (fun q => absurd q h) (fun _ => z_ifp rfl (sp149 (d := d + 2) (by decide) ⟨rfl, zR_rf (e := -1) (by decide) hR⟩))))))))
  have hk : k = 0 ∨ k = 1 := by omega
  rcases hk with rfl | rfl
  · obtain ⟨i1, i2, i3⟩ := id r3
    refine z_gp (by decide) (z_all ?_)
    rw [show Int.toNat 0 = 0 from rfl]
    refine z_ifc (fun c => sp130 (d := d + 1) (by decide) ?_) (fun c => ?_)
    · refine zb153_141 _ (z_all (sp145 (d := d + 2) (fun _ => z_ifn (by decide) (z_gp (by decide) (z_all ?_))) (fun q => absurd h q)))
      refine z_ifp ?_ (sp149 (d := d + 2) (by decide) ⟨rfl, zR_rf (e := -2) (by decide) hR⟩)
      show V 145 0 = 0
      rw [← i1]; exact c
    obtain ⟨Λ2, hT2⟩ := i3 (by omega)
    refine z_gp (by decide) (z_all ?_)
    rw [show z_rr true V 53 0 = 54 from rfl]
    refine sp73_37_54 (d := d + 1) (zT_ls hT2) (fun W hW => sp131 (d := d + 2) ?_)
    have hTW := zCy_T hT2 (by decide) (by decide) hW
    have w1 := hW.1
    refine zb153_141 _ (z_all (sp145 (d := d + 2) (fun _ => z_ifn (by decide) (z_gp (by decide) (z_all ?_))) (fun q => absurd h q)))
    refine z_ifn ?_ ?_
    · show ¬ z_up _ 141 0 0 145 0 = 0
      rw [z_up_cell (by decide)]
      simp (disch := omega) only [zDn, z_up_cell]
      rw [w1 145 (by omega), ← i1]
      exact c
    refine lp153 (d := d + 2) (k := 0) (by decide) (fun X x1 x2 => ⟨rfl, ?_⟩)
    generalize hY : z_up X 141 1 0 = Y
    have yc : ∀ x, ¬ x = 36 → ¬ x = 119 → ¬ x = 123 → ¬ x = 141 → ¬ x = 143 → Y x = W x := by
      intro x p1 p3 p4 p5 p6
      rw [← hY, z_up_cell p5, x1 x p6]
      simp (disch := omega) only [zDn, z_up_cell]
    have y143 : ∀ i, i < 5490 → Y 143 i = V 144 (0 + i) := by
      intro i hi
      rw [← hY, z_up_cell (by decide), x2 i hi, z_up_cell (by decide)]
      simp (disch := omega) only [zDn, z_up_cell]
      rw [w1 144 (by omega), show 5490 * 0 + i = 0 + i by omega]
    have ww : ∀ x, ¬ (37 ≤ x ∧ x ≤ 37 + 14) → ¬ x = 36 → ¬ x = 119 → ¬ x = 123 → ¬ x = 141 → ¬ x = 143 → Y x = V x := fun x p0 p1 p3 p4 p5 p6 => by rw [yc x p1 p3 p4 p5 p6, w1 x (by omega)]
    have y36 : ∀ i, ¬ i = 15 → Y 36 i = V 36 i := by
      intro i hi
      rw [← hY, z_up_cell (by decide), x1 36 (by decide)]
      simp (disch := omega) only [zDn, zUp_o, zUp_s]
      rw [w1 36 (by omega)]
    have y3 : Y 36 15 = 0 ∧ Y 119 1 = 0 ∧ Y 123 1 = 0 := by
      rw [← hY]
      refine ⟨?_, ?_, ?_⟩ <;> (rw [z_up_cell (by decide), x1 _ (by decide)]; rfl)
    have y141 : Y 141 1 = 0 ∧ ∀ i, ¬ i = 0 → ¬ i = 1 → Y 141 i = V 141 i := by
      rw [← hY]
      refine ⟨zUp_s, fun i i0 i1 => ?_⟩
      rw [zUp_o (by omega), x1 141 (by decide)]
      simp (disch := omega) only [zDn, zUp_o, zUp_s]
      rw [w1 141 (by omega)]
    have hl : ∀ a, 169 ≤ a → Y a = V a := fun a ha => ww a (by omega) (by omega) (by omega) (by omega) (by omega) (by omega)
    have h0 : Y 0 = V 0 := ww 0 (by omega) (by omega) (by omega) (by omega) (by omega) (by omega)
    refine ⟨⟨Λ2, ?_, fun _ _ _ _ _ _ => ⟨Or.inl y3.2.1, Or.inl y3.2.2⟩⟩, zRi_c r3 h0 (ww 86 (by omega) (by omega) (by omega) (by omega) (by omega) (by omega)) (ww 145 (by omega) (by omega) (by omega) (by omega) (by omega) (by omega)) (ww 144 (by omega) (by omega) (by omega) (by omega) (by omega) (by omega)) (fun a x y => ww a (by omega) (by omega) (by omega) (by omega) (by omega) (by omega)) hl, zRi_c r4 h0 (ww 86 (by omega) (by omega) (by omega) (by omega) (by omega) (by omega)) (ww 145 (by omega) (by omega) (by omega) (by omega) (by omega) (by omega)) (ww 144 (by omega) (by omega) (by omega) (by omega) (by omega) (by omega)) (fun a x y => ww a (by omega) (by omega) (by omega) (by omega) (by omega) (by omega)) hl, zRm_c r5 (fun a ha => by unfold zKe at ha; exact ww a (by omega) (by omega) (by omega) (by omega) (by omega) (by omega)) (fun i hi hi1 => by unfold zKf at hi; exact y141.2 i (by omega) hi1) (y36 13 (by decide)) (y36 14 (by decide)) (by rw [y3.1, y141.1])⟩
    refine zT_rho (zT_c hTW (yc 0 (by omega) (by omega) (by omega) (by omega) (by omega)) (fun a x y => yc a (by omega) (by omega) (by omega) (by omega) (by omega)) (fun a x => yc a (by omega) (by omega) (by omega) (by omega) (by omega))) y143
  · obtain ⟨i1, i2, i3⟩ := id r4
    refine z_gp (by decide) (z_all ?_)
    rw [show Int.toNat 1 = 1 from rfl]
    refine z_ifc (fun c => sp130 (d := d + 1) (by decide) ?_) (fun c => ?_)
    · refine zb153_141 _ (z_all (sp145 (d := d + 2) (fun _ => z_ifn (by decide) (z_gp (by decide) (z_all ?_))) (fun q => absurd h q)))
      refine z_ifp ?_ (sp149 (d := d + 2) (by decide) ⟨rfl, zR_rf (e := -2) (by decide) hR⟩)
      show V 145 1 = 0
      rw [← i1]; exact c
    obtain ⟨Λ2, hT2⟩ := i3 (by omega)
    refine z_gp (by decide) (z_all ?_)
    rw [show z_rr true V 53 1 = 70 from rfl]
    refine sp73_37_70 (d := d + 1) (zT_ls hT2) (fun W hW => sp131 (d := d + 2) ?_)
    have hTW := zCy_T hT2 (by decide) (by decide) hW
    have w1 := hW.1
    refine zb153_141 _ (z_all (sp145 (d := d + 2) (fun _ => z_ifn (by decide) (z_gp (by decide) (z_all ?_))) (fun q => absurd h q)))
    refine z_ifn ?_ ?_
    · show ¬ z_up _ 141 0 0 145 1 = 0
      rw [z_up_cell (by decide)]
      simp (disch := omega) only [zDn, z_up_cell]
      rw [w1 145 (by omega), ← i1]
      exact c
    refine lp153 (d := d + 2) (k := 1) (by decide) (fun X x1 x2 => ⟨rfl, ?_⟩)
    generalize hY : z_up X 141 1 0 = Y
    have yc : ∀ x, ¬ x = 36 → ¬ x = 119 → ¬ x = 123 → ¬ x = 141 → ¬ x = 143 → Y x = W x := by
      intro x p1 p3 p4 p5 p6
      rw [← hY, z_up_cell p5, x1 x p6]
      simp (disch := omega) only [zDn, z_up_cell]
    have y143 : ∀ i, i < 5490 → Y 143 i = V 144 (5490 + i) := by
      intro i hi
      rw [← hY, z_up_cell (by decide), x2 i hi, z_up_cell (by decide)]
      simp (disch := omega) only [zDn, z_up_cell]
      rw [w1 144 (by omega), show 5490 * 1 + i = 5490 + i by omega]
    have ww : ∀ x, ¬ (37 ≤ x ∧ x ≤ 37 + 14) → ¬ x = 36 → ¬ x = 119 → ¬ x = 123 → ¬ x = 141 → ¬ x = 143 → Y x = V x := fun x p0 p1 p3 p4 p5 p6 => by rw [yc x p1 p3 p4 p5 p6, w1 x (by omega)]
    have y36 : ∀ i, ¬ i = 15 → Y 36 i = V 36 i := by
      intro i hi
      rw [← hY, z_up_cell (by decide), x1 36 (by decide)]
      simp (disch := omega) only [zDn, zUp_o, zUp_s]
      rw [w1 36 (by omega)]
    have y3 : Y 36 15 = 0 ∧ Y 119 1 = 0 ∧ Y 123 1 = 0 := by
      rw [← hY]
      refine ⟨?_, ?_, ?_⟩ <;> (rw [z_up_cell (by decide), x1 _ (by decide)]; rfl)
    have y141 : Y 141 1 = 0 ∧ ∀ i, ¬ i = 0 → ¬ i = 1 → Y 141 i = V 141 i := by
      rw [← hY]
      refine ⟨zUp_s, fun i i0 i1 => ?_⟩
      rw [zUp_o (by omega), x1 141 (by decide)]
      simp (disch := omega) only [zDn, zUp_o, zUp_s]
      rw [w1 141 (by omega)]
    have hl : ∀ a, 169 ≤ a → Y a = V a := fun a ha => ww a (by omega) (by omega) (by omega) (by omega) (by omega) (by omega)
    have h0 : Y 0 = V 0 := ww 0 (by omega) (by omega) (by omega) (by omega) (by omega) (by omega)
    refine ⟨⟨Λ2, ?_, fun _ _ _ _ _ _ => ⟨Or.inl y3.2.1, Or.inl y3.2.2⟩⟩, zRi_c r3 h0 (ww 86 (by omega) (by omega) (by omega) (by omega) (by omega) (by omega)) (ww 145 (by omega) (by omega) (by omega) (by omega) (by omega) (by omega)) (ww 144 (by omega) (by omega) (by omega) (by omega) (by omega) (by omega)) (fun a x y => ww a (by omega) (by omega) (by omega) (by omega) (by omega) (by omega)) hl, zRi_c r4 h0 (ww 86 (by omega) (by omega) (by omega) (by omega) (by omega) (by omega)) (ww 145 (by omega) (by omega) (by omega) (by omega) (by omega) (by omega)) (ww 144 (by omega) (by omega) (by omega) (by omega) (by omega) (by omega)) (fun a x y => ww a (by omega) (by omega) (by omega) (by omega) (by omega) (by omega)) hl, zRm_c r5 (fun a ha => by unfold zKe at ha; exact ww a (by omega) (by omega) (by omega) (by omega) (by omega) (by omega)) (fun i hi hi1 => by unfold zKf at hi; exact y141.2 i (by omega) hi1) (y36 13 (by decide)) (y36 14 (by decide)) (by rw [y3.1, y141.1])⟩
    refine zT_rho (zT_c hTW (yc 0 (by omega) (by omega) (by omega) (by omega) (by omega)) (fun a x y => yc a (by omega) (by omega) (by omega) (by omega) (by omega)) (fun a x => yc a (by omega) (by omega) (by omega) (by omega) (by omega))) y143
end
