/-! law: class and reference alike -/
theorem zLx_c2 {V W : z_M} {c : Nat} {F : (Nat → Int) → Int} (h : zLx V c F) (h0 : ∀ i, 0 < i → i < 4 → W 0 (c + i) = V 0 (c + i)) (hc : W c = V c) (h1 : W (c + 1) = V (c + 1)) (h2 : W (c + 2) = V (c + 2)) (h3 : W (c + 3) = V (c + 3)) : zLx W c F := by
  unfold zLx at h ⊢
  rw [hc, h1, h2, h3, h0 1 (by decide) (by decide), h0 2 (by decide) (by decide), h0 3 (by decide) (by decide)]
  exact h
theorem zT_g {b : Nat} {ρ : Nat → Int} {V W : z_M} {Λ : Nat → (Nat → Int) → Int} (h : zT b ρ V Λ) (h00 : V 0 0 ≤ W 0 0) (h0 : ∀ k : Nat, ¬ k = 0 → (k : Int) < V 0 0 → W 0 k = V 0 k) (hb : ∀ a, b ≤ a → a ≤ b + 14 → W a = V a) (hl : ∀ a : Nat, 169 ≤ a → (a : Int) < V 0 0 → W a = V a) : zT b ρ W Λ := by
  unfold zT at h ⊢
  rw [hb b (by omega) (by omega), hb (b + 2) (by omega) (by omega), hb (b + 3) (by omega) (by omega), hb (b + 4) (by omega) (by omega), hb (b + 5) (by omega) (by omega), hb (b + 7) (by omega) (by omega), hb (b + 8) (by omega) (by omega), hb (b + 9) (by omega) (by omega), hb (b + 10) (by omega) (by omega), hb (b + 12) (by omega) (by omega), hb (b + 13) (by omega) (by omega), hb (b + 14) (by omega) (by omega)]
  obtain ⟨a1, a2, a3, a4, a5, a6, a7, a8, a9, b1, b2, b3, b4⟩ := h
  refine ⟨a1, a2, a3, a4, a5, a6, a7, a8, a9, b1, b2, b3, b4.1, fun l hlt => ?_⟩
  obtain ⟨q, q1, q2, q3, q4⟩ := b4.2 l hlt
  exact ⟨q, q1, by omega, zLx_c2 q3 (fun i _ _ => h0 _ (by omega) (by omega)) (hl _ (by omega) (by omega)) (hl _ (by omega) (by omega)) (hl _ (by omega) (by omega)) (hl _ (by omega) (by omega)), q4⟩
theorem zRi_g {V W : z_M} {k b off : Nat} (h : zRi V k b off) (h00 : V 0 0 ≤ W 0 0) (h0 : ∀ k : Nat, ¬ k = 0 → (k : Int) < V 0 0 → W 0 k = V 0 k) (h1 : W 86 = V 86) (h2 : W 145 = V 145) (h3 : W 144 = V 144) (hb : ∀ a, b ≤ a → a ≤ b + 14 → W a = V a) (hl : ∀ a : Nat, 169 ≤ a → (a : Int) < V 0 0 → W a = V a) : zRi W k b off := by
  obtain ⟨i1, i2, i3⟩ := h
  unfold zRi
  rw [h1, h2, h3]
  refine ⟨i1, i2, fun q => ?_⟩
  obtain ⟨Λ, hT⟩ := i3 q
  exact ⟨Λ, zT_g hT h00 h0 hb hl⟩
theorem zLm_c {ρ ρ' : Nat → Int} {l : Nat} {F : (Nat → Int) → Int} (h : zLm ρ l F) (hc : ∀ i, 91 + 900 * l ≤ i → i < 990 + 900 * l → ρ' i = ρ i) : zLm ρ' l F := by
  obtain ⟨n, hd, Fs, Ft, ts, h1, h2, h3, h4, h5⟩ := h
  have sg : ∀ {s e : Nat} {G : (Nat → Int) → Option Int}, e ≤ 400 → zSeg (fun k => ρ (188 + 900 * l + 2 * k)) (fun k => ρ (189 + 900 * l + 2 * k)) 390 s e G → zSeg (fun k => ρ' (188 + 900 * l + 2 * k)) (fun k => ρ' (189 + 900 * l + 2 * k)) 390 s e G := fun he hs => zSeg_congr (fun k _ hk => ⟨(hc _ (by omega) (by omega)).symm, (hc _ (by omega) (by omega)).symm⟩) (Nat.le_refl _) hs
  refine ⟨n, hd, Fs, Ft, ts, h1, h2, h3, by rw [hc _ (by omega) (by omega)]; exact h4, fun c hcn => ?_⟩
  obtain ⟨g1, g2, g3, g4, g5⟩ := h5 c hcn
  refine ⟨by rw [hc _ (by omega) (by omega)]; exact g1, g2, fun q => ?_, fun q => ?_, fun q => by rw [hc _ (by omega) (by omega), hc _ (by omega) (by omega)]; exact g5 q⟩
  · obtain ⟨s, e, x1, x2, x3, x4⟩ := g3 q
    exact ⟨s, e, by rw [hc _ (by omega) (by omega)]; exact x1, by rw [hc _ (by omega) (by omega)]; exact x2, x3, sg x3 x4⟩
  · obtain ⟨s, e, x1, x2, x3, x4⟩ := g4 q
    exact ⟨s, e, by rw [hc _ (by omega) (by omega)]; exact x1, by rw [hc _ (by omega) (by omega)]; exact x2, x3, sg x3 x4⟩
theorem zLm_q {W : z_M} {l n s : Nat} {P : Nat → zpC} (hn : 1 ≤ n) (hn2 : n ≤ 12) (hs : s ≤ 400) (hP : ∀ k, (P k).1 = 0 ∨ (P k).1 = 1) (h1 : W 143 (91 + 900 * l) = (n : Int)) (hq : ∀ j, j < n → zqQ W j s (P j)) (h7 : ∀ k, k < 8 * n → W 143 (92 + 900 * l + k) = W 147 k) (h8 : ∀ j, j < s → W 143 (188 + 900 * l + 2 * j) = W 148 j ∧ W 143 (189 + 900 * l + 2 * j) = W 149 j) : zLm (W 143) l (zpLaw P n) := by
  have sg : ∀ {a e : Nat} {G : zpF}, e ≤ s → zqC W 20 a e G → zSeg (fun k => W 143 (188 + 900 * l + 2 * k)) (fun k => W 143 (189 + 900 * l + 2 * k)) 390 a e G := fun he h => zSeg_congr (fun k _ hk => ⟨(h8 k (by omega)).1.symm, (h8 k (by omega)).2.symm⟩) (by decide) h
  refine ⟨n, fun k => (P k).1, fun k => (P k).2.1, fun k => (P k).2.2.2, fun k => (P k).2.2.1, hn, hn2, fun _ _ => rfl, h1, fun c hc => ?_⟩
  obtain ⟨g1, g2, g3, g4⟩ := hq c hc
  have r0 := h7 (8 * c) (by omega)
  have r3 := h7 (8 * c + 3) (by omega)
  have r4 := h7 (8 * c + 4) (by omega)
  have r5 := h7 (8 * c + 5) (by omega)
  have r6 := h7 (8 * c + 6) (by omega)
  rw [show 92 + 900 * l + (8 * c + 3) = 95 + 900 * l + 8 * c by omega] at r3
  rw [show 92 + 900 * l + (8 * c + 4) = 96 + 900 * l + 8 * c by omega] at r4
  rw [show 92 + 900 * l + (8 * c + 5) = 97 + 900 * l + 8 * c by omega] at r5
  rw [show 92 + 900 * l + (8 * c + 6) = 98 + 900 * l + 8 * c by omega] at r6
  refine ⟨r0.trans g1, hP c, fun q => ?_, fun q => ?_, fun q => by rw [r5, r6]; exact g4 q⟩
  · obtain ⟨a, e, x1, x2, x3, x4⟩ := g2 q
    exact ⟨a, e, r3.trans x2, r4.trans x3, by omega, sg x1 x4⟩
  · obtain ⟨a, e, x1, x2, x3, x4⟩ := g3 q
    exact ⟨a, e, r5.trans x2, r6.trans x3, by omega, sg x1 x4⟩
theorem zT_law {V W : z_M} {ρ ρ' : Nat → Int} {Λ : Nat → (Nat → Int) → Int} {F : (Nat → Int) → Int} {l q : Nat} (hT : zT 37 ρ V Λ) (h2 : ρ 2 = (l : Int)) (hl : l < 6) (hρ : ∀ i, ¬ i = 2 → (i < 91 + 900 * l ∨ 990 + 900 * l ≤ i) → ρ' i = ρ i) (hρ2 : ρ' 2 = (l : Int) + 1) (h00 : V 0 0 = 169 + 4 * (q : Int)) (hW00 : W 0 0 = 169 + 4 * (q : Int) + 4) (h0 : ∀ k, ¬ k = 0 → k < 169 + 4 * q → W 0 k = V 0 k) (h37 : ∀ k, ¬ k = 9 → W 37 k = V 37 k) (h379 : W 37 9 = (l : Int) + 1) (h47 : W 47 l = 169 + 4 * (q : Int) ∧ ∀ i, ¬ i = l → W 47 i = V 47 i) (hc : ∀ a, 37 < a → a ≤ 51 → ¬ a = 47 → W a = V a) (hlc : ∀ a, 169 ≤ a → a < 169 + 4 * q → W a = V a) (hx : zLx W (169 + 4 * q) F) (hm : zLm ρ' l F) : zT 37 ρ' W (fun j => if j = l then F else Λ j) := by
  obtain ⟨a1, a2, a3, a4, a5, a6, a7, a8, a9, b1, b2, b3, b4, b5⟩ := hT
  have r0 : ∀ i, i < 91 → ¬ i = 2 → ρ' i = ρ i := fun i h1 h2 => hρ i h2 (by omega)
  unfold zT
  have r1 := r0 1 (by omega) (by omega)
  have rz := r0 0 (by omega) (by omega)
  have r4 := r0 4 (by omega) (by omega)
  have r5 := r0 5 (by omega) (by omega)
  refine ⟨by rw [h37 7 (by decide), rz]; exact a1, by rw [h37 8 (by decide), r1]; exact a2, ?_, ?_, by rw [h37 11 (by decide), r4]; exact a5, by rw [h37 12 (by decide), r5]; exact a6, by rw [hc 46 (by decide) (by decide) (by decide), r0 6 (by omega) (by omega)]; exact a7, by rw [hc 46 (by decide) (by decide) (by decide), r0 7 (by omega) (by omega)]; exact a8, ?_, ?_, ?_, ?_, ?_, ?_⟩
  · rw [h379, hρ2]; omega
  · rw [h37 10 (by decide), r0 3 (by omega) (by omega), hρ2]
    exact ⟨a4.1, a4.2.1, by omega⟩
  · rw [rz]
    intro t ht
    have ht2 : t < 12 := by omega
    have g := a9 t ht
    rw [hc 39 (by decide) (by decide) (by decide), hc 40 (by decide) (by decide) (by decide), hc 41 (by decide) (by decide) (by decide), hc 42 (by decide) (by decide) (by decide), r0 (8 + 4 * t) (by omega) (by omega), r0 (9 + 4 * t) (by omega) (by omega), r0 (10 + 4 * t) (by omega) (by omega), r0 (11 + 4 * t) (by omega) (by omega)]
    exact g
  · rw [r1]
    intro r hr
    have hr2 : r < 6 := by omega
    have g := b1 r hr
    rw [hc 44 (by decide) (by decide) (by decide), hc 45 (by decide) (by decide) (by decide), r0 (56 + 2 * r) (by omega) (by omega), r0 (57 + 2 * r) (by omega) (by omega)]
    exact g
  · rw [r4]
    intro r hr
    have hr2 : r < 7 := by omega
    have g := b2 r hr
    rw [hc 49 (by decide) (by decide) (by decide), hc 50 (by decide) (by decide) (by decide), r0 (68 + 2 * r) (by omega) (by omega), r0 (69 + 2 * r) (by omega) (by omega), r1, rz]
    exact g
  · rw [r5]
    intro r hr
    have hr2 : r < 8 := by omega
    have g := b3 r hr
    rw [hc 51 (by decide) (by decide) (by decide), r0 (82 + r) (by omega) (by omega)]
    exact g
  · intro i hi
    by_cases e : i = l
    · subst e; exact Or.inr ⟨q, h47.1⟩
    · rw [show W (37 + 10) i = V (37 + 10) i from h47.2 i e]; exact b4 i hi
  · intro i hi
    rw [hρ2] at hi
    by_cases e : i = l
    · subst e
      dsimp only
      rw [if_pos rfl]
      exact ⟨q, h47.1, by omega, hx, hm⟩
    · dsimp only
      rw [if_neg e]
      obtain ⟨q2, g1, g2, g3, g4⟩ := b5 i (by omega)
      refine ⟨q2, by rw [show W (37 + 10) i = V (37 + 10) i from h47.2 i e]; exact g1, by omega, zLx_c2 g3 (fun j _ _ => h0 _ (by omega) (by omega)) (hlc _ (by omega) (by omega)) (hlc _ (by omega) (by omega)) (hlc _ (by omega) (by omega)) (hlc _ (by omega) (by omega)), zLm_c g4 (fun j j1 j2 => hρ j (by omega) (by omega))⟩
theorem zR_ft {V X : z_M} (hR : zR V) (h : ∀ a, zKc a → ¬ a = 36 → ¬ a = 87 → ¬ a = 140 → ¬ a = 142 → X a = V a) (h6 : X 141 6 = V 141 6) (h55 : X 141 55 = V 141 55) (h13 : X 36 13 = V 36 13) (h14 : X 36 14 = X 141 13) (h15 : X 36 15 = X 141 1) (h140 : ∀ k, k < 7 → X 140 k = X 142 k) (h87 : X 87 1 = 0) (h8 : X 141 8 = 0) : zR X := by
  obtain ⟨⟨Λ, r1, r2⟩, r3, r4, r5⟩ := hR
  have c : ∀ a, (2 ≤ a ∧ a < 86) ∨ a = 0 ∨ a = 86 ∨ a = 88 ∨ a = 119 ∨ a = 120 ∨ a = 123 ∨ a = 124 ∨ (134 ≤ a ∧ a ≤ 138) ∨ (143 ≤ a ∧ a ≤ 146) ∨ a = 152 ∨ 168 ≤ a → ¬ a = 36 → X a = V a := fun a ha h36 => h a (by unfold zKc; omega) h36 (by omega) (by omega) (by omega)
  have e0 := c 0 (by omega) (by omega)
  refine ⟨⟨Λ, ?_, ?_⟩, ?_, ?_, ?_⟩
  · rw [c 143 (by omega) (by omega)]
    exact zT_c r1 e0 (fun a x y => c a (by omega) (by omega)) (fun a x => c a (by omega) (by omega))
  · unfold zRc zSx at r2 ⊢
    rw [c 143 (by omega) (by omega), c 119 (by omega) (by omega), c 120 (by omega) (by omega), c 123 (by omega) (by omega), c 124 (by omega) (by omega)]
    exact r2
  · exact zRi_c r3 e0 (c 86 (by omega) (by omega)) (c 145 (by omega) (by omega)) (c 144 (by omega) (by omega)) (fun a x y => c a (by omega) (by omega)) (fun a x => c a (by omega) (by omega))
  · exact zRi_c r4 e0 (c 86 (by omega) (by omega)) (c 145 (by omega) (by omega)) (c 144 (by omega) (by omega)) (fun a x y => c a (by omega) (by omega)) (fun a x => c a (by omega) (by omega))
  · obtain ⟨m1, m2, m3, m4, m5, m6, m7, m8, m9⟩ := r5
    unfold zRm
    rw [h87, h8, h13, h14, h15, h6, h55, c 134 (by omega) (by omega), c 168 (by omega) (by omega), c 152 (by omega) (by omega), e0]
    refine ⟨fun a x y => by rw [c a (by omega) (by omega)]; exact m1 a x y, ⟨rfl, by decide, by decide, fun j hj => absurd hj (by omega)⟩, m3, rfl, rfl, h140, ⟨m7.1, m7.2.1, m7.2.2.1, fun w i hw hi => ?_⟩, m8, m9⟩
    rw [c (136 + w) (by omega) (by omega)]
    exact m7.2.2.2 w i hw hi
theorem cm_law {d : Nat} {V : z_M} (hR : zR V) : zPr (d + 500) 102 196 [] V := by
  have hR2 := hR
  obtain ⟨⟨Λ, hT, hc⟩, r3, r4, r5⟩ := hR2
  obtain ⟨m1, ⟨t1, t2, t3, t4⟩, m3, m4, m5, m6, m7, m8, ⟨q, m9⟩⟩ := r5
  have a2 := zT_2 hT
  obtain ⟨l, hl⟩ := Int.eq_ofNat_of_zero_le a2.2.1
  obtain ⟨L, hL⟩ := Int.eq_ofNat_of_zero_le t2
  refine zb102_36 ?_
  by_cases l6 : l < 6
  · have hL400 : L ≤ 400 := by omega
    obtain ⟨x, ex⟩ := zpTx_t (b := fun j => V 88 j) (L := L) hL400 (r := 12) (f := zpSk (fun j => V 88 j) L 0) (k := 0) (zpRe_L (Nat.zero_le L))
    obtain ⟨P, hP, hPx⟩ : ∃ P : Nat → zpC, (∀ k, (P k).1 = 0 ∨ (P k).1 = 1) ∧ ∀ cs, x = .inr cs → ∀ i, i < cs.length → P i = cs.getD i zpDc := by
      rcases x with p | cs
      · exact ⟨fun _ => zpDc, fun _ => Or.inl rfl, fun _ ed => nomatch ed⟩
      · exact ⟨fun i => cs.getD i zpDc, zpTx_h (zpRe_L (Nat.zero_le L)) ex, fun ds ed i hi => by cases ed; rfl⟩
    refine z_ifp (by omega) (spx25 (P := P) (q := q) (D := d + 499) (by omega) (by rw [m9]; omega) m1 hL hL400 (fun j hj => ⟨rfl, (t4 j (by omega)).2⟩) hP ex hPx (fun p ep W w1 w2 => ?_) (fun cs ep W w1 w2 => ?_))
    · -- the text can't be
      refine z_all (z_all (z_gp (by decide) (z_ifp rfl (sp130 (d := d + 497) (by decide) ?_))))
      rw [w2]
      have e141 : zRf (-6) (z_up (z_up W 36 14 (p : Int)) 87 1 0) 141 = V 141 := by
        unfold zRf
        rw [z_up_cell (by decide), z_up_cell (by decide), z_up_cell (by decide), z_up_cell (by decide), w1 141 (by omega)]
      have ec : ∀ a, ¬ (89 ≤ a ∧ a ≤ 92) → ¬ a = 36 → ¬ a = 87 → ¬ a = 140 → zRf (-6) (z_up (z_up W 36 14 (p : Int)) 87 1 0) a = V a := fun a x1 x2 x3 x4 => by
        unfold zRf
        rw [z_up_cell x4, z_up_cell x2, z_up_cell x3, z_up_cell x2, w1 a x1]
      have e36 : zRf (-6) (z_up (z_up W 36 14 (p : Int)) 87 1 0) 36 14 = (p : Int) ∧ zRf (-6) (z_up (z_up W 36 14 (p : Int)) 87 1 0) 36 15 = -6 ∧ zRf (-6) (z_up (z_up W 36 14 (p : Int)) 87 1 0) 36 13 = V 36 13 ∧ zRf (-6) (z_up (z_up W 36 14 (p : Int)) 87 1 0) 87 1 = 0 ∧ ∀ k, zRf (-6) (z_up (z_up W 36 14 (p : Int)) 87 1 0) 140 k = if k = 6 then z_add (V 140 6) 1 else V 140 k := by
        unfold zRf
        refine ⟨by simp (disch := omega) only [zUp_o, zUp_s], by simp (disch := omega) only [zUp_o, zUp_s], by simp (disch := omega) only [zUp_o]; rw [w1 36 (by omega)], by simp (disch := omega) only [zUp_o, zUp_s], fun k => ?_⟩
        rw [show (-(-6 : Int)).toNat = 6 from rfl, z_up_rd, if_pos rfl]
        simp (disch := omega) only [z_up_cell]
        rw [w1 140 (by omega)]
      generalize zRf (-6) (z_up (z_up W 36 14 (p : Int)) 87 1 0) = Y at e141 ec e36 ⊢
      have hB : zqB Y (fun j => V 88 j) L := ⟨by rw [e141, ← t1]; exact hL, hL400, fun j hj => by
        rw [ec 146 (by omega) (by omega) (by omega) (by omega)]
        have := t4 j (by omega)
        exact ⟨this.1.symm, this.2⟩, by rw [ec 152 (by omega) (by omega) (by omega) (by omega)]; exact m8⟩
      refine sq196 (P := P) (D := d + 500) (l := l) (by omega) hB (by rw [ec 143 (by omega) (by omega) (by omega) (by omega)]; exact hl) l6 ex hPx (fun p2 ep2 Z z1 z2 z3 z4 z5 => ⟨rfl, ?_⟩) (fun cs ep2 => by rw [ep] at ep2; cases ep2)
      have pp : p2 = p := by rw [ep] at ep2; cases ep2; rfl
      subst pp
      have zc : ∀ a, ¬ a = 141 → ¬ a = 142 → zTe (-6) Z a = Z a := fun a x1 x2 => by unfold zTe; rw [z_up_cell x2, z_up_cell x1]
      have z141 : ∀ k, ¬ k = 1 → zTe (-6) Z 141 k = Z 141 k := fun k hk => by unfold zTe; rw [z_up_cell (by decide), zUp_o (by omega)]
      have z141' : zTe (-6) Z 141 1 = -6 := by unfold zTe; rw [z_up_cell (by decide), zUp_s]
      have z36 : zTe (-6) Z 36 = Y 36 := by rw [zc 36 (by decide) (by decide), z1 36 (by omega)]
      refine zR_ft hR (fun a x1 x2 x3 x4 x5 => ?_) ?_ ?_ ?_ ?_ ?_ (fun k hk => ?_) ?_ ?_
      · by_cases e : a = 141
        · unfold zKc at x1; omega
        · rw [zc a e x5, z1 a (by unfold zKc at x1; omega), ec a (by unfold zKc at x1; omega) x2 x3 x4]
      · rw [z141 6 (by decide), z3 6 (by omega), e141]
      · rw [z141 55 (by decide), z3 55 (by omega), e141]
      · rw [z36]; exact e36.2.2.1
      · rw [z36, z141 13 (by decide), z5]; exact e36.1
      · rw [z36, z141']; exact e36.2.1
      · rw [zc 140 (by decide) (by decide), z1 140 (by omega), e36.2.2.2.2 k]
        unfold zTe
        rw [show (-(-6 : Int)).toNat = 6 from rfl, z_up_rd, if_pos rfl]
        simp (disch := omega) only [z_up_cell]
        rw [z2, ec 142 (by omega) (by omega) (by omega) (by omega), m6 6 (by decide), m6 k hk]
      · rw [zc 87 (by decide) (by decide), z1 87 (by omega)]; exact e36.2.2.2.1
      · rw [z141 8 (by decide)]; exact z4
    · -- a law
      obtain ⟨v1, v2, v3, v4⟩ := w1
      have lx := zpTx_l (by rw [← ep]; exact ex)
      refine z_all (z_all ?_)
      rw [Int.toNat_natCast, v4]
      refine z_gp (by omega) (z_ifn (by omega) (zb79_37_v _ ?_))
      have s37 : z_up (z_up W 36 14 (-1)) 87 1 0 37 9 = (l : Int) := by rw [z_up_cell (by decide), z_up_cell (by decide), v3 37 (by decide) (by decide) (by omega)]; omega
      rw [s37, Int.toNat_natCast]
      have rf47 : z_rf 47 l = 0 := rfl
      refine z_ifp (by omega) (z_gp (Or.inr ⟨by omega, z_kd_q0 q⟩) (z_gp (fun _ => rf47) (z_gp (by omega) (z_all (z_all ?_)))))
      have s37' : z_up (z_up (z_up W 36 14 (-1)) 87 1 0) 47 l ((169 + 4 * q : Nat) : Int) 37 9 = (l : Int) := by rw [z_up_cell (by decide)]; exact s37
      rw [s37', z_add_e (by omega), zUp_s, z_sub_e (by omega), show (l : Int) + 1 - 1 = (l : Int) by omega]
      refine sp132 (d := d + 497) (by omega) ?_
      -- the class's memory now
      have yc : ∀ a, ¬ a = 36 → ¬ a = 37 → ¬ a = 47 → ¬ a = 87 → ¬ a = 119 → ¬ a = 123 → zDn (z_up (z_up (z_up (z_up W 36 14 (-1)) 87 1 0) 47 l ((169 + 4 * q : Nat) : Int)) 37 9 ((l : Int) + 1)) a = W a := fun a x1 x2 x3 x4 x5 x6 => by
        unfold zDn
        rw [z_up_cell x6, z_up_cell x5, z_up_cell x1, z_up_cell x2, z_up_cell x3, z_up_cell x4, z_up_cell x1]
      have yv : zDn (z_up (z_up (z_up (z_up W 36 14 (-1)) 87 1 0) 47 l ((169 + 4 * q : Nat) : Int)) 37 9 ((l : Int) + 1)) 36 14 = -1 ∧ zDn (z_up (z_up (z_up (z_up W 36 14 (-1)) 87 1 0) 47 l ((169 + 4 * q : Nat) : Int)) 37 9 ((l : Int) + 1)) 36 15 = 0 ∧ zDn (z_up (z_up (z_up (z_up W 36 14 (-1)) 87 1 0) 47 l ((169 + 4 * q : Nat) : Int)) 37 9 ((l : Int) + 1)) 36 13 = W 36 13 ∧ zDn (z_up (z_up (z_up (z_up W 36 14 (-1)) 87 1 0) 47 l ((169 + 4 * q : Nat) : Int)) 37 9 ((l : Int) + 1)) 87 1 = 0 ∧ zDn (z_up (z_up (z_up (z_up W 36 14 (-1)) 87 1 0) 47 l ((169 + 4 * q : Nat) : Int)) 37 9 ((l : Int) + 1)) 119 1 = 0 ∧ zDn (z_up (z_up (z_up (z_up W 36 14 (-1)) 87 1 0) 47 l ((169 + 4 * q : Nat) : Int)) 37 9 ((l : Int) + 1)) 123 1 = 0 ∧ zDn (z_up (z_up (z_up (z_up W 36 14 (-1)) 87 1 0) 47 l ((169 + 4 * q : Nat) : Int)) 37 9 ((l : Int) + 1)) 37 9 = (l : Int) + 1 ∧ zDn (z_up (z_up (z_up (z_up W 36 14 (-1)) 87 1 0) 47 l ((169 + 4 * q : Nat) : Int)) 37 9 ((l : Int) + 1)) 47 l = ((169 + 4 * q : Nat) : Int) := by
        unfold zDn
        refine ⟨?_, ?_, ?_, ?_, ?_, ?_, ?_, ?_⟩ <;> simp (disch := omega) only [zUp_o, zUp_s]
      have y37 : ∀ k, ¬ k = 9 → zDn (z_up (z_up (z_up (z_up W 36 14 (-1)) 87 1 0) 47 l ((169 + 4 * q : Nat) : Int)) 37 9 ((l : Int) + 1)) 37 k = W 37 k := fun k hk => by unfold zDn; simp (disch := omega) only [zUp_o]
      have y47 : ∀ k, ¬ k = l → zDn (z_up (z_up (z_up (z_up W 36 14 (-1)) 87 1 0) 47 l ((169 + 4 * q : Nat) : Int)) 37 9 ((l : Int) + 1)) 47 k = W 47 k := fun k hk => by unfold zDn; simp (disch := omega) only [zUp_o]
      generalize zDn (z_up (z_up (z_up (z_up W 36 14 (-1)) 87 1 0) 47 l ((169 + 4 * q : Nat) : Int)) 37 9 ((l : Int) + 1)) = Y at yc yv y37 y47 ⊢
      obtain ⟨yv1, yv2, yv3, yv4, yv5, yv6, yv7, yv8⟩ := yv
      have yV : ∀ a, ¬ a = 0 → a < 169 + 4 * q → ¬ (89 ≤ a ∧ a ≤ 92) → ¬ a = 36 → ¬ a = 37 → ¬ a = 47 → ¬ a = 87 → ¬ a = 119 → ¬ a = 123 → Y a = V a := fun a x0 x1 x2 x3 x4 x5 x6 x7 x8 => (yc a x3 x4 x5 x6 x7 x8).trans (v3 a x0 x2 x1)
      have hB : zqB Y (fun j => V 88 j) L := ⟨by rw [yV 141 (by omega) (by omega) (by omega) (by omega) (by omega) (by omega) (by omega) (by omega) (by omega), ← t1]; exact hL, hL400, fun j hj => by
        rw [yV 146 (by omega) (by omega) (by omega) (by omega) (by omega) (by omega) (by omega) (by omega) (by omega)]
        have := t4 j (by omega)
        exact ⟨this.1.symm, this.2⟩, by rw [yV 152 (by omega) (by omega) (by omega) (by omega) (by omega) (by omega) (by omega) (by omega) (by omega)]; exact m8⟩
      have y143 : Y 143 = V 143 := yV 143 (by omega) (by omega) (by omega) (by omega) (by omega) (by omega) (by omega) (by omega) (by omega)
      refine sq196 (P := P) (D := d + 500) (l := l) (by omega) hB (by rw [y143]; exact hl) l6 ex hPx (fun p2 ep2 => by rw [ep] at ep2; cases ep2) (fun cs2 ep2 Z s z1 z2 z3 z4 z5 z6 z7 z8 z9 z10 z11 z12 => ⟨rfl, ?_⟩)
      have cc : cs2 = cs := by rw [ep] at ep2; cases ep2; rfl
      subst cc
      have zV : ∀ a, ¬ a = 0 → a < 169 + 4 * q → ¬ (89 ≤ a ∧ a ≤ 92) → ¬ a = 36 → ¬ a = 37 → ¬ a = 47 → ¬ a = 87 → ¬ a = 119 → ¬ a = 123 → ¬ a = 141 → ¬ a = 143 → ¬ (147 ≤ a ∧ a ≤ 151) → Z a = V a := fun a x0 x1 x2 x3 x4 x5 x6 x7 x8 x9 x10 x11 => (z2 a (by omega)).trans (yV a x0 x1 x2 x3 x4 x5 x6 x7 x8)
      have zz : Z 0 = W 0 := (z2 0 (by omega)).trans (yc 0 (by decide) (by decide) (by decide) (by decide) (by decide) (by decide))
      have z00 : V 0 0 ≤ Z 0 0 := by rw [zz, v1, m9]; omega
      have z0k : ∀ k : Nat, ¬ k = 0 → (k : Int) < V 0 0 → Z 0 k = V 0 k := fun k k1 k2 => by rw [zz]; exact v2 k k1 (by omega)
      have zl : ∀ a : Nat, 169 ≤ a → (a : Int) < V 0 0 → Z a = V a := fun a x1 x2 => zV a (by omega) (by omega) (by omega) (by omega) (by omega) (by omega) (by omega) (by omega) (by omega) (by omega) (by omega) (by omega)
      have zlx : zLx Z (169 + 4 * q) (zpLaw P cs2.length) := by
        have cw : ∀ a, 169 + 4 * q ≤ a → Z a = W a := fun a ha => (z2 a (by omega)).trans (yc a (by omega) (by omega) (by omega) (by omega) (by omega) (by omega))
        exact zLx_c2 w2 (fun i _ _ => by rw [zz]) (cw _ (by omega)) (cw _ (by omega)) (cw _ (by omega)) (cw _ (by omega))
      refine ⟨⟨_, zT_law (ρ' := Z 143) hT hl l6 (fun i i1 i2 => by rw [z12 i i1 i2, y143]) z7 m9 (by rw [zz, v1]; omega) (fun k k1 k2 => by rw [zz]; exact v2 k k1 k2) (fun k hk => by rw [z2 37 (by omega), y37 k hk, v3 37 (by decide) (by decide) (by omega)]) (by rw [z2 37 (by omega)]; exact yv7) ⟨by rw [z2 47 (by omega), yv8]; omega, fun i hi => by rw [z2 47 (by omega), y47 i hi, v3 47 (by decide) (by decide) (by omega)]⟩ (fun a x1 x2 x3 => zV a (by omega) (by omega) (by omega) (by omega) (by omega) (by omega) (by omega) (by omega) (by omega) (by omega) (by omega) (by omega)) (fun a x1 x2 => zl a x1 (by omega)) zlx (zLm_q lx.1 lx.2 z1 hP z8 z9 z10 z11), fun n R m _ _ _ => ⟨Or.inl (by rw [z2 119 (by omega)]; exact yv5), Or.inl (by rw [z2 123 (by omega)]; exact yv6)⟩⟩, ?_, ?_, ?_⟩
      · exact zRi_g r3 z00 z0k (zV 86 (by omega) (by omega) (by omega) (by omega) (by omega) (by omega) (by omega) (by omega) (by omega) (by omega) (by omega) (by omega)) (zV 145 (by omega) (by omega) (by omega) (by omega) (by omega) (by omega) (by omega) (by omega) (by omega) (by omega) (by omega) (by omega)) (zV 144 (by omega) (by omega) (by omega) (by omega) (by omega) (by omega) (by omega) (by omega) (by omega) (by omega) (by omega) (by omega)) (fun a x y => zV a (by omega) (by omega) (by omega) (by omega) (by omega) (by omega) (by omega) (by omega) (by omega) (by omega) (by omega) (by omega)) zl
      · exact zRi_g r4 z00 z0k (zV 86 (by omega) (by omega) (by omega) (by omega) (by omega) (by omega) (by omega) (by omega) (by omega) (by omega) (by omega) (by omega)) (zV 145 (by omega) (by omega) (by omega) (by omega) (by omega) (by omega) (by omega) (by omega) (by omega) (by omega) (by omega) (by omega)) (zV 144 (by omega) (by omega) (by omega) (by omega) (by omega) (by omega) (by omega) (by omega) (by omega) (by omega) (by omega) (by omega)) (fun a x y => zV a (by omega) (by omega) (by omega) (by omega) (by omega) (by omega) (by omega) (by omega) (by omega) (by omega) (by omega) (by omega)) zl
      · have y141 : Y 141 = V 141 := yV 141 (by omega) (by omega) (by omega) (by omega) (by omega) (by omega) (by omega) (by omega) (by omega)
        have z36 : Z 36 = Y 36 := z2 36 (by omega)
        unfold zRm
        rw [z36, yv1, yv2, yv3, z2 87 (by omega), yv4, z5, z4, z6, z3 6 (by omega), z3 55 (by omega), y141, v3 36 (by decide) (by decide) (by omega), zV 134 (by omega) (by omega) (by omega) (by omega) (by omega) (by omega) (by omega) (by omega) (by omega) (by omega) (by omega) (by omega), zV 140 (by omega) (by omega) (by omega) (by omega) (by omega) (by omega) (by omega) (by omega) (by omega) (by omega) (by omega) (by omega), zV 142 (by omega) (by omega) (by omega) (by omega) (by omega) (by omega) (by omega) (by omega) (by omega) (by omega) (by omega) (by omega), zV 168 (by omega) (by omega) (by omega) (by omega) (by omega) (by omega) (by omega) (by omega) (by omega) (by omega) (by omega) (by omega), zV 152 (by omega) (by omega) (by omega) (by omega) (by omega) (by omega) (by omega) (by omega) (by omega) (by omega) (by omega) (by omega)]
        refine ⟨fun a x y => by rw [zV a (by omega) (by omega) (by omega) (by omega) (by omega) (by omega) (by omega) (by omega) (by omega) (by omega) (by omega) (by omega)]; exact m1 a x y, ⟨rfl, by decide, by decide, fun j hj => absurd hj (by omega)⟩, m3, rfl, rfl, m6, ⟨m7.1, m7.2.1, m7.2.2.1, fun w i hw hi => ?_⟩, m8, q + 1, by rw [zz, v1]; omega⟩
        rw [zV (136 + w) (by omega) (by omega) (by omega) (by omega) (by omega) (by omega) (by omega) (by omega) (by omega) (by omega) (by omega) (by omega)]
        exact m7.2.2.2 w i hw hi
  · -- no room for another
    have l6' : l = 6 := by omega
    refine z_ifn (by omega) (z_all (sp130 (d := d + 497) (by decide) (zb196_141 (z_all (z_ifp ?_ (z_all (sp149 (d := d + 498) (by decide) ⟨rfl, ?_⟩)))))))
    · unfold zRf
      rw [z_up_cell (by decide), z_up_cell (by decide), z_up_cell (by decide), z_up_cell (by decide), hl, l6']
      rfl
    · refine zR_ft hR (fun a x1 x2 x3 x4 x5 => ?_) ?_ ?_ ?_ ?_ ?_ (fun k hk => ?_) ?_ ?_
      · have : ¬ a = 141 := by unfold zKc at x1; omega
        unfold zTe zRf
        rw [z_up_cell x5, z_up_cell this, z_up_cell this, z_up_cell this, z_up_cell x4, z_up_cell x2, z_up_cell x3]
      · unfold zTe zRf; simp (disch := omega) only [zUp_o]
      · unfold zTe zRf; simp (disch := omega) only [zUp_o]
      · unfold zTe zRf; simp (disch := omega) only [zUp_o]
      · unfold zTe zRf; simp (disch := omega) only [zUp_o]; exact m4
      · unfold zTe zRf; simp (disch := omega) only [zUp_o, zUp_s]
      · unfold zTe zRf
        rw [show (-(-5 : Int)).toNat = 5 from rfl]
        by_cases e : k = 5
        · subst e
          simp (disch := omega) only [zUp_o, zUp_s]
          rw [m6 5 (by decide)]
        · simp (disch := omega) only [zUp_o]
          exact m6 k hk
      · unfold zTe zRf; simp (disch := omega) only [zUp_o, zUp_s]
      · unfold zTe zRf; simp (disch := omega) only [zUp_o, zUp_s]
