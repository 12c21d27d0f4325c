/-! law: the class and the reference -/
section
variable {b : Nat → Int} {L n : Nat}
theorem spx25 {D q : Nat} {V : z_M} {Q : Int → z_M → Prop} {P : Nat → zpC} {x : zpTR} (hD : 403 ≤ D) (h00 : V 0 0 = ((169 + 4 * q : Nat) : Int)) (hSt : zSt V) (h87 : V 87 1 = (L : Int)) (hL : L ≤ 400) (hb : ∀ j, j < L → V 88 j = b j ∧ 0 ≤ b j ∧ b j ≤ 255) (hP : ∀ k, (P k).1 = 0 ∨ (P k).1 = 1) (e : zpTx b L n 12 (zpSk b L 0) 0 = some x) (hPx : ∀ cs, x = .inr cs → ∀ i, i < cs.length → P i = cs.getD i zpDc)
    (h0 : ∀ p : Nat, x = .inl p → ∀ W, (∀ a, ¬ (89 ≤ a ∧ a ≤ 92) → W a = V a) → W 89 9 = (p : Int) → Q 0 W) (h1 : ∀ cs, x = .inr cs → ∀ W, zXr V W q → zLx W (169 + 4 * q) (zpLaw P cs.length) → Q ((169 + 4 * q : Nat) : Int) W) : z_MS D 25 true [.inr (.inr 89), .inr (.inr 87)] V Q := by
  obtain ⟨D, rfl⟩ : ∃ D2, D = D2 + 10 := ⟨D - 10, by omega⟩
  refine zb25_89_87 (z_all (z_all (z_all (z_all (z_all (z_all ?_))))))
  have e6 : z_min (z_up V 89 5 (88 : Nat) 87 1) 400 = (L : Int) := by
    rw [z_up_cell (by decide), h87]
    unfold z_min
    split <;> omega
  rw [e6]
  have c : ∀ a, ¬ a = 89 → z_up (z_up (z_up (z_up (z_up (z_up V 89 5 (88 : Nat)) 89 6 (L : Int)) 89 3 0) 89 4 0) 89 8 0) 89 9 (-1) a = V a := fun a ha => by rw [z_up_cell ha, z_up_cell ha, z_up_cell ha, z_up_cell ha, z_up_cell ha, z_up_cell ha]
  have k5 : z_up (z_up (z_up (z_up (z_up (z_up V 89 5 (88 : Nat)) 89 6 (L : Int)) 89 3 0) 89 4 0) 89 8 0) 89 9 (-1) 89 5 = 88 ∧ z_up (z_up (z_up (z_up (z_up (z_up V 89 5 (88 : Nat)) 89 6 (L : Int)) 89 3 0) 89 4 0) 89 8 0) 89 9 (-1) 89 6 = (L : Int) ∧ z_up (z_up (z_up (z_up (z_up (z_up V 89 5 (88 : Nat)) 89 6 (L : Int)) 89 3 0) 89 4 0) 89 8 0) 89 9 (-1) 89 3 = 0 ∧ z_up (z_up (z_up (z_up (z_up (z_up V 89 5 (88 : Nat)) 89 6 (L : Int)) 89 3 0) 89 4 0) 89 8 0) 89 9 (-1) 89 4 = 0 ∧ z_up (z_up (z_up (z_up (z_up (z_up V 89 5 (88 : Nat)) 89 6 (L : Int)) 89 3 0) 89 4 0) 89 8 0) 89 9 (-1) 89 8 = 0 ∧ z_up (z_up (z_up (z_up (z_up (z_up V 89 5 (88 : Nat)) 89 6 (L : Int)) 89 3 0) 89 4 0) 89 8 0) 89 9 (-1) 89 9 = -1 := ⟨rfl, rfl, rfl, rfl, rfl, rfl⟩
  generalize z_up (z_up (z_up (z_up (z_up (z_up V 89 5 (88 : Nat)) 89 6 (L : Int)) 89 3 0) 89 4 0) 89 8 0) 89 9 (-1) = U at c k5 ⊢
  have hX : zXb U b L := ⟨k5.1, k5.2.1, hL, fun j hj => by rw [c 88 (by decide)]; exact hb j hj, fun a y z => by rw [c a (by omega)]; exact hSt a y z⟩
  have hs : zpSk b L 0 ≤ L := zpRe_L (Nat.zero_le L)
  refine sp40 (d := D + 7) (t := 0) hX k5.2.2.2.2.1 (Nat.zero_le L) (fun W w1 w2 w3 => ?_)
  have hS : zXs W b L (zpSk b L 0) 0 0 := ⟨zXb_c hX (w1.2 5 (by decide) (by decide)) (w1.2 6 (by decide) (by decide)) (w1.1 88 (by decide)) (fun a x y => w1.1 a (by omega)), w2, w3, (w1.2 4 (by decide) (by decide)).trans k5.2.2.2.1, (w1.2 3 (by decide) (by decide)).trans k5.2.2.1, hs, (w1.2 9 (by decide) (by decide)).trans k5.2.2.2.2.2⟩
  have hV : ∀ a, ¬ (89 ≤ a ∧ a ≤ 92) → W a = V a := fun a ha => (w1.1 a (by omega)).trans (c a (by omega))
  refine spx25_50 (P := P) (V0 := V) (D := D + 9) (by omega) h00 hP 12 0 _ _ x W 0 (fun _ => 0) _ rfl e hS (Nat.zero_le _) hV (fun j hj => absurd hj (by omega)) rfl (fun _ j hj => absurd hj (by omega)) (fun cs ed i hi => by rw [Nat.zero_add]; exact hPx cs ed i hi) h0 (fun cs ed W2 y1 y2 => h1 cs ed W2 y1 (by rw [Nat.zero_add] at y2; exact y2))
theorem zpTx_h : ∀ {r f k : Nat} {cs : List zpC}, f ≤ L → zpTx b L n r f k = some (.inr cs) → ∀ i, (cs.getD i zpDc).1 = 0 ∨ (cs.getD i zpDc).1 = 1
  | 0, _, _, _, _, e => nomatch e
  | r + 1, f, k, cs, hf, e => by
    intro i
    rcases zpTx_e e with ⟨p, _, h⟩ | ⟨f2, k2, c, h1, ⟨_, h⟩ | ⟨_, _, h⟩ | ⟨_, _, ⟨p, _, h⟩ | ⟨ds, h2, h⟩⟩⟩
    · cases h
    · cases h
      cases i with
      | zero => exact (zpCl_k hf h1).2.2
      | succ i => exact Or.inl rfl
    · cases h
    · cases h
    · cases h
      cases i with
      | zero => exact (zpCl_k hf h1).2.2
      | succ i => exact zpTx_h (zpNx_p (zpCl_k hf h1).2.1).2.2.1 h2 i
/-- the reference's end of a law that can be -/
theorem sq97 {D l nc s : Nat} {V : z_M} {Q : Int → z_M → Prop} (h14 : V 141 14 = 0) (h15 : V 141 15 = (nc : Int)) (hnc : nc ≤ 12) (h17 : V 141 17 = (s : Int)) (hs : s ≤ 400) (h2 : V 143 2 = (l : Int)) (hl : l < 6)
    (h : ∀ W : z_M, (∀ a, ¬ a = 141 → ¬ a = 143 → W a = V a) → (∀ k, ¬ k = 1 → ¬ k = 8 → W 141 k = V 141 k) → W 141 1 = 0 → W 141 8 = 0 → W 143 2 = (l : Int) + 1 → W 143 (91 + 900 * l) = (nc : Int) → (∀ k, k < 8 * nc → W 143 (92 + 900 * l + k) = V 147 k) → (∀ j, j < s → W 143 (188 + 900 * l + 2 * j) = V 148 j ∧ W 143 (189 + 900 * l + 2 * j) = V 149 j) → (∀ i, ¬ i = 2 → (i < 91 + 900 * l ∨ 990 + 900 * l ≤ i) → W 143 i = V 143 i) → Q (l : Int) W) : zq97 (D + 1) Q V := by
  have inv : ∀ W : z_M, (∀ a, ¬ a = 143 → W a = z_up V 141 8 0 a) → (∀ i, (i < 91 + 900 * l ∨ 990 + 900 * l ≤ i) → W 143 i = V 143 i) → W 141 15 = (nc : Int) ∧ W 141 17 = (s : Int) ∧ W 143 2 = (l : Int) ∧ (∀ j, W 147 j = V 147 j ∧ W 148 j = V 148 j ∧ W 149 j = V 149 j) := fun W w1 w2 => ⟨by rw [w1 141 (by decide), zUp_o (by omega)]; exact h15, by rw [w1 141 (by decide), zUp_o (by omega)]; exact h17, by rw [w2 2 (by omega)]; exact h2, fun j => by rw [w1 147 (by decide), w1 148 (by decide), w1 149 (by decide), z_up_cell (by decide), z_up_cell (by decide), z_up_cell (by decide)]; exact ⟨rfl, rfl, rfl⟩⟩
  -- the code
  have lp2 : ∀ (n j : Nat) (W : z_M), j + n = s → (∀ a, ¬ a = 143 → W a = z_up V 141 8 0 a) → (∀ i, (i < 91 + 900 * l ∨ 990 + 900 * l ≤ i) → W 143 i = V 143 i) → W 143 (91 + 900 * l) = (nc : Int) → (∀ k, k < 8 * nc → W 143 (92 + 900 * l + k) = V 147 k) → (∀ i, i < j → W 143 (188 + 900 * l + 2 * i) = V 148 i ∧ W 143 (189 + 900 * l + 2 * i) = V 149 i) → z_Ex (z_MS (D + 1)) 196 Q true 179 [some (.inr (.inr 141)), some (.inl ((90 + 900 * l : Nat) : Int)), some (.inl (j : Int))] [] 0 0 W := by
    intro n
    induction n with
    | zero =>
      intro j W e w1 w2 w3 w4 w5
      obtain ⟨i1, i2, i3, i4⟩ := inv W w1 w2
      have ej : j = s := by omega
      subst ej
      refine zb196_141_p179 _ _ (z_ifn (by omega) (z_all ?_))
      rw [i3, z_add_e (by omega), zUp_s, z_sub_e (by omega), show (l : Int) + 1 - 1 = (l : Int) by omega]
      refine sp149p (d := D) (by omega) (h _ (fun a x y => by rw [z_up_cell x, z_up_cell y, w1 a y, z_up_cell x]) (fun k x y => by rw [zUp_o (by omega), z_up_cell (by decide), w1 141 (by decide), zUp_o (by omega)]) zUp_s (by rw [zUp_o (by omega), z_up_cell (by decide), w1 141 (by decide), zUp_s]) (by rw [z_up_cell (by decide), zUp_s]) (by rw [z_up_cell (by decide), zUp_o (by omega)]; exact w3) (fun k hk => by rw [z_up_cell (by decide), zUp_o (by omega)]; exact w4 k hk) (fun i hi => by rw [z_up_cell (by decide), zUp_o (by omega), zUp_o (by omega)]; exact w5 i hi) (fun i x y => by rw [z_up_cell (by decide), zUp_o (by omega)]; exact w2 i y))
    | succ n ih =>
      intro j W e w1 w2 w3 w4 w5
      obtain ⟨i1, i2, i3, i4⟩ := inv W w1 w2
      refine zb196_141_p179 _ _ (z_ifp (by omega) (z_gp (by omega) (z_all ?_)))
      have a1 : z_add (z_add ((90 + 900 * l : Nat) : Int) 98) (z_mul 2 (j : Int)) = ((188 + 900 * l + 2 * j : Nat) : Int) := by simp (disch := omega) only [z_mul_e, z_add_e, z_sub_e]; omega
      have a2 : z_add ((188 + 900 * l + 2 * j : Nat) : Int) 1 = ((189 + 900 * l + 2 * j : Nat) : Int) := by simp (disch := omega) only [z_mul_e, z_add_e, z_sub_e]; omega
      rw [a1, a2, Int.toNat_natCast, Int.toNat_natCast, Int.toNat_natCast, (i4 j).2.1]
      refine z_gp (by omega) (z_all (z_gp (by omega) (z_all ?_)))
      rw [z_up_cell (by decide), (i4 j).2.2, z_inc (by omega)]
      refine z_gp (by omega) (z_all (ih (j + 1) _ (by omega) (fun a x => by rw [z_up_cell x, z_up_cell x]; exact w1 a x) (fun i hi => by rw [zUp_o (by omega), zUp_o (by omega)]; exact w2 i hi) (by rw [zUp_o (by omega), zUp_o (by omega)]; exact w3) (fun k hk => by rw [zUp_o (by omega), zUp_o (by omega)]; exact w4 k hk) (fun i hi => ?_)))
      by_cases ei : i = j
      · subst ei
        rw [zUp_s, zUp_o (by omega), zUp_s]
        exact ⟨rfl, rfl⟩
      · rw [zUp_o (by omega), zUp_o (by omega), zUp_o (by omega), zUp_o (by omega)]
        exact w5 i (by omega)
  -- the clauses
  have lp1 : ∀ (n j : Nat) (W : z_M), j + n = 8 * nc → (∀ a, ¬ a = 143 → W a = z_up V 141 8 0 a) → (∀ i, (i < 91 + 900 * l ∨ 990 + 900 * l ≤ i) → W 143 i = V 143 i) → W 143 (91 + 900 * l) = (nc : Int) → (∀ k, k < j → W 143 (92 + 900 * l + k) = V 147 k) → z_Ex (z_MS (D + 1)) 196 Q true 144 [some (.inr (.inr 141)), some (.inl ((90 + 900 * l : Nat) : Int)), some (.inl (j : Int))] [] 0 0 W := by
    intro n
    induction n with
    | zero =>
      intro j W e w1 w2 w3 w4
      obtain ⟨i1, i2, i3, i4⟩ := inv W w1 w2
      have ej : j = 8 * nc := by omega
      subst ej
      refine zb196_141_p144 _ _ (z_ifn (by rw [i1, z_mul_e (by omega)]; omega) (lp2 s 0 W (by omega) w1 w2 w3 w4 (fun i hi => absurd hi (by omega))))
    | succ n ih =>
      intro j W e w1 w2 w3 w4
      obtain ⟨i1, i2, i3, i4⟩ := inv W w1 w2
      refine zb196_141_p144 _ _ (z_ifp (by rw [i1, z_mul_e (by omega)]; omega) (z_gp (by omega) (z_all ?_)))
      have a1 : z_add (z_add ((90 + 900 * l : Nat) : Int) 2) (j : Int) = ((92 + 900 * l + j : Nat) : Int) := by simp (disch := omega) only [z_mul_e, z_add_e, z_sub_e]; omega
      rw [a1, Int.toNat_natCast, Int.toNat_natCast, (i4 j).1, z_inc (by omega)]
      refine z_gp (by omega) (z_all (ih (j + 1) _ (by omega) (fun a x => by rw [z_up_cell x]; exact w1 a x) (fun i hi => by rw [zUp_o (by omega)]; exact w2 i hi) (by rw [zUp_o (by omega)]; exact w3) (fun k hk => ?_)))
      by_cases ek : k = j
      · subst ek; exact zUp_s
      · rw [zUp_o (by omega)]; exact w4 k (by omega)
  refine zb196_141_p97 (z_all (z_ifp (by rw [zUp_o (by omega)]; exact h14) ?_))
  have a0 : z_add 90 (z_mul 900 (z_up V 141 8 0 143 2)) = ((90 + 900 * l : Nat) : Int) := by rw [z_up_cell (by decide), h2]; simp (disch := omega) only [z_mul_e, z_add_e, z_sub_e]; omega
  have a1 : z_add ((90 + 900 * l : Nat) : Int) 1 = ((91 + 900 * l : Nat) : Int) := by simp (disch := omega) only [z_mul_e, z_add_e, z_sub_e]; omega
  rw [a0, a1, Int.toNat_natCast, zUp_o (by omega), h15]
  refine z_gp (by omega) (z_all (lp1 (8 * nc) 0 _ (by omega) (fun a x => z_up_cell x) (fun i hi => by rw [zUp_o (by omega), z_up_cell (by decide)]) zUp_s (fun k hk => absurd hk (by omega))))
/-- the reference reads a law -/
theorem sq196 {D l : Nat} {V : z_M} {Q : Int → z_M → Prop} {P : Nat → zpC} {x : zpTR} (hD : 20 ≤ D) (hB : zqB V b L) (h2 : V 143 2 = (l : Int)) (hl : l < 6) (e : zpTx b L n 12 (zpSk b L 0) 0 = some x) (hPx : ∀ cs, x = .inr cs → ∀ i, i < cs.length → P i = cs.getD i zpDc)
    (h0 : ∀ p : Nat, x = .inl p → ∀ W, (∀ a, ¬ (a = 141 ∨ a = 142 ∨ (147 ≤ a ∧ a ≤ 151)) → W a = V a) → W 142 = V 142 → (∀ k, (1 < k ∧ k < 8) ∨ 25 ≤ k → W 141 k = V 141 k) → W 141 8 = 0 → W 141 13 = (p : Int) → Q (-6) (zTe (-6) W))
    (h1 : ∀ cs, x = .inr cs → ∀ (W : z_M) (s : Nat), s ≤ 400 → (∀ a, ¬ (a = 141 ∨ a = 143 ∨ (147 ≤ a ∧ a ≤ 151)) → W a = V a) → (∀ k, (1 < k ∧ k < 8) ∨ 25 ≤ k → W 141 k = V 141 k) → W 141 1 = 0 → W 141 8 = 0 → W 141 13 = -1 → W 143 2 = (l : Int) + 1 → W 143 (91 + 900 * l) = (cs.length : Int) → (∀ j, j < cs.length → zqQ W j s (P j)) → (∀ k, k < 8 * cs.length → W 143 (92 + 900 * l + k) = W 147 k) → (∀ j, j < s → W 143 (188 + 900 * l + 2 * j) = W 148 j ∧ W 143 (189 + 900 * l + 2 * j) = W 149 j) → (∀ i, ¬ i = 2 → (i < 91 + 900 * l ∨ 990 + 900 * l ≤ i) → W 143 i = V 143 i) → Q (l : Int) W) : z_MS D 196 true [.inr (.inr 141)] V Q := by
  obtain ⟨D, rfl⟩ : ∃ D2, D = D2 + 12 := ⟨D - 12, by omega⟩
  have hL := hB.2.1
  refine zb196_141 (z_all (z_ifn (by rw [z_up_cell (by decide), h2]; omega) (zb175_141 (z_all (z_all (z_all ?_))))))
  have q0 : zqB (z_up (z_up (z_up (z_up V 141 0 0) 141 10 0) 141 14 0) 141 13 (-1)) b L := ⟨by simp (disch := omega) only [zUp_o]; exact hB.1, hB.2.1, by rw [z_up_cell (by decide), z_up_cell (by decide), z_up_cell (by decide), z_up_cell (by decide)]; exact hB.2.2.1, by rw [z_up_cell (by decide), z_up_cell (by decide), z_up_cell (by decide), z_up_cell (by decide)]; exact hB.2.2.2⟩
  have q1 : z_up (z_up (z_up (z_up V 141 0 0) 141 10 0) 141 14 0) 141 13 (-1) 141 10 = ((0 : Nat) : Int) := by simp (disch := omega) only [zUp_o, zUp_s]; rfl
  have q2 : z_up (z_up (z_up (z_up V 141 0 0) 141 10 0) 141 14 0) 141 13 (-1) 141 14 = 0 := by simp (disch := omega) only [zUp_o, zUp_s]
  have q3 : z_up (z_up (z_up (z_up V 141 0 0) 141 10 0) 141 14 0) 141 13 (-1) 141 13 = -1 := zUp_s
  have q4 : zqV (z_up V 141 0 0) (z_up (z_up (z_up (z_up V 141 0 0) 141 10 0) 141 14 0) 141 13 (-1)) := ⟨fun a ha => by rw [z_up_cell (by omega), z_up_cell (by omega), z_up_cell (by omega)], fun k hk => by rw [zUp_o (by omega), zUp_o (by omega), zUp_o (by omega)]⟩
  generalize z_up (z_up (z_up (z_up V 141 0 0) 141 10 0) 141 14 0) 141 13 (-1) = U at q0 q1 q2 q3 q4 ⊢
  refine sp176 (d := D + 8) q0 q1 (Nat.zero_le L) (fun W w1 w2 => z_all (z_all (z_all ?_)))
  have u : ∀ k, ¬ k = 15 → ¬ k = 17 → ¬ k = 20 → z_up (z_up (z_up W 141 15 0) 141 17 0) 141 20 0 141 k = W 141 k := fun k k1 k2 k3 => by rw [zUp_o (by omega), zUp_o (by omega), zUp_o (by omega)]
  have uc : ∀ a, ¬ a = 141 → z_up (z_up (z_up W 141 15 0) 141 17 0) 141 20 0 a = W a := fun a ha => by rw [z_up_cell ha, z_up_cell ha, z_up_cell ha]
  have u15 : z_up (z_up (z_up W 141 15 0) 141 17 0) 141 20 0 141 15 = ((0 : Nat) : Int) ∧ z_up (z_up (z_up W 141 15 0) 141 17 0) 141 20 0 141 17 = ((0 : Nat) : Int) ∧ z_up (z_up (z_up W 141 15 0) 141 17 0) 141 20 0 141 20 = ((0 : Nat) : Int) := ⟨rfl, rfl, rfl⟩
  generalize z_up (z_up (z_up W 141 15 0) 141 17 0) 141 20 0 = X at u uc u15 ⊢
  have hS : zqS0 X b L (zpSk b L 0) 0 0 := by
    obtain ⟨t1, t2, t3, t4, t5⟩ := w2
    have bW := zqB_n q0 w1
    exact ⟨⟨(u 8 (by decide) (by decide) (by decide)).trans bW.1, bW.2.1, by rw [uc 146 (by decide)]; exact bW.2.2.1, by rw [uc 152 (by decide)]; exact bW.2.2.2⟩, ⟨(u 9 (by decide) (by decide) (by decide)).trans t1, (u 10 (by decide) (by decide) (by decide)).trans t2, (u 11 (by decide) (by decide) (by decide)).trans t3, (u 12 (by decide) (by decide) (by decide)).trans t4, t5⟩, (u 14 (by decide) (by decide) (by decide)).trans ((w1.2 14 (by omega)).trans q2), (u 13 (by decide) (by decide) (by decide)).trans ((w1.2 13 (by omega)).trans q3), u15.2.2, u15.2.1⟩
  have hV : zqV (z_up V 141 0 0) X := zqV_t (zqV_t q4 (zqV_x (zqX_n w1))) ⟨fun a ha => uc a (by omega), fun k hk => u k (by omega) (by omega) (by omega)⟩
  refine sq_text (P := P) (D := D + 11) (by omega) 12 0 _ _ x X 0 rfl e hV hS (Nat.zero_le _) u15.1 (fun _ j hj => absurd hj (by omega)) (fun cs ed i hi => by rw [Nat.zero_add]; exact hPx cs ed i hi) (fun p ed Y y1 y2 y3 => ?_) (fun cs ed Y s y1 y2 y3 y4 y5 y6 y7 => ?_)
  · refine zb196_141_p97 (z_all (z_ifn (by rw [zUp_o (by omega), y2]; decide) (sp149 (d := D + 10) (by decide) (h0 p ed _ (fun a ha => ?_) ?_ (fun k hk => ?_) zUp_s (by rw [zUp_o (by omega)]; exact y3)))))
    · rw [z_up_cell (by omega), y1.1 a (by omega), z_up_cell (by omega)]
    · rw [z_up_cell (by decide), y1.1 142 (by omega), z_up_cell (by decide)]
    · rw [zUp_o (by omega), y1.2 k (by omega), zUp_o (by omega)]
  · rw [Nat.zero_add] at y4 y7
    have hlen : cs.length ≤ 12 := by rw [ed] at e; exact (zpTx_l e).2
    refine sq97 (D := D + 10) y2 y4 hlen y5 y6 (by rw [y1.1 143 (by omega), z_up_cell (by decide)]; exact h2) hl (fun Z z1 z2 z3 z4 z5 z6 z7 z8 z9 => ?_)
    refine h1 cs ed Z s y6 (fun a ha => ?_) (fun k hk => ?_) z3 z4 ((z2 13 (by decide) (by decide)).trans y3) z5 z6 (fun j hj => ?_) (fun k hk => ?_) (fun j hj => ?_) (fun i i1 i2 => ?_)
    · rw [z1 a (by omega) (by omega), y1.1 a (by omega), z_up_cell (by omega)]
    · rw [z2 k (by omega) (by omega), y1.2 k (by omega), zUp_o (by omega)]
    · exact zqQ_f (y7 j hj) (Nat.le_refl s) (fun i _ _ => by rw [z1 147 (by decide) (by decide)]) (fun i _ => by rw [z1 148 (by decide) (by decide), z1 149 (by decide) (by decide)]; exact ⟨rfl, rfl⟩)
    · rw [z7 k hk, z1 147 (by decide) (by decide)]
    · rw [z1 148 (by decide) (by decide), z1 149 (by decide) (by decide)]; exact z8 j hj
    · rw [z9 i i1 i2, y1.1 143 (by omega), z_up_cell (by decide)]
end
