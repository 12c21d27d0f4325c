/-! the tape -/
theorem z_and_255 (a : Int) : 0 ≤ z_and a 255 ∧ z_and a 255 ≤ 255 := by
  unfold z_and z_i32
  show 0 ≤ (Int32.ofInt a &&& Int32.ofInt 255).toInt ∧ (Int32.ofInt a &&& Int32.ofInt 255).toInt ≤ 255
  generalize Int32.ofInt a = x
  have h1 : (x &&& Int32.ofInt 255).toInt = (x.toBitVec &&& 255#32).toInt := rfl
  have h2 : (x.toBitVec &&& 255#32).toNat ≤ 255 := by
    rw [BitVec.toNat_and]
    exact Nat.and_le_right
  rw [h1, BitVec.toInt_eq_toNat_of_lt (by omega)]
  omega
def zBy (a : Int) (k : Nat) : Int := z_and (z_shr a (24 - 8 * (k : Int))) 255
theorem zR_tape {V X : z_M} (hR : zR V) (h : ∀ a, ¬ a = 87 → ¬ a = 88 → ¬ a = 146 → ¬ a = 141 → X a = V a) (hf : ∀ k, zKf k → ¬ k = 8 → X 141 k = V 141 k) (ht : X 87 1 = X 141 8 ∧ 0 ≤ X 87 1 ∧ X 87 1 ≤ 400 ∧ ∀ j : Nat, (j : Int) < X 87 1 → X 88 j = X 146 j ∧ 0 ≤ X 88 j ∧ X 88 j ≤ 255) : zR X := by
  obtain ⟨⟨Λ, r1, r2⟩, r3, r4, r5⟩ := hR
  have c : ∀ a, ¬ a = 87 → ¬ a = 88 → ¬ a = 146 → ¬ a = 141 → X a = V a := h
  have e0 := c 0 (by omega) (by omega) (by omega) (by omega)
  refine ⟨⟨Λ, ?_, ?_⟩, ?_, ?_, ?_⟩
  · rw [c 143 (by omega) (by omega) (by omega) (by omega)]
    exact zT_c r1 e0 (fun a x y => c a (by omega) (by omega) (by omega) (by omega)) (fun a x => c a (by omega) (by omega) (by omega) (by omega))
  · unfold zRc zSx at r2 ⊢
    rw [c 143 (by omega) (by omega) (by omega) (by omega), c 119 (by omega) (by omega) (by omega) (by omega), c 120 (by omega) (by omega) (by omega) (by omega), c 123 (by omega) (by omega) (by omega) (by omega), c 124 (by omega) (by omega) (by omega) (by omega)]
    exact r2
  · exact zRi_c r3 e0 (c 86 (by omega) (by omega) (by omega) (by omega)) (c 145 (by omega) (by omega) (by omega) (by omega)) (c 144 (by omega) (by omega) (by omega) (by omega)) (fun a x y => c a (by omega) (by omega) (by omega) (by omega)) (fun a x => c a (by omega) (by omega) (by omega) (by omega))
  · exact zRi_c r4 e0 (c 86 (by omega) (by omega) (by omega) (by omega)) (c 145 (by omega) (by omega) (by omega) (by omega)) (c 144 (by omega) (by omega) (by omega) (by omega)) (fun a x y => c a (by omega) (by omega) (by omega) (by omega)) (fun a x => c a (by omega) (by omega) (by omega) (by omega))
  · obtain ⟨m1, m2, m3, m4, m5, m6, m7, m8, m9⟩ := r5
    unfold zRm
    rw [c 36 (by omega) (by omega) (by omega) (by omega), c 134 (by omega) (by omega) (by omega) (by omega), c 140 (by omega) (by omega) (by omega) (by omega), c 142 (by omega) (by omega) (by omega) (by omega), c 168 (by omega) (by omega) (by omega) (by omega), c 152 (by omega) (by omega) (by omega) (by omega), e0, hf 1 (by unfold zKf; omega) (by omega), hf 6 (by unfold zKf; omega) (by omega), hf 13 (by unfold zKf; omega) (by omega), hf 55 (by unfold zKf; omega) (by omega)]
    refine ⟨fun a x y => by rw [c a (by omega) (by omega) (by omega) (by omega)]; exact m1 a x y, ht, m3, m4, m5, m6, ⟨m7.1, m7.2.1, m7.2.2.1, fun w i hw hi => ?_⟩, m8, m9⟩
    rw [c (136 + w) (by omega) (by omega) (by omega) (by omega)]
    exact m7.2.2.2 w i hw hi
section
variable {d : Nat} {Q : Int → z_M → Prop}
theorem cm_end {V : z_M} (hR : zR V) (k : Int) : zPr (d + 2) 99 172 [.inl k] V := by
  have hR2 := hR
  obtain ⟨_, _, _, r5⟩ := hR2
  obtain ⟨t1, t2, t3, t4⟩ := r5.2.1
  refine zb99_36 _ (sp133 (d := d) (fun h => z_ifn (by decide) (z_all ?_)) (fun h => z_ifp rfl ?_))
  · refine zb172_141 _ (z_all (z_ifn (by omega) ?_))
    rw [show z_up (z_up V 87 1 k) 141 0 0 141 8 = V 141 8 from rfl]
    refine z_ifn (by omega) (z_all ⟨rfl, ?_⟩)
    refine zR_tape hR (fun a x y z w => by simp (disch := omega) only [zDn, z_up_cell]) (fun a x y => by unfold zKf at x; simp (disch := omega) only [zDn, zUp_o, zUp_s]) ⟨rfl, h.1, by show k ≤ 400; omega, fun j hj => ?_⟩
    have hj : (j : Int) < k := hj
    exact t4 j (by omega)
  · refine zb172_141 _ (z_all (z_ifc (fun c => ⟨rfl, zR_k hR zKeep_0⟩) (fun c => ?_)))
    rw [show z_up V 141 0 0 141 8 = V 141 8 from rfl]
    exact z_ifp (by omega) ⟨rfl, zR_k hR zKeep_0⟩
theorem sp71 {V : z_M} {M : Nat} {a : Int} {F : Nat → Int} (hM : V 87 1 = (M : Int)) (hM2 : M + 4 ≤ 400) (hF : ∀ j, j < M → V 88 j = F j) (hn : ∀ k, k < 4 → F (M + k) = zBy a k)
    (h : ∀ W, (∀ x, ¬ x = 87 → ¬ x = 88 → W x = V x) → W 87 1 = ((M + 4 : Nat) : Int) → (∀ j, j < M + 4 → W 88 j = F j) → Q 0 W) : z_MS (d + 1) 71 true [.inr (.inr 87), .inl a] V Q := by
  have lp : ∀ (k i : Nat) (W : z_M), i + k = 4 → (∀ x, ¬ x = 87 → ¬ x = 88 → W x = V x) → W 87 1 = ((M + i : Nat) : Int) → (∀ j, j < M + i → W 88 j = F j) → z_Ex (z_MS d) 71 Q true 3 [some (.inr (.inr 87)), some (.inl a), some (.inl (24 - 8 * (i : Int)))] [] 0 0 W := by
    intro k
    induction k with
    | zero =>
      intro i W e w1 w2 w3
      have e2 : i = 4 := by omega
      subst e2
      exact zb71_87_p3 _ _ (z_ifp (by omega) (h W w1 w2 w3))
    | succ k ih =>
      intro i W e w1 w2 w3
      refine zb71_87_p3 _ _ (z_ifn (by omega) (z_ifp (by omega) (z_gp (by omega) (z_all ?_))))
      rw [w2, Int.toNat_natCast]
      rw [show z_up W 88 (M + i) (z_and (z_shr a (24 - 8 * (i : Int))) 255) 87 1 = ((M + i : Nat) : Int) from w2, z_inc (by omega)]
      refine z_all ?_
      rw [z_add_e (by omega), show 24 - 8 * (i : Int) + -8 = 24 - 8 * ((i + 1 : Nat) : Int) by omega]
      refine ih (i + 1) _ (by omega) (fun x p q => by simp (disch := omega) only [zDn, z_up_cell]; exact w1 x p q) (by simp (disch := omega) only [zDn, zUp_o, zUp_s]; omega) (fun j hj => ?_)
      by_cases ej : j = M + i
      · subst ej
        rw [zUp_o (by omega), zUp_s]
        exact (hn i (by omega)).symm
      · simp (disch := omega) only [zDn, zUp_o, zUp_s]
        exact w3 j (by omega)
  exact zb71_87 _ (lp 4 0 V (by omega) (fun _ _ _ => rfl) (by omega) (fun j hj => hF j (by omega)))
theorem sp170 {V : z_M} {M : Nat} {a : Int} {F : Nat → Int} (hM : V 141 8 = (M : Int)) (hM2 : M + 4 ≤ 400) (hF : ∀ j, j < M → V 146 j = F j) (hn : ∀ k, k < 4 → F (M + k) = zBy a k)
    (h : ∀ W, (∀ x, ¬ x = 141 → ¬ x = 146 → W x = V x) → (∀ k, ¬ k = 8 → W 141 k = V 141 k) → W 141 8 = ((M + 4 : Nat) : Int) → (∀ j, j < M + 4 → W 146 j = F j) → Q 0 W) : z_MS (d + 1) 170 true [.inr (.inr 141), .inl a] V Q := by
  have lp : ∀ (k i : Nat) (W : z_M), i + k = 4 → (∀ x, ¬ x = 141 → ¬ x = 146 → W x = V x) → (∀ k, ¬ k = 8 → W 141 k = V 141 k) → W 141 8 = ((M + i : Nat) : Int) → (∀ j, j < M + i → W 146 j = F j) → z_Ex (z_MS d) 170 Q true 3 [some (.inr (.inr 141)), some (.inl a), some (.inl (24 - 8 * (i : Int)))] [] 0 0 W := by
    intro k
    induction k with
    | zero =>
      intro i W e w1 w0 w2 w3
      have e2 : i = 4 := by omega
      subst e2
      exact zb170_141_p3 _ _ (z_ifp (by omega) (h W w1 w0 w2 w3))
    | succ k ih =>
      intro i W e w1 w0 w2 w3
      refine zb170_141_p3 _ _ (z_ifn (by omega) (z_gp (by omega) (z_all ?_)))
      rw [w2, Int.toNat_natCast]
      rw [show z_up W 146 (M + i) (z_and (z_shr a (24 - 8 * (i : Int))) 255) 141 8 = ((M + i : Nat) : Int) from w2, z_inc (by omega)]
      refine z_all ?_
      rw [z_add_e (by omega), show 24 - 8 * (i : Int) + -8 = 24 - 8 * ((i + 1 : Nat) : Int) by omega]
      refine ih (i + 1) _ (by omega) (fun x p q => by simp (disch := omega) only [zDn, z_up_cell]; exact w1 x p q) (fun x p => by simp (disch := omega) only [zDn, zUp_o, zUp_s]; exact w0 x p) (by simp (disch := omega) only [zDn, zUp_o, zUp_s]; omega) (fun j hj => ?_)
      by_cases ej : j = M + i
      · subst ej
        rw [zUp_o (by omega), zUp_s]
        exact (hn i (by omega)).symm
      · simp (disch := omega) only [zDn, zUp_o, zUp_s]
        exact w3 j (by omega)
  exact zb170_141 _ (lp 4 0 V (by omega) (fun _ _ _ => rfl) (fun _ _ => rfl) (by omega) (fun j hj => hF j (by omega)))
theorem cm_feed {V : z_M} (hR : zR V) (a b c e f : Int) : zPr (d + 2) 98 171 [.inl a, .inl b, .inl c, .inl e, .inl f] V := by
  have hR2 := hR
  obtain ⟨_, _, _, r5⟩ := hR2
  obtain ⟨t1, t2, t3, t4⟩ := r5.2.1
  obtain ⟨L, hL⟩ := Int.eq_ofNat_of_zero_le t2
  have e8 : z_up V 141 0 0 141 8 = (L : Int) := by rw [zUp_o (by omega)]; omega
  refine zb98_36 _ _ _ _ _ ?_
  rw [hL, z_add_e (by omega)]
  refine z_ifc (fun g => ?_) (fun g => ?_)
  · refine zb171_141 _ _ _ _ _ (z_all ?_)
    rw [e8, z_add_e (by omega)]
    exact z_ifp g ⟨rfl, zR_k hR zKeep_0⟩
  · obtain ⟨A, hA⟩ : ∃ A : Nat → Int, A = fun i => if i = 0 then a else if i = 1 then b else if i = 2 then c else if i = 3 then e else f := ⟨_, rfl⟩
    obtain ⟨F, hF⟩ : ∃ F : Nat → Int, F = fun j => if j < L then V 88 j else zBy (A ((j - L) / 4)) ((j - L) % 4) := ⟨_, rfl⟩
    have F0 : ∀ j, j < L → V 88 j = F j := fun j hj => by rw [hF]; exact (if_pos hj).symm
    have F1 : ∀ i k, k < 4 → F (L + 4 * i + k) = zBy (A i) k := fun i k hk => by
      rw [hF]
      show (if L + 4 * i + k < L then _ else zBy (A ((L + 4 * i + k - L) / 4)) ((L + 4 * i + k - L) % 4)) = _
      rw [if_neg (by omega), show (L + 4 * i + k - L) / 4 = i by omega, show (L + 4 * i + k - L) % 4 = k by omega]
    have A0 : A 0 = a ∧ A 1 = b ∧ A 2 = c ∧ A 3 = e ∧ A 4 = f := by rw [hA]; exact ⟨rfl, rfl, rfl, rfl, rfl⟩
    obtain ⟨A0, A1, A2, A3, A4⟩ := A0
    refine sp71 (d := d) (F := F) hL (by omega) F0 (fun k hk => by rw [← A0]; exact F1 0 k hk) (fun W1 x1 y1 z1 => ?_)
    refine sp71 (d := d) (F := F) y1 (by omega) z1 (fun k hk => by rw [← A1]; exact F1 1 k hk) (fun W2 x2 y2 z2 => ?_)
    refine sp71 (d := d) (F := F) y2 (by omega) z2 (fun k hk => by rw [← A2]; exact F1 2 k hk) (fun W3 x3 y3 z3 => ?_)
    refine sp71 (d := d) (F := F) y3 (by omega) z3 (fun k hk => by rw [← A3]; exact F1 3 k hk) (fun W4 x4 y4 z4 => ?_)
    refine sp71 (d := d) (F := F) y4 (by omega) z4 (fun k hk => by rw [← A4]; exact F1 4 k hk) (fun W5 x5 y5 z5 => ?_)
    rw [y5]
    have xw : ∀ x, ¬ x = 87 → ¬ x = 88 → W5 x = V x := fun x p q => by rw [x5 x p q, x4 x p q, x3 x p q, x2 x p q, x1 x p q]
    have e8 : z_up W5 141 0 0 141 8 = (L : Int) := by rw [zUp_o (by omega), xw 141 (by decide) (by decide)]; omega
    refine zb171_141 _ _ _ _ _ (z_all ?_)
    rw [e8, z_add_e (by omega)]
    refine z_ifn g ?_
    refine sp170 (d := d) (F := F) e8 (by omega) (fun j hj => by rw [z_up_cell (by decide), xw 146 (by decide) (by decide), ← (t4 j (by omega)).1]; exact F0 j hj) (fun k hk => by rw [← A0]; exact F1 0 k hk) (fun X1 p1 p2 p3 p4 => ?_)
    refine sp170 (d := d) (F := F) p3 (by omega) p4 (fun k hk => by rw [← A1]; exact F1 1 k hk) (fun X2 q1 q2 q3 q4 => ?_)
    refine sp170 (d := d) (F := F) q3 (by omega) q4 (fun k hk => by rw [← A2]; exact F1 2 k hk) (fun X3 s1 s2 s3 s4 => ?_)
    refine sp170 (d := d) (F := F) s3 (by omega) s4 (fun k hk => by rw [← A3]; exact F1 3 k hk) (fun X4 u1 u2 u3 u4 => ?_)
    refine sp170 (d := d) (F := F) u3 (by omega) u4 (fun k hk => by rw [← A4]; exact F1 4 k hk) (fun X5 v1 v2 v3 v4 => ?_)
    have cx : ∀ x, ¬ x = 141 → ¬ x = 146 → X5 x = W5 x := fun x m1 m2 => by rw [v1 x m1 m2, u1 x m1 m2, s1 x m1 m2, q1 x m1 m2, p1 x m1 m2, z_up_cell m1]
    refine ⟨v3, zR_tape hR (fun x m1 m2 m3 m4 => by rw [cx x m4 m3, xw x m1 m2]) (fun k hk hk8 => ?_) ⟨?_, ?_, ?_, fun j hj => ?_⟩⟩
    · unfold zKf at hk
      rw [v2 k hk8, u2 k hk8, s2 k hk8, q2 k hk8, p2 k hk8, zUp_o (by omega), xw 141 (by decide) (by decide)]
    · rw [cx 87 (by decide) (by decide), y5, v3]
    · rw [cx 87 (by decide) (by decide), y5]; omega
    · rw [cx 87 (by decide) (by decide), y5]; omega
    · rw [cx 87 (by decide) (by decide), y5] at hj
      rw [cx 88 (by decide) (by decide), z5 j (by omega), v4 j (by omega)]
      refine ⟨rfl, ?_⟩
      by_cases hjL : j < L
      · rw [← F0 j hjL]; exact (t4 j (by omega)).2
      · rw [hF]
        show 0 ≤ (if j < L then _ else zBy _ _) ∧ (if j < L then _ else zBy _ _) ≤ 255
        rw [if_neg hjL]
        exact z_and_255 _
end
