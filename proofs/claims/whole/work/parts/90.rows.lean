/-! row of class and reference -/
theorem zRw_1 {B : Nat → Int} {L n0 i : Nat} {D : Nat → Nat → Int} (c : zAcc B L n0 (zRw B L n0 D i).1 i = true) : zRw B L n0 D (i + 1) = ((zRw B L n0 D i).1 + 1, fun t w => if t = n0 + (zRw B L n0 D i).1 then (if w = 3 then 0 else B (3 * i + w)) else (zRw B L n0 D i).2 t w) := by
  rw [zRw, if_pos c]
theorem zRw_0 {B : Nat → Int} {L n0 i : Nat} {D : Nat → Nat → Int} (c : ¬ zAcc B L n0 (zRw B L n0 D i).1 i = true) : zRw B L n0 D (i + 1) = zRw B L n0 D i := by
  rw [zRw, if_neg c]
/-- what the class's loop has done after i bits of tape -/
def zRx (V W : z_M) (n i : Nat) (st : Nat × (Nat → Nat → Int)) : Prop := (∀ x, ¬ x = 36 → ¬ x = 37 → ¬ (39 ≤ x ∧ x ≤ 42) → W x = V x) ∧ (∀ k, ¬ k = 13 → W 36 k = V 36 k) ∧ W 36 13 = (i : Int) - (st.1 : Int) ∧ (∀ k, ¬ k = 7 → W 37 k = V 37 k) ∧ W 37 7 = ((n + st.1 : Nat) : Int) ∧ ∀ t w, t < n + st.1 → w < 4 → W (39 + w) t = st.2 t w
def zRy (V W : z_M) (n i : Nat) (st : Nat × (Nat → Nat → Int)) : Prop := (∀ x, ¬ x = 141 → ¬ x = 143 → W x = V x) ∧ (∀ k, ¬ k = 6 → W 141 k = V 141 k) ∧ W 141 6 = (i : Int) - (st.1 : Int) ∧ W 143 0 = ((n + st.1 : Nat) : Int) ∧ (∀ k, ¬ k = 0 → (k < 8 ∨ 56 ≤ k) → W 143 k = V 143 k) ∧ ∀ t w, t < n + st.1 → w < 4 → W 143 (8 + 4 * t + w) = st.2 t w
section
variable {d : Nat} {Q : Int → z_M → Prop}
theorem lp100 {V : z_M} {n L : Nat} {D : Nat → Nat → Int} (hS : zSt V) (hn2 : n ≤ 12) (hL : V 87 1 = (L : Int)) (hL2 : L ≤ 400) (hD : ∀ t w : Nat, t < n → w < 4 → zBk w (D t w))
    (h : ∀ W N, L ≤ 3 * N → 3 * N < L + 3 → zRx V W n N (zRw (V 88) L n D N) → Q ((zRw (V 88) L n D N).1 : Int) (zDn (z_up W 87 1 0))) :
    ∀ (m i : Nat) (W : z_M), L + 3 ≤ 3 * (m + i) → (i = 0 ∨ 3 * i < L + 3) → zRx V W n i (zRw (V 88) L n D i) → z_Ex (z_MS (d + 3)) 100 Q true 26 [some (.inr (.inr 36)), some (.inl ((zRw (V 88) L n D i).1 : Int)), some (.inl ((3 * i : Nat) : Int))] [] 0 0 W := by
  intro m
  induction m with
  | zero =>
    intro i W e hi hx
    refine zb100_36_p26 _ _ (z_ifn (by rw [hx.1 87 (by decide) (by decide) (by omega), hL]; omega) (z_all (sp131 (d := d + 2) (h W i (by omega) (by omega) hx))))
  | succ m ih =>
    intro i W e hi hx
    obtain ⟨x1, x2, x3, x4, x5, x6⟩ := id hx
    obtain ⟨b1, b2, b3⟩ := zRw_b (B := V 88) (L := L) hn2 hD i
    have e87 : W 87 1 = (L : Int) := by rw [x1 87 (by decide) (by decide) (by omega)]; exact hL
    have e88 : W 88 = V 88 := x1 88 (by decide) (by decide) (by omega)
    have j3 : z_add ((3 * i : Nat) : Int) 3 = ((3 * (i + 1) : Nat) : Int) := by simp (disch := omega) only [z_mul_e, z_add_e, z_sub_e]; omega
    by_cases c : 3 * i < L
    · refine zb100_36_p26 _ _ (z_ifp (by rw [e87]; omega) ?_)
      rw [j3]
      have hacc : zAcc (V 88) L (n + (zRw (V 88) L n D i).1) 0 i = zAcc (V 88) L n (zRw (V 88) L n D i).1 i := rfl
      refine sp137 (d := d) (n := n + (zRw (V 88) L n D i).1) (fun a p q => by rw [x1 a (by omega) (by omega) (by omega)]; exact hS a p q) x5 b2 e87 hL2 c (fun ha => z_ifn (by decide) ?_) (fun ha => z_ifp rfl ?_)
      · rw [e88] at ha ⊢
        rw [hacc] at ha
        have hst := zRw_1 ha
        rw [z_add_e (by omega)]
        have := ih (i + 1) (z_up (z_up (z_up (z_up (z_up W 39 (n + (zRw (V 88) L n D i).1) (V 88 (3 * i))) 40 (n + (zRw (V 88) L n D i).1) (V 88 (3 * i + 1))) 41 (n + (zRw (V 88) L n D i).1) (V 88 (3 * i + 2))) 42 (n + (zRw (V 88) L n D i).1) 0) 37 7 (((n + (zRw (V 88) L n D i).1 : Nat) : Int) + 1)) (by omega) (by omega) ?_
        · rw [hst] at this
          rw [show (((zRw (V 88) L n D i).1 : Nat) : Int) + 1 = (((zRw (V 88) L n D i).1 + 1 : Nat) : Int) by omega]
          exact this
        · rw [hst]
          refine ⟨fun x p q r => by simp (disch := omega) only [zDn, z_up_cell]; exact x1 x p q r, fun k hk => by simp (disch := omega) only [zDn, zUp_o, zUp_s]; exact x2 k hk, ?_, fun k hk => by simp (disch := omega) only [zDn, zUp_o, zUp_s]; exact x4 k hk, ?_, fun t w ht hw => ?_⟩
          · simp (disch := omega) only [zDn, zUp_o, zUp_s]
            show W 36 13 = ((i + 1 : Nat) : Int) - (((zRw (V 88) L n D i).1 + 1 : Nat) : Int)
            omega
          · rw [zUp_s]
            show _ = ((n + ((zRw (V 88) L n D i).1 + 1) : Nat) : Int)
            omega
          · have ht : t < n + ((zRw (V 88) L n D i).1 + 1) := ht
            show _ = (if t = n + (zRw (V 88) L n D i).1 then (if w = 3 then 0 else V 88 (3 * i + w)) else (zRw (V 88) L n D i).2 t w)
            by_cases et : t = n + (zRw (V 88) L n D i).1
            · rw [if_pos et, et]
              rcases (show w = 0 ∨ w = 1 ∨ w = 2 ∨ w = 3 by omega) with rfl | rfl | rfl | rfl
              · rw [if_neg (by decide)]; simp (disch := omega) only [zDn, zUp_o, zUp_s]; rfl
              · rw [if_neg (by decide)]; simp (disch := omega) only [zDn, zUp_o, zUp_s]
              · rw [if_neg (by decide)]; simp (disch := omega) only [zDn, zUp_o, zUp_s]
              · rw [if_pos rfl]; simp (disch := omega) only [zDn, zUp_o, zUp_s]
            · rw [if_neg et]
              simp (disch := omega) only [zDn, zUp_o, zUp_s]
              exact x6 t w (by omega) hw
      · rw [e88, hacc] at ha
        have hst := zRw_0 ha
        rw [x3, z_add_e (by omega)]
        refine z_all ?_
        have := ih (i + 1) (z_up W 36 13 ((i : Int) - ((zRw (V 88) L n D i).1 : Int) + 1)) (by omega) (by omega) ?_
        · rw [hst] at this
          exact this
        · rw [hst]
          refine ⟨fun x p q r => by simp (disch := omega) only [zDn, z_up_cell]; exact x1 x p q r, fun k hk => by simp (disch := omega) only [zDn, zUp_o, zUp_s]; exact x2 k hk, by rw [zUp_s]; omega, fun k hk => by simp (disch := omega) only [zDn, zUp_o, zUp_s]; exact x4 k hk, by simp (disch := omega) only [zDn, zUp_o, zUp_s]; exact x5, fun t w ht hw => by simp (disch := omega) only [zDn, zUp_o, zUp_s]; exact x6 t w ht hw⟩
    · exact zb100_36_p26 _ _ (z_ifn (by rw [e87]; omega) (z_all (sp131 (d := d + 2) (h W i (by omega) (by omega) hx))))
theorem lp168 {V : z_M} {n L : Nat} {D : Nat → Nat → Int} {B : Nat → Int} (hn2 : n ≤ 12) (hL2 : L ≤ 400) (hB : ∀ j, j < L → V 146 j = B j) (hD : ∀ t w : Nat, t < n → w < 4 → zBk w (D t w))
    (h : ∀ W N, L ≤ 3 * N → 3 * N < L + 3 → zRy V W n N (zRw B L n D N) → Q ((zRw B L n D N).1 : Int) (z_up W 141 1 0)) :
    ∀ (m i : Nat) (W : z_M) (o4 : Option z_V), L + 3 ≤ 3 * (m + i) → (i = 0 ∨ 3 * i < L + 3) → zRy V W n i (zRw B L n D i) → z_Ex (z_MS (d + 3)) 168 Q true 35 [some (.inr (.inr 141)), some (.inl (L : Int)), some (.inl ((zRw B L n D i).1 : Int)), some (.inl ((3 * i : Nat) : Int)), o4] [] 0 0 W := by
  intro m
  induction m with
  | zero =>
    intro i W o4 e hi hx
    exact zb168_141_p35 _ _ _ _ (z_ifn (by omega) (sp149p (d := d + 2) (by omega) (h W i (by omega) (by omega) hx)))
  | succ m ih =>
    intro i W o4 e hi hx
    obtain ⟨x1, x2, x3, x5, x7, x6⟩ := id hx
    obtain ⟨b1, b2, b3⟩ := zRw_b (B := B) (L := L) hn2 hD i
    have j1 : z_add ((3 * i : Nat) : Int) 1 = ((3 * i + 1 : Nat) : Int) := by simp (disch := omega) only [z_mul_e, z_add_e, z_sub_e]; omega
    have j2 : z_add ((3 * i : Nat) : Int) 2 = ((3 * i + 2 : Nat) : Int) := by simp (disch := omega) only [z_mul_e, z_add_e, z_sub_e]; omega
    have j3 : z_add ((3 * i : Nat) : Int) 3 = ((3 * (i + 1) : Nat) : Int) := by simp (disch := omega) only [z_mul_e, z_add_e, z_sub_e]; omega
    have e146 : W 146 = V 146 := x1 146 (by decide) (by decide)
    by_cases c : 3 * i < L
    · have bad : ¬ zAcc B L n (zRw B L n D i).1 i = true → ∀ o4, z_Ex (z_MS (d + 3)) 168 Q true 143 [some (.inr (.inr 141)), some (.inl (L : Int)), some (.inl ((zRw B L n D i).1 : Int)), some (.inl ((3 * i : Nat) : Int)), o4] [] 0 0 W := by
        intro ha o4
        have hst := zRw_0 ha
        refine zb168_141_p143 _ _ _ _ ?_
        rw [x3, z_add_e (by omega), j3]
        refine z_all ?_
        have := ih (i + 1) (z_up W 141 6 ((i : Int) - ((zRw B L n D i).1 : Int) + 1)) o4 (by omega) (by omega) ?_
        · rw [hst] at this
          exact this
        · rw [hst]
          exact ⟨fun x p q => by simp (disch := omega) only [zDn, z_up_cell]; exact x1 x p q, fun k hk => by simp (disch := omega) only [zDn, zUp_o, zUp_s]; exact x2 k hk, by rw [zUp_s]; omega, by simp (disch := omega) only [zDn, zUp_o, zUp_s]; exact x5, fun k hk h2 => by simp (disch := omega) only [zDn, zUp_o, zUp_s]; exact x7 k hk h2, fun t w ht hw => by simp (disch := omega) only [zDn, zUp_o, zUp_s]; exact x6 t w ht hw⟩
      refine zb168_141_p35 _ _ _ _ (z_ifp (by omega) ?_)
      rw [j2]
      refine z_ifc (fun c2 => sp154 (d := d + 2) ?_) (fun c2 => zb168_141_p61 _ _ _ _ _ (z_ifp rfl (bad (fun q => by have := (zAcc_e.mp q).1; omega) _)))
      rw [x5]
      by_cases c3 : n + (zRw B L n D i).1 < 12
      · rw [if_pos (by omega)]
        refine zb168_141_p61 _ _ _ _ _ (z_ifn (by decide) ?_)
        rw [j1, j2]
        refine z_gp (by omega) (z_all ?_)
        have w0 : W 146 (3 * i) = B (3 * i) := by rw [e146]; exact hB _ (by omega)
        have w1 : W 146 (3 * i + 1) = B (3 * i + 1) := by rw [e146]; exact hB _ (by omega)
        have w2 : W 146 (3 * i + 2) = B (3 * i + 2) := by rw [e146]; exact hB _ (by omega)
        rw [Int.toNat_natCast, Int.toNat_natCast, Int.toNat_natCast, j3]
        refine sp159 (d := d + 1) (fun g1 => z_ifn (by decide) (z_gp (by omega) (z_all (sp159 (d := d + 1) (fun g2 => z_ifn (by decide) (z_gp (by omega) (z_all (sp159 (d := d + 1) (fun g3 => z_ifn (by decide) ?_) (fun g3 => z_ifp rfl (bad (fun q => g3 (by rw [w2]; exact (zAcc_e.mp q).2.2.2.2)) _)))))) (fun g2 => z_ifp rfl (bad (fun q => g2 (by rw [w1]; exact (zAcc_e.mp q).2.2.2.1)) _)))))) (fun g1 => z_ifp rfl (bad (fun q => g1 (by rw [w0]; exact (zAcc_e.mp q).2.2.1)) _))
        refine z_gp (by omega) (z_all (z_gp (by omega) (z_all (z_gp (by omega) (z_all ?_)))))
        rw [w0] at g1
        rw [w1] at g2
        rw [w2] at g3
        rw [w0, w1, w2]
        have ha : zAcc B L n (zRw B L n D i).1 i = true := zAcc_e.mpr ⟨by omega, c3, g1, g2, g3⟩
        have hst := zRw_1 ha
        refine sp160 (d := d + 1) (n := n + (zRw B L n D i).1) x5 c3 ?_
        rw [z_add_e (by omega)]
        have := ih (i + 1) (z_up (z_up (z_up (z_up (z_up W 143 (8 + 4 * (n + (zRw B L n D i).1)) (B (3 * i))) 143 (9 + 4 * (n + (zRw B L n D i).1)) (B (3 * i + 1))) 143 (10 + 4 * (n + (zRw B L n D i).1)) (B (3 * i + 2))) 143 (11 + 4 * (n + (zRw B L n D i).1)) 0) 143 0 (((n + (zRw B L n D i).1 : Nat) : Int) + 1)) (some (.inl 1)) (by omega) (by omega) ?_
        · rw [hst] at this
          rw [show (((zRw B L n D i).1 : Nat) : Int) + 1 = (((zRw B L n D i).1 + 1 : Nat) : Int) by omega]
          exact this
        · rw [hst]
          refine ⟨fun x p q => by simp (disch := omega) only [zDn, z_up_cell]; exact x1 x p q, fun k hk => by simp (disch := omega) only [zDn, zUp_o, zUp_s]; exact x2 k hk, ?_, ?_, fun k hk h2 => by simp (disch := omega) only [zDn, zUp_o, zUp_s]; exact x7 k hk h2, fun t w ht hw => ?_⟩
          · simp (disch := omega) only [zDn, zUp_o, zUp_s]
            show W 141 6 = ((i + 1 : Nat) : Int) - (((zRw B L n D i).1 + 1 : Nat) : Int)
            omega
          · rw [zUp_s]
            show _ = ((n + ((zRw B L n D i).1 + 1) : Nat) : Int)
            omega
          · have ht : t < n + ((zRw B L n D i).1 + 1) := ht
            show _ = (if t = n + (zRw B L n D i).1 then (if w = 3 then 0 else B (3 * i + w)) else (zRw B L n D i).2 t w)
            by_cases et : t = n + (zRw B L n D i).1
            · rw [if_pos et, et]
              rcases (show w = 0 ∨ w = 1 ∨ w = 2 ∨ w = 3 by omega) with rfl | rfl | rfl | rfl
              · rw [if_neg (by decide), show 8 + 4 * (n + (zRw B L n D i).1) + 0 = 8 + 4 * (n + (zRw B L n D i).1) by omega]; simp (disch := omega) only [zDn, zUp_o, zUp_s]; rfl
              · rw [if_neg (by decide), show 8 + 4 * (n + (zRw B L n D i).1) + 1 = 9 + 4 * (n + (zRw B L n D i).1) by omega]; simp (disch := omega) only [zDn, zUp_o, zUp_s]
              · rw [if_neg (by decide), show 8 + 4 * (n + (zRw B L n D i).1) + 2 = 10 + 4 * (n + (zRw B L n D i).1) by omega]; simp (disch := omega) only [zDn, zUp_o, zUp_s]
              · rw [if_pos rfl, show 8 + 4 * (n + (zRw B L n D i).1) + 3 = 11 + 4 * (n + (zRw B L n D i).1) by omega]; simp (disch := omega) only [zDn, zUp_o, zUp_s]
            · rw [if_neg et]
              simp (disch := omega) only [zDn, zUp_o, zUp_s]
              exact x6 t w (by omega) hw
      · rw [if_neg (by omega)]
        exact zb168_141_p61 _ _ _ _ _ (z_ifp rfl (bad (fun q => by have := (zAcc_e.mp q).2.1; omega) _))
    · exact zb168_141_p35 _ _ _ _ (z_ifn (by omega) (sp149p (d := d + 2) (by omega) (h W i (by omega) (by omega) hx)))
end
