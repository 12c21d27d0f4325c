/-! the class's tokens -/
section
variable {d : Nat} {Q : Int → z_M → Prop} {V : z_M} {b : Nat → Int} {L f : Nat}
def zXb (V : z_M) (b : Nat → Int) (L : Nat) : Prop := V 89 5 = 88 ∧ V 89 6 = (L : Int) ∧ L ≤ 400 ∧ (∀ j, j < L → V 88 j = b j ∧ 0 ≤ b j ∧ b j ≤ 255) ∧ zSt V
theorem zXb_c {W : z_M} (h : zXb V b L) (h5 : W 89 5 = V 89 5) (h6 : W 89 6 = V 89 6) (h8 : W 88 = V 88) (hs : ∀ a, 2 ≤ a → a < 36 → W a = V a) : zXb W b L := by
  obtain ⟨a1, a2, a3, a4, a5⟩ := h
  exact ⟨h5.trans a1, h6.trans a2, a3, fun j hj => by rw [h8]; exact a4 j hj, fun a x y => (hs a x y).trans (a5 a x y)⟩
theorem z_len88 : z_len' V 88 = 400 := z_len_n (n := 400) (by decide)
theorem zXb_g {j : Nat} (h : zXb V b L) (hj : j < L) : z_kd (V 89 5).toNat = 101 ∧ (0 ≤ (j : Int) ∧ (j : Int) < z_len' V (V 89 5).toNat) ∧ V (V 89 5).toNat (j : Int).toNat = b j := by
  obtain ⟨a1, a2, a3, a4, a5⟩ := h
  rw [a1]
  refine ⟨by decide, ?_, (a4 j hj).1⟩
  show 0 ≤ (j : Int) ∧ (j : Int) < z_len' V 88
  rw [z_len88]
  omega
theorem sp41 {lo hi : Int} (hX : zXb V b L) (hf : f ≤ L) (h : Q ((zpRe b L lo hi f : Nat) : Int) V) : z_MS (d + 1) 41 true [.inr (.inr 89), .inl (f : Int), .inl lo, .inl hi] V Q := by
  have h6 := hX.2.1
  have hL := hX.2.2.1
  have lp : ∀ (n f : Nat), L - f = n → f ≤ L → Q ((zpRe b L lo hi f : Nat) : Int) V → ∀ o1 : Option z_V, z_Ex (z_MS d) 41 Q true 3 [some (.inr (.inr 89)), o1, some (.inl lo), some (.inl hi), some (.inl (f : Int))] [] 0 0 V := by
    intro n
    induction n with
    | zero =>
      intro f e hf h o1
      rw [zpRe_0 (by omega)] at h
      exact zb41_89_p3 _ _ _ _ (z_ifn (by rw [h6]; omega) h)
    | succ n ih =>
      intro f e hf h o1
      obtain ⟨hk, hg, hbf⟩ := zXb_g hX (j := f) (by omega)
      refine zb41_89_p3 _ _ _ _ (z_ifp (by rw [h6]; omega) (z_gp hk (z_gp hg (z_all ?_))))
      rw [hbf]
      refine z_ifc (fun q => ?_) (fun q => z_gp hk (z_gp hg (z_all ?_)))
      · rw [zpRe_0 (by omega)] at h; exact h
      · refine z_ifc (fun q2 => ?_) (fun q2 => ?_)
        · rw [zpRe_0 (by omega)] at h; exact h
        · rw [z_inc (by omega)]
          rw [zpRe_1 (by omega)] at h
          exact ih (f + 1) (by omega) (by omega) h _
  exact zb41_89 _ _ _ (lp _ f rfl hf h _)
theorem sp42 {c : Int} (hX : zXb V b L) (h7 : V 89 7 = (f : Int)) (h1 : zpSg b L f c = true → Q 1 V) (h0 : zpSg b L f c = false → Q 0 V) : z_MS (d + 1) 42 true [.inr (.inr 89), .inl c] V Q := by
  have h6 := hX.2.1
  refine zb42_89 _ ?_
  rw [h6, h7]
  refine z_ifc (fun q => ?_) (fun q => h0 ?_)
  · obtain ⟨hk, hg, hbf⟩ := zXb_g hX (j := f) (by omega)
    refine z_gp hk (z_gp hg (z_all ?_))
    rw [hbf]
    by_cases hc : b f = c
    · rw [if_pos hc]; exact h1 (by rw [zpSg_e]; exact ⟨by omega, hc⟩)
    · rw [if_neg hc]; exact h0 (by rw [Bool.eq_false_iff, ne_eq, zpSg_e]; exact fun x => hc x.2)
  · rw [Bool.eq_false_iff, ne_eq, zpSg_e]
    omega
theorem zpTe_x (hf : f ≤ L) : ((zpTe b L f : Nat) : Int) = if z_max ((zpRe b L 97 122 f : Nat) : Int) ((zpRe b L 48 57 f : Nat) : Int) = (f : Int) then (if (f : Int) < (L : Int) then (f : Int) + 1 else (f : Int)) else z_max ((zpRe b L 97 122 f : Nat) : Int) ((zpRe b L 48 57 f : Nat) : Int) := by
  unfold z_max
  by_cases h : f < L
  · by_cases h1 : 97 ≤ b f ∧ b f ≤ 122
    · rw [zpTe_w h h1, zpRe_0 (b := b) (lo := 48) (hi := 57) (by omega)]
      have := zpTe_p (b := b) hf
      rw [zpTe_w h h1] at this
      repeat' split
      all_goals omega
    · by_cases h2 : 48 ≤ b f ∧ b f ≤ 57
      · rw [zpTe_d h h2, zpRe_0 (b := b) (lo := 97) (hi := 122) (by omega)]
        have := zpTe_p (b := b) hf
        rw [zpTe_d h h2] at this
        repeat' split
        all_goals omega
      · rw [zpTe_s h h1 h2, zpRe_0 (b := b) (lo := 97) (hi := 122) (by omega), zpRe_0 (b := b) (lo := 48) (hi := 57) (by omega)]
        repeat' split
        all_goals omega
  · rw [zpTe_e h, zpRe_0 (b := b) (lo := 97) (hi := 122) (by omega), zpRe_0 (b := b) (lo := 48) (hi := 57) (by omega)]
    repeat' split
    all_goals omega
/-- what the class's next token leaves -/
def zXn (V W : z_M) : Prop := (∀ a, ¬ a = 89 → W a = V a) ∧ ∀ k, ¬ k = 7 → ¬ k = 8 → W 89 k = V 89 k
theorem sp40 {t : Nat} (hX : zXb V b L) (h8 : V 89 8 = (t : Int)) (ht : t ≤ L) (h : ∀ W, zXn V W → W 89 7 = ((zpSk b L t : Nat) : Int) → W 89 8 = ((zpTe b L (zpSk b L t) : Nat) : Int) → Q 0 W) : z_MS (d + 2) 40 true [.inr (.inr 89)] V Q := by
  have hs : zpSk b L t ≤ L := zpRe_L ht
  have hL := hX.2.2.1
  refine zb40_89 ?_
  rw [h8]
  refine sp41 hX ht (z_all ?_)
  have e1 : z_up V 89 7 ((zpRe b L 32 32 t : Nat) : Int) 89 7 = ((zpSk b L t : Nat) : Int) := rfl
  have X1 : zXb (z_up V 89 7 ((zpRe b L 32 32 t : Nat) : Int)) b L := zXb_c hX rfl rfl (z_up_cell (by decide)) (fun a x y => z_up_cell (by omega))
  rw [e1]
  refine sp41 X1 hs ?_
  rw [e1]
  refine sp41 X1 hs (z_all ?_)
  have te := zpTe_x (b := b) (L := L) (f := zpSk b L t) hs
  have key : ∀ W, (∀ a, ¬ a = 89 → W a = V a) → (∀ k, ¬ k = 7 → ¬ k = 8 → W 89 k = V 89 k) → W 89 7 = ((zpSk b L t : Nat) : Int) → W 89 8 = ((zpTe b L (zpSk b L t) : Nat) : Int) → Q 0 W := fun W w1 w2 w3 w4 => h W ⟨w1, w2⟩ w3 w4
  generalize hm : z_max ((zpRe b L 97 122 (zpSk b L t) : Nat) : Int) ((zpRe b L 48 57 (zpSk b L t) : Nat) : Int) = m at te ⊢
  have e2 : z_up (z_up V 89 7 ((zpRe b L 32 32 t : Nat) : Int)) 89 8 m 89 8 = m := rfl
  have e3 : z_up (z_up V 89 7 ((zpRe b L 32 32 t : Nat) : Int)) 89 8 m 89 7 = ((zpSk b L t : Nat) : Int) := rfl
  have e4 : z_up (z_up V 89 7 ((zpRe b L 32 32 t : Nat) : Int)) 89 8 m 89 6 = (L : Int) := hX.2.1
  rw [e2, e3, e4]
  refine z_ifc (fun q => z_ifc (fun q2 => z_all ?_) (fun q2 => ?_)) (fun q => ?_)
  · rw [if_pos q, if_pos q2] at te
    refine key _ (fun a x => by rw [z_up_cell x, z_up_cell x, z_up_cell x]) (fun k x y => by rw [z_up_rd, if_pos rfl, if_neg y, z_up_rd, if_pos rfl, if_neg y, z_up_rd, if_pos rfl, if_neg x]) rfl ?_
    show z_add _ 1 = _
    rw [z_add_e (by omega)]
    exact te.symm
  · rw [if_pos q, if_neg q2] at te
    exact key _ (fun a x => by rw [z_up_cell x, z_up_cell x]) (fun k x y => by rw [z_up_rd, if_pos rfl, if_neg y, z_up_rd, if_pos rfl, if_neg x]) rfl (by rw [e2, te]; exact q)
  · rw [if_neg q] at te
    exact key _ (fun a x => by rw [z_up_cell x, z_up_cell x]) (fun k x y => by rw [z_up_rd, if_pos rfl, if_neg y, z_up_rd, if_pos rfl, if_neg x]) rfl (by rw [e2, te])
theorem sp253 {a n : Int} (ha : 0 ≤ a ∧ a < n) (h : Q 0 V) : z_MS (d + 2) 253 true [.inl a, .inl n] V Q := zb253 _ _ (zb255_7 _ _ (z_ifn (by omega) (z_ifp ha.2 h)))
theorem sp250_8 {i : Nat} (hS : zSt V) (hi : i < 5) (h : Q (z_VS 22 i) V) : z_MS (d + 4) 250 true [.inr (.inr 8), .inl (i : Int)] V Q := by
  have e1 : V 8 1 = 0 := by rw [hS 8 (by decide) (by decide)]; decide +kernel
  have k : ∀ i : Fin 5, z_i2c (z_and (z_VS 22 i.val) 255) = z_VS 22 i.val ∧ 0 ≤ z_VS 22 i.val ∧ z_VS 22 i.val < 65536 := by decide +kernel
  have ki := k ⟨i, hi⟩
  refine zb250_8 _ (zb252_8 ?_)
  rw [e1]
  refine z_ifn (by decide) (zb254_22 _ (sp253 (d := d) (by omega) (z_gp (by omega) (z_all ?_))))
  rw [Int.toNat_natCast, hS 22 (by decide) (by decide), ki.1]
  exact z_gp ki.2 (z_gp ki.2 h)
theorem sp43_8 (hX : zXb V b L) (h7 : V 89 7 = (f : Int)) (h8 : V 89 8 = ((zpTe b L f : Nat) : Int)) (hf : f ≤ L) (h1 : zpWd b L f 8 = true → Q 1 V) (h0 : zpWd b L f 8 = false → Q 0 V) : z_MS (d + 5) 43 true [.inr (.inr 89), .inr (.inr 8)] V Q := by
  have hL := hX.2.2.1
  have te := zpTe_p (b := b) hf
  have hS := hX.2.2.2.2
  have e1 : V 8 1 = 0 := by rw [hS 8 (by decide) (by decide)]; decide +kernel
  have w : zpWl 8 = 5 := by decide
  have lp : zpTe b L f = f + 5 → ∀ (n i : Nat), i + n = 5 → (∀ j, j < i → b (f + j) = z_VS 22 j) → z_Ex (z_MS (d + 4)) 43 Q true 23 [some (.inr (.inr 89)), some (.inr (.inr 8)), some (.inl ((f + i : Nat) : Int))] [] 0 0 V := by
    intro ht n
    induction n with
    | zero =>
      intro i e hi
      refine zb43_89_8_p23 _ (z_ifn (by rw [h8]; omega) (h1 ?_))
      unfold zpWd
      rw [decide_eq_true_eq, w]
      have : i = 5 := by omega
      subst this
      exact ⟨by omega, hi⟩
    | succ n ih =>
      intro i e hi
      obtain ⟨hk, hg, hbf⟩ := zXb_g hX (j := f + i) (by omega)
      refine zb43_89_8_p23 _ (z_ifp (by rw [h8]; omega) (z_gp hk (z_gp hg (z_all ?_))))
      rw [hbf, h7, z_sub_e (by omega), show ((f + i : Nat) : Int) - (f : Int) = (i : Int) by omega]
      refine sp250_8 (d := d) hS (by omega) (z_ifc (fun q => ?_) (fun q => h0 ?_))
      · rw [z_inc (by omega)]
        exact ih (i + 1) (by omega) (fun j hj => by
          by_cases e2 : j = i
          · subst e2; exact q
          · exact hi j (by omega))
      · unfold zpWd
        rw [decide_eq_false_iff_not, w]
        exact fun x => q (x.2 i (by omega))
  refine zb43_89_8 (zb249_8 (zb251_8 ?_))
  rw [e1]
  refine z_gp (by decide) ?_
  have e2 : z_shr 5 (if (1 : Int) = 0 then 1 else 0) = 5 := by decide +kernel
  rw [e2, h8, h7, z_sub_e (by omega)]
  refine z_ifc (fun q => lp (by omega) 5 0 (by omega) (fun j hj => absurd hj (by omega))) (fun q => h0 ?_)
  unfold zpWd
  rw [decide_eq_false_iff_not, w]
  omega
theorem sp250_9 {i : Nat} (hS : zSt V) (hi : i < 4) (h : Q (z_VS 23 i) V) : z_MS (d + 4) 250 true [.inr (.inr 9), .inl (i : Int)] V Q := by
  have e1 : V 9 1 = 0 := by rw [hS 9 (by decide) (by decide)]; decide +kernel
  have k : ∀ i : Fin 4, z_i2c (z_and (z_VS 23 i.val) 255) = z_VS 23 i.val ∧ 0 ≤ z_VS 23 i.val ∧ z_VS 23 i.val < 65536 := by decide +kernel
  have ki := k ⟨i, hi⟩
  refine zb250_9 _ (zb252_9 ?_)
  rw [e1]
  refine z_ifn (by decide) (zb254_23 _ (sp253 (d := d) (by omega) (z_gp (by omega) (z_all ?_))))
  rw [Int.toNat_natCast, hS 23 (by decide) (by decide), ki.1]
  exact z_gp ki.2 (z_gp ki.2 h)
theorem sp43_9 (hX : zXb V b L) (h7 : V 89 7 = (f : Int)) (h8 : V 89 8 = ((zpTe b L f : Nat) : Int)) (hf : f ≤ L) (h1 : zpWd b L f 9 = true → Q 1 V) (h0 : zpWd b L f 9 = false → Q 0 V) : z_MS (d + 5) 43 true [.inr (.inr 89), .inr (.inr 9)] V Q := by
  have hL := hX.2.2.1
  have te := zpTe_p (b := b) hf
  have hS := hX.2.2.2.2
  have e1 : V 9 1 = 0 := by rw [hS 9 (by decide) (by decide)]; decide +kernel
  have w : zpWl 9 = 4 := by decide
  have lp : zpTe b L f = f + 4 → ∀ (n i : Nat), i + n = 4 → (∀ j, j < i → b (f + j) = z_VS 23 j) → z_Ex (z_MS (d + 4)) 43 Q true 23 [some (.inr (.inr 89)), some (.inr (.inr 9)), some (.inl ((f + i : Nat) : Int))] [] 0 0 V := by
    intro ht n
    induction n with
    | zero =>
      intro i e hi
      refine zb43_89_9_p23 _ (z_ifn (by rw [h8]; omega) (h1 ?_))
      unfold zpWd
      rw [decide_eq_true_eq, w]
      have : i = 4 := by omega
      subst this
      exact ⟨by omega, hi⟩
    | succ n ih =>
      intro i e hi
      obtain ⟨hk, hg, hbf⟩ := zXb_g hX (j := f + i) (by omega)
      refine zb43_89_9_p23 _ (z_ifp (by rw [h8]; omega) (z_gp hk (z_gp hg (z_all ?_))))
      rw [hbf, h7, z_sub_e (by omega), show ((f + i : Nat) : Int) - (f : Int) = (i : Int) by omega]
      refine sp250_9 (d := d) hS (by omega) (z_ifc (fun q => ?_) (fun q => h0 ?_))
      · rw [z_inc (by omega)]
        exact ih (i + 1) (by omega) (fun j hj => by
          by_cases e2 : j = i
          · subst e2; exact q
          · exact hi j (by omega))
      · unfold zpWd
        rw [decide_eq_false_iff_not, w]
        exact fun x => q (x.2 i (by omega))
  refine zb43_89_9 (zb249_9 (zb251_9 ?_))
  rw [e1]
  refine z_gp (by decide) ?_
  have e2 : z_shr 4 (if (1 : Int) = 0 then 1 else 0) = 4 := by decide +kernel
  rw [e2, h8, h7, z_sub_e (by omega)]
  refine z_ifc (fun q => lp (by omega) 4 0 (by omega) (fun j hj => absurd hj (by omega))) (fun q => h0 ?_)
  unfold zpWd
  rw [decide_eq_false_iff_not, w]
  omega
theorem sp250_10 {i : Nat} (hS : zSt V) (hi : i < 2) (h : Q (z_VS 24 i) V) : z_MS (d + 4) 250 true [.inr (.inr 10), .inl (i : Int)] V Q := by
  have e1 : V 10 1 = 0 := by rw [hS 10 (by decide) (by decide)]; decide +kernel
  have k : ∀ i : Fin 2, z_i2c (z_and (z_VS 24 i.val) 255) = z_VS 24 i.val ∧ 0 ≤ z_VS 24 i.val ∧ z_VS 24 i.val < 65536 := by decide +kernel
  have ki := k ⟨i, hi⟩
  refine zb250_10 _ (zb252_10 ?_)
  rw [e1]
  refine z_ifn (by decide) (zb254_24 _ (sp253 (d := d) (by omega) (z_gp (by omega) (z_all ?_))))
  rw [Int.toNat_natCast, hS 24 (by decide) (by decide), ki.1]
  exact z_gp ki.2 (z_gp ki.2 h)
theorem sp43_10 (hX : zXb V b L) (h7 : V 89 7 = (f : Int)) (h8 : V 89 8 = ((zpTe b L f : Nat) : Int)) (hf : f ≤ L) (h1 : zpWd b L f 10 = true → Q 1 V) (h0 : zpWd b L f 10 = false → Q 0 V) : z_MS (d + 5) 43 true [.inr (.inr 89), .inr (.inr 10)] V Q := by
  have hL := hX.2.2.1
  have te := zpTe_p (b := b) hf
  have hS := hX.2.2.2.2
  have e1 : V 10 1 = 0 := by rw [hS 10 (by decide) (by decide)]; decide +kernel
  have w : zpWl 10 = 2 := by decide
  have lp : zpTe b L f = f + 2 → ∀ (n i : Nat), i + n = 2 → (∀ j, j < i → b (f + j) = z_VS 24 j) → z_Ex (z_MS (d + 4)) 43 Q true 23 [some (.inr (.inr 89)), some (.inr (.inr 10)), some (.inl ((f + i : Nat) : Int))] [] 0 0 V := by
    intro ht n
    induction n with
    | zero =>
      intro i e hi
      refine zb43_89_10_p23 _ (z_ifn (by rw [h8]; omega) (h1 ?_))
      unfold zpWd
      rw [decide_eq_true_eq, w]
      have : i = 2 := by omega
      subst this
      exact ⟨by omega, hi⟩
    | succ n ih =>
      intro i e hi
      obtain ⟨hk, hg, hbf⟩ := zXb_g hX (j := f + i) (by omega)
      refine zb43_89_10_p23 _ (z_ifp (by rw [h8]; omega) (z_gp hk (z_gp hg (z_all ?_))))
      rw [hbf, h7, z_sub_e (by omega), show ((f + i : Nat) : Int) - (f : Int) = (i : Int) by omega]
      refine sp250_10 (d := d) hS (by omega) (z_ifc (fun q => ?_) (fun q => h0 ?_))
      · rw [z_inc (by omega)]
        exact ih (i + 1) (by omega) (fun j hj => by
          by_cases e2 : j = i
          · subst e2; exact q
          · exact hi j (by omega))
      · unfold zpWd
        rw [decide_eq_false_iff_not, w]
        exact fun x => q (x.2 i (by omega))
  refine zb43_89_10 (zb249_10 (zb251_10 ?_))
  rw [e1]
  refine z_gp (by decide) ?_
  have e2 : z_shr 2 (if (1 : Int) = 0 then 1 else 0) = 2 := by decide +kernel
  rw [e2, h8, h7, z_sub_e (by omega)]
  refine z_ifc (fun q => lp (by omega) 2 0 (by omega) (fun j hj => absurd hj (by omega))) (fun q => h0 ?_)
  unfold zpWd
  rw [decide_eq_false_iff_not, w]
  omega
theorem sp250_11 {i : Nat} (hS : zSt V) (hi : i < 2) (h : Q (z_VS 25 i) V) : z_MS (d + 4) 250 true [.inr (.inr 11), .inl (i : Int)] V Q := by
  have e1 : V 11 1 = 0 := by rw [hS 11 (by decide) (by decide)]; decide +kernel
  have k : ∀ i : Fin 2, z_i2c (z_and (z_VS 25 i.val) 255) = z_VS 25 i.val ∧ 0 ≤ z_VS 25 i.val ∧ z_VS 25 i.val < 65536 := by decide +kernel
  have ki := k ⟨i, hi⟩
  refine zb250_11 _ (zb252_11 ?_)
  rw [e1]
  refine z_ifn (by decide) (zb254_25 _ (sp253 (d := d) (by omega) (z_gp (by omega) (z_all ?_))))
  rw [Int.toNat_natCast, hS 25 (by decide) (by decide), ki.1]
  exact z_gp ki.2 (z_gp ki.2 h)
theorem sp43_11 (hX : zXb V b L) (h7 : V 89 7 = (f : Int)) (h8 : V 89 8 = ((zpTe b L f : Nat) : Int)) (hf : f ≤ L) (h1 : zpWd b L f 11 = true → Q 1 V) (h0 : zpWd b L f 11 = false → Q 0 V) : z_MS (d + 5) 43 true [.inr (.inr 89), .inr (.inr 11)] V Q := by
  have hL := hX.2.2.1
  have te := zpTe_p (b := b) hf
  have hS := hX.2.2.2.2
  have e1 : V 11 1 = 0 := by rw [hS 11 (by decide) (by decide)]; decide +kernel
  have w : zpWl 11 = 2 := by decide
  have lp : zpTe b L f = f + 2 → ∀ (n i : Nat), i + n = 2 → (∀ j, j < i → b (f + j) = z_VS 25 j) → z_Ex (z_MS (d + 4)) 43 Q true 23 [some (.inr (.inr 89)), some (.inr (.inr 11)), some (.inl ((f + i : Nat) : Int))] [] 0 0 V := by
    intro ht n
    induction n with
    | zero =>
      intro i e hi
      refine zb43_89_11_p23 _ (z_ifn (by rw [h8]; omega) (h1 ?_))
      unfold zpWd
      rw [decide_eq_true_eq, w]
      have : i = 2 := by omega
      subst this
      exact ⟨by omega, hi⟩
    | succ n ih =>
      intro i e hi
      obtain ⟨hk, hg, hbf⟩ := zXb_g hX (j := f + i) (by omega)
      refine zb43_89_11_p23 _ (z_ifp (by rw [h8]; omega) (z_gp hk (z_gp hg (z_all ?_))))
      rw [hbf, h7, z_sub_e (by omega), show ((f + i : Nat) : Int) - (f : Int) = (i : Int) by omega]
      refine sp250_11 (d := d) hS (by omega) (z_ifc (fun q => ?_) (fun q => h0 ?_))
      · rw [z_inc (by omega)]
        exact ih (i + 1) (by omega) (fun j hj => by
          by_cases e2 : j = i
          · subst e2; exact q
          · exact hi j (by omega))
      · unfold zpWd
        rw [decide_eq_false_iff_not, w]
        exact fun x => q (x.2 i (by omega))
  refine zb43_89_11 (zb249_11 (zb251_11 ?_))
  rw [e1]
  refine z_gp (by decide) ?_
  have e2 : z_shr 2 (if (1 : Int) = 0 then 1 else 0) = 2 := by decide +kernel
  rw [e2, h8, h7, z_sub_e (by omega)]
  refine z_ifc (fun q => lp (by omega) 2 0 (by omega) (fun j hj => absurd hj (by omega))) (fun q => h0 ?_)
  unfold zpWd
  rw [decide_eq_false_iff_not, w]
  omega
theorem sp250_12 {i : Nat} (hS : zSt V) (hi : i < 3) (h : Q (z_VS 26 i) V) : z_MS (d + 4) 250 true [.inr (.inr 12), .inl (i : Int)] V Q := by
  have e1 : V 12 1 = 0 := by rw [hS 12 (by decide) (by decide)]; decide +kernel
  have k : ∀ i : Fin 3, z_i2c (z_and (z_VS 26 i.val) 255) = z_VS 26 i.val ∧ 0 ≤ z_VS 26 i.val ∧ z_VS 26 i.val < 65536 := by decide +kernel
  have ki := k ⟨i, hi⟩
  refine zb250_12 _ (zb252_12 ?_)
  rw [e1]
  refine z_ifn (by decide) (zb254_26 _ (sp253 (d := d) (by omega) (z_gp (by omega) (z_all ?_))))
  rw [Int.toNat_natCast, hS 26 (by decide) (by decide), ki.1]
  exact z_gp ki.2 (z_gp ki.2 h)
theorem sp43_12 (hX : zXb V b L) (h7 : V 89 7 = (f : Int)) (h8 : V 89 8 = ((zpTe b L f : Nat) : Int)) (hf : f ≤ L) (h1 : zpWd b L f 12 = true → Q 1 V) (h0 : zpWd b L f 12 = false → Q 0 V) : z_MS (d + 5) 43 true [.inr (.inr 89), .inr (.inr 12)] V Q := by
  have hL := hX.2.2.1
  have te := zpTe_p (b := b) hf
  have hS := hX.2.2.2.2
  have e1 : V 12 1 = 0 := by rw [hS 12 (by decide) (by decide)]; decide +kernel
  have w : zpWl 12 = 3 := by decide
  have lp : zpTe b L f = f + 3 → ∀ (n i : Nat), i + n = 3 → (∀ j, j < i → b (f + j) = z_VS 26 j) → z_Ex (z_MS (d + 4)) 43 Q true 23 [some (.inr (.inr 89)), some (.inr (.inr 12)), some (.inl ((f + i : Nat) : Int))] [] 0 0 V := by
    intro ht n
    induction n with
    | zero =>
      intro i e hi
      refine zb43_89_12_p23 _ (z_ifn (by rw [h8]; omega) (h1 ?_))
      unfold zpWd
      rw [decide_eq_true_eq, w]
      have : i = 3 := by omega
      subst this
      exact ⟨by omega, hi⟩
    | succ n ih =>
      intro i e hi
      obtain ⟨hk, hg, hbf⟩ := zXb_g hX (j := f + i) (by omega)
      refine zb43_89_12_p23 _ (z_ifp (by rw [h8]; omega) (z_gp hk (z_gp hg (z_all ?_))))
      rw [hbf, h7, z_sub_e (by omega), show ((f + i : Nat) : Int) - (f : Int) = (i : Int) by omega]
      refine sp250_12 (d := d) hS (by omega) (z_ifc (fun q => ?_) (fun q => h0 ?_))
      · rw [z_inc (by omega)]
        exact ih (i + 1) (by omega) (fun j hj => by
          by_cases e2 : j = i
          · subst e2; exact q
          · exact hi j (by omega))
      · unfold zpWd
        rw [decide_eq_false_iff_not, w]
        exact fun x => q (x.2 i (by omega))
  refine zb43_89_12 (zb249_12 (zb251_12 ?_))
  rw [e1]
  refine z_gp (by decide) ?_
  have e2 : z_shr 3 (if (1 : Int) = 0 then 1 else 0) = 3 := by decide +kernel
  rw [e2, h8, h7, z_sub_e (by omega)]
  refine z_ifc (fun q => lp (by omega) 3 0 (by omega) (fun j hj => absurd hj (by omega))) (fun q => h0 ?_)
  unfold zpWd
  rw [decide_eq_false_iff_not, w]
  omega
theorem sp250_13 {i : Nat} (hS : zSt V) (hi : i < 3) (h : Q (z_VS 27 i) V) : z_MS (d + 4) 250 true [.inr (.inr 13), .inl (i : Int)] V Q := by
  have e1 : V 13 1 = 0 := by rw [hS 13 (by decide) (by decide)]; decide +kernel
  have k : ∀ i : Fin 3, z_i2c (z_and (z_VS 27 i.val) 255) = z_VS 27 i.val ∧ 0 ≤ z_VS 27 i.val ∧ z_VS 27 i.val < 65536 := by decide +kernel
  have ki := k ⟨i, hi⟩
  refine zb250_13 _ (zb252_13 ?_)
  rw [e1]
  refine z_ifn (by decide) (zb254_27 _ (sp253 (d := d) (by omega) (z_gp (by omega) (z_all ?_))))
  rw [Int.toNat_natCast, hS 27 (by decide) (by decide), ki.1]
  exact z_gp ki.2 (z_gp ki.2 h)
theorem sp43_13 (hX : zXb V b L) (h7 : V 89 7 = (f : Int)) (h8 : V 89 8 = ((zpTe b L f : Nat) : Int)) (hf : f ≤ L) (h1 : zpWd b L f 13 = true → Q 1 V) (h0 : zpWd b L f 13 = false → Q 0 V) : z_MS (d + 5) 43 true [.inr (.inr 89), .inr (.inr 13)] V Q := by
  have hL := hX.2.2.1
  have te := zpTe_p (b := b) hf
  have hS := hX.2.2.2.2
  have e1 : V 13 1 = 0 := by rw [hS 13 (by decide) (by decide)]; decide +kernel
  have w : zpWl 13 = 3 := by decide
  have lp : zpTe b L f = f + 3 → ∀ (n i : Nat), i + n = 3 → (∀ j, j < i → b (f + j) = z_VS 27 j) → z_Ex (z_MS (d + 4)) 43 Q true 23 [some (.inr (.inr 89)), some (.inr (.inr 13)), some (.inl ((f + i : Nat) : Int))] [] 0 0 V := by
    intro ht n
    induction n with
    | zero =>
      intro i e hi
      refine zb43_89_13_p23 _ (z_ifn (by rw [h8]; omega) (h1 ?_))
      unfold zpWd
      rw [decide_eq_true_eq, w]
      have : i = 3 := by omega
      subst this
      exact ⟨by omega, hi⟩
    | succ n ih =>
      intro i e hi
      obtain ⟨hk, hg, hbf⟩ := zXb_g hX (j := f + i) (by omega)
      refine zb43_89_13_p23 _ (z_ifp (by rw [h8]; omega) (z_gp hk (z_gp hg (z_all ?_))))
      rw [hbf, h7, z_sub_e (by omega), show ((f + i : Nat) : Int) - (f : Int) = (i : Int) by omega]
      refine sp250_13 (d := d) hS (by omega) (z_ifc (fun q => ?_) (fun q => h0 ?_))
      · rw [z_inc (by omega)]
        exact ih (i + 1) (by omega) (fun j hj => by
          by_cases e2 : j = i
          · subst e2; exact q
          · exact hi j (by omega))
      · unfold zpWd
        rw [decide_eq_false_iff_not, w]
        exact fun x => q (x.2 i (by omega))
  refine zb43_89_13 (zb249_13 (zb251_13 ?_))
  rw [e1]
  refine z_gp (by decide) ?_
  have e2 : z_shr 3 (if (1 : Int) = 0 then 1 else 0) = 3 := by decide +kernel
  rw [e2, h8, h7, z_sub_e (by omega)]
  refine z_ifc (fun q => lp (by omega) 3 0 (by omega) (fun j hj => absurd hj (by omega))) (fun q => h0 ?_)
  unfold zpWd
  rw [decide_eq_false_iff_not, w]
  omega
theorem sp250_14 {i : Nat} (hS : zSt V) (hi : i < 6) (h : Q (z_VS 28 i) V) : z_MS (d + 4) 250 true [.inr (.inr 14), .inl (i : Int)] V Q := by
  have e1 : V 14 1 = 0 := by rw [hS 14 (by decide) (by decide)]; decide +kernel
  have k : ∀ i : Fin 6, z_i2c (z_and (z_VS 28 i.val) 255) = z_VS 28 i.val ∧ 0 ≤ z_VS 28 i.val ∧ z_VS 28 i.val < 65536 := by decide +kernel
  have ki := k ⟨i, hi⟩
  refine zb250_14 _ (zb252_14 ?_)
  rw [e1]
  refine z_ifn (by decide) (zb254_28 _ (sp253 (d := d) (by omega) (z_gp (by omega) (z_all ?_))))
  rw [Int.toNat_natCast, hS 28 (by decide) (by decide), ki.1]
  exact z_gp ki.2 (z_gp ki.2 h)
theorem sp43_14 (hX : zXb V b L) (h7 : V 89 7 = (f : Int)) (h8 : V 89 8 = ((zpTe b L f : Nat) : Int)) (hf : f ≤ L) (h1 : zpWd b L f 14 = true → Q 1 V) (h0 : zpWd b L f 14 = false → Q 0 V) : z_MS (d + 5) 43 true [.inr (.inr 89), .inr (.inr 14)] V Q := by
  have hL := hX.2.2.1
  have te := zpTe_p (b := b) hf
  have hS := hX.2.2.2.2
  have e1 : V 14 1 = 0 := by rw [hS 14 (by decide) (by decide)]; decide +kernel
  have w : zpWl 14 = 6 := by decide
  have lp : zpTe b L f = f + 6 → ∀ (n i : Nat), i + n = 6 → (∀ j, j < i → b (f + j) = z_VS 28 j) → z_Ex (z_MS (d + 4)) 43 Q true 23 [some (.inr (.inr 89)), some (.inr (.inr 14)), some (.inl ((f + i : Nat) : Int))] [] 0 0 V := by
    intro ht n
    induction n with
    | zero =>
      intro i e hi
      refine zb43_89_14_p23 _ (z_ifn (by rw [h8]; omega) (h1 ?_))
      unfold zpWd
      rw [decide_eq_true_eq, w]
      have : i = 6 := by omega
      subst this
      exact ⟨by omega, hi⟩
    | succ n ih =>
      intro i e hi
      obtain ⟨hk, hg, hbf⟩ := zXb_g hX (j := f + i) (by omega)
      refine zb43_89_14_p23 _ (z_ifp (by rw [h8]; omega) (z_gp hk (z_gp hg (z_all ?_))))
      rw [hbf, h7, z_sub_e (by omega), show ((f + i : Nat) : Int) - (f : Int) = (i : Int) by omega]
      refine sp250_14 (d := d) hS (by omega) (z_ifc (fun q => ?_) (fun q => h0 ?_))
      · rw [z_inc (by omega)]
        exact ih (i + 1) (by omega) (fun j hj => by
          by_cases e2 : j = i
          · subst e2; exact q
          · exact hi j (by omega))
      · unfold zpWd
        rw [decide_eq_false_iff_not, w]
        exact fun x => q (x.2 i (by omega))
  refine zb43_89_14 (zb249_14 (zb251_14 ?_))
  rw [e1]
  refine z_gp (by decide) ?_
  have e2 : z_shr 6 (if (1 : Int) = 0 then 1 else 0) = 6 := by decide +kernel
  rw [e2, h8, h7, z_sub_e (by omega)]
  refine z_ifc (fun q => lp (by omega) 6 0 (by omega) (fun j hj => absurd hj (by omega))) (fun q => h0 ?_)
  unfold zpWd
  rw [decide_eq_false_iff_not, w]
  omega
theorem sp250_15 {i : Nat} (hS : zSt V) (hi : i < 5) (h : Q (z_VS 29 i) V) : z_MS (d + 4) 250 true [.inr (.inr 15), .inl (i : Int)] V Q := by
  have e1 : V 15 1 = 0 := by rw [hS 15 (by decide) (by decide)]; decide +kernel
  have k : ∀ i : Fin 5, z_i2c (z_and (z_VS 29 i.val) 255) = z_VS 29 i.val ∧ 0 ≤ z_VS 29 i.val ∧ z_VS 29 i.val < 65536 := by decide +kernel
  have ki := k ⟨i, hi⟩
  refine zb250_15 _ (zb252_15 ?_)
  rw [e1]
  refine z_ifn (by decide) (zb254_29 _ (sp253 (d := d) (by omega) (z_gp (by omega) (z_all ?_))))
  rw [Int.toNat_natCast, hS 29 (by decide) (by decide), ki.1]
  exact z_gp ki.2 (z_gp ki.2 h)
theorem sp43_15 (hX : zXb V b L) (h7 : V 89 7 = (f : Int)) (h8 : V 89 8 = ((zpTe b L f : Nat) : Int)) (hf : f ≤ L) (h1 : zpWd b L f 15 = true → Q 1 V) (h0 : zpWd b L f 15 = false → Q 0 V) : z_MS (d + 5) 43 true [.inr (.inr 89), .inr (.inr 15)] V Q := by
  have hL := hX.2.2.1
  have te := zpTe_p (b := b) hf
  have hS := hX.2.2.2.2
  have e1 : V 15 1 = 0 := by rw [hS 15 (by decide) (by decide)]; decide +kernel
  have w : zpWl 15 = 5 := by decide
  have lp : zpTe b L f = f + 5 → ∀ (n i : Nat), i + n = 5 → (∀ j, j < i → b (f + j) = z_VS 29 j) → z_Ex (z_MS (d + 4)) 43 Q true 23 [some (.inr (.inr 89)), some (.inr (.inr 15)), some (.inl ((f + i : Nat) : Int))] [] 0 0 V := by
    intro ht n
    induction n with
    | zero =>
      intro i e hi
      refine zb43_89_15_p23 _ (z_ifn (by rw [h8]; omega) (h1 ?_))
      unfold zpWd
      rw [decide_eq_true_eq, w]
      have : i = 5 := by omega
      subst this
      exact ⟨by omega, hi⟩
    | succ n ih =>
      intro i e hi
      obtain ⟨hk, hg, hbf⟩ := zXb_g hX (j := f + i) (by omega)
      refine zb43_89_15_p23 _ (z_ifp (by rw [h8]; omega) (z_gp hk (z_gp hg (z_all ?_))))
      rw [hbf, h7, z_sub_e (by omega), show ((f + i : Nat) : Int) - (f : Int) = (i : Int) by omega]
      refine sp250_15 (d := d) hS (by omega) (z_ifc (fun q => ?_) (fun q => h0 ?_))
      · rw [z_inc (by omega)]
        exact ih (i + 1) (by omega) (fun j hj => by
          by_cases e2 : j = i
          · subst e2; exact q
          · exact hi j (by omega))
      · unfold zpWd
        rw [decide_eq_false_iff_not, w]
        exact fun x => q (x.2 i (by omega))
  refine zb43_89_15 (zb249_15 (zb251_15 ?_))
  rw [e1]
  refine z_gp (by decide) ?_
  have e2 : z_shr 5 (if (1 : Int) = 0 then 1 else 0) = 5 := by decide +kernel
  rw [e2, h8, h7, z_sub_e (by omega)]
  refine z_ifc (fun q => lp (by omega) 5 0 (by omega) (fun j hj => absurd hj (by omega))) (fun q => h0 ?_)
  unfold zpWd
  rw [decide_eq_false_iff_not, w]
  omega
theorem sp250_16 {i : Nat} (hS : zSt V) (hi : i < 5) (h : Q (z_VS 30 i) V) : z_MS (d + 4) 250 true [.inr (.inr 16), .inl (i : Int)] V Q := by
  have e1 : V 16 1 = 0 := by rw [hS 16 (by decide) (by decide)]; decide +kernel
  have k : ∀ i : Fin 5, z_i2c (z_and (z_VS 30 i.val) 255) = z_VS 30 i.val ∧ 0 ≤ z_VS 30 i.val ∧ z_VS 30 i.val < 65536 := by decide +kernel
  have ki := k ⟨i, hi⟩
  refine zb250_16 _ (zb252_16 ?_)
  rw [e1]
  refine z_ifn (by decide) (zb254_30 _ (sp253 (d := d) (by omega) (z_gp (by omega) (z_all ?_))))
  rw [Int.toNat_natCast, hS 30 (by decide) (by decide), ki.1]
  exact z_gp ki.2 (z_gp ki.2 h)
theorem sp43_16 (hX : zXb V b L) (h7 : V 89 7 = (f : Int)) (h8 : V 89 8 = ((zpTe b L f : Nat) : Int)) (hf : f ≤ L) (h1 : zpWd b L f 16 = true → Q 1 V) (h0 : zpWd b L f 16 = false → Q 0 V) : z_MS (d + 5) 43 true [.inr (.inr 89), .inr (.inr 16)] V Q := by
  have hL := hX.2.2.1
  have te := zpTe_p (b := b) hf
  have hS := hX.2.2.2.2
  have e1 : V 16 1 = 0 := by rw [hS 16 (by decide) (by decide)]; decide +kernel
  have w : zpWl 16 = 5 := by decide
  have lp : zpTe b L f = f + 5 → ∀ (n i : Nat), i + n = 5 → (∀ j, j < i → b (f + j) = z_VS 30 j) → z_Ex (z_MS (d + 4)) 43 Q true 23 [some (.inr (.inr 89)), some (.inr (.inr 16)), some (.inl ((f + i : Nat) : Int))] [] 0 0 V := by
    intro ht n
    induction n with
    | zero =>
      intro i e hi
      refine zb43_89_16_p23 _ (z_ifn (by rw [h8]; omega) (h1 ?_))
      unfold zpWd
      rw [decide_eq_true_eq, w]
      have : i = 5 := by omega
      subst this
      exact ⟨by omega, hi⟩
    | succ n ih =>
      intro i e hi
      obtain ⟨hk, hg, hbf⟩ := zXb_g hX (j := f + i) (by omega)
      refine zb43_89_16_p23 _ (z_ifp (by rw [h8]; omega) (z_gp hk (z_gp hg (z_all ?_))))
      rw [hbf, h7, z_sub_e (by omega), show ((f + i : Nat) : Int) - (f : Int) = (i : Int) by omega]
      refine sp250_16 (d := d) hS (by omega) (z_ifc (fun q => ?_) (fun q => h0 ?_))
      · rw [z_inc (by omega)]
        exact ih (i + 1) (by omega) (fun j hj => by
          by_cases e2 : j = i
          · subst e2; exact q
          · exact hi j (by omega))
      · unfold zpWd
        rw [decide_eq_false_iff_not, w]
        exact fun x => q (x.2 i (by omega))
  refine zb43_89_16 (zb249_16 (zb251_16 ?_))
  rw [e1]
  refine z_gp (by decide) ?_
  have e2 : z_shr 5 (if (1 : Int) = 0 then 1 else 0) = 5 := by decide +kernel
  rw [e2, h8, h7, z_sub_e (by omega)]
  refine z_ifc (fun q => lp (by omega) 5 0 (by omega) (fun j hj => absurd hj (by omega))) (fun q => h0 ?_)
  unfold zpWd
  rw [decide_eq_false_iff_not, w]
  omega
theorem sp250_17 {i : Nat} (hS : zSt V) (hi : i < 5) (h : Q (z_VS 31 i) V) : z_MS (d + 4) 250 true [.inr (.inr 17), .inl (i : Int)] V Q := by
  have e1 : V 17 1 = 0 := by rw [hS 17 (by decide) (by decide)]; decide +kernel
  have k : ∀ i : Fin 5, z_i2c (z_and (z_VS 31 i.val) 255) = z_VS 31 i.val ∧ 0 ≤ z_VS 31 i.val ∧ z_VS 31 i.val < 65536 := by decide +kernel
  have ki := k ⟨i, hi⟩
  refine zb250_17 _ (zb252_17 ?_)
  rw [e1]
  refine z_ifn (by decide) (zb254_31 _ (sp253 (d := d) (by omega) (z_gp (by omega) (z_all ?_))))
  rw [Int.toNat_natCast, hS 31 (by decide) (by decide), ki.1]
  exact z_gp ki.2 (z_gp ki.2 h)
theorem sp43_17 (hX : zXb V b L) (h7 : V 89 7 = (f : Int)) (h8 : V 89 8 = ((zpTe b L f : Nat) : Int)) (hf : f ≤ L) (h1 : zpWd b L f 17 = true → Q 1 V) (h0 : zpWd b L f 17 = false → Q 0 V) : z_MS (d + 5) 43 true [.inr (.inr 89), .inr (.inr 17)] V Q := by
  have hL := hX.2.2.1
  have te := zpTe_p (b := b) hf
  have hS := hX.2.2.2.2
  have e1 : V 17 1 = 0 := by rw [hS 17 (by decide) (by decide)]; decide +kernel
  have w : zpWl 17 = 5 := by decide
  have lp : zpTe b L f = f + 5 → ∀ (n i : Nat), i + n = 5 → (∀ j, j < i → b (f + j) = z_VS 31 j) → z_Ex (z_MS (d + 4)) 43 Q true 23 [some (.inr (.inr 89)), some (.inr (.inr 17)), some (.inl ((f + i : Nat) : Int))] [] 0 0 V := by
    intro ht n
    induction n with
    | zero =>
      intro i e hi
      refine zb43_89_17_p23 _ (z_ifn (by rw [h8]; omega) (h1 ?_))
      unfold zpWd
      rw [decide_eq_true_eq, w]
      have : i = 5 := by omega
      subst this
      exact ⟨by omega, hi⟩
    | succ n ih =>
      intro i e hi
      obtain ⟨hk, hg, hbf⟩ := zXb_g hX (j := f + i) (by omega)
      refine zb43_89_17_p23 _ (z_ifp (by rw [h8]; omega) (z_gp hk (z_gp hg (z_all ?_))))
      rw [hbf, h7, z_sub_e (by omega), show ((f + i : Nat) : Int) - (f : Int) = (i : Int) by omega]
      refine sp250_17 (d := d) hS (by omega) (z_ifc (fun q => ?_) (fun q => h0 ?_))
      · rw [z_inc (by omega)]
        exact ih (i + 1) (by omega) (fun j hj => by
          by_cases e2 : j = i
          · subst e2; exact q
          · exact hi j (by omega))
      · unfold zpWd
        rw [decide_eq_false_iff_not, w]
        exact fun x => q (x.2 i (by omega))
  refine zb43_89_17 (zb249_17 (zb251_17 ?_))
  rw [e1]
  refine z_gp (by decide) ?_
  have e2 : z_shr 5 (if (1 : Int) = 0 then 1 else 0) = 5 := by decide +kernel
  rw [e2, h8, h7, z_sub_e (by omega)]
  refine z_ifc (fun q => lp (by omega) 5 0 (by omega) (fun j hj => absurd hj (by omega))) (fun q => h0 ?_)
  unfold zpWd
  rw [decide_eq_false_iff_not, w]
  omega
theorem sp250_18 {i : Nat} (hS : zSt V) (hi : i < 6) (h : Q (z_VS 32 i) V) : z_MS (d + 4) 250 true [.inr (.inr 18), .inl (i : Int)] V Q := by
  have e1 : V 18 1 = 0 := by rw [hS 18 (by decide) (by decide)]; decide +kernel
  have k : ∀ i : Fin 6, z_i2c (z_and (z_VS 32 i.val) 255) = z_VS 32 i.val ∧ 0 ≤ z_VS 32 i.val ∧ z_VS 32 i.val < 65536 := by decide +kernel
  have ki := k ⟨i, hi⟩
  refine zb250_18 _ (zb252_18 ?_)
  rw [e1]
  refine z_ifn (by decide) (zb254_32 _ (sp253 (d := d) (by omega) (z_gp (by omega) (z_all ?_))))
  rw [Int.toNat_natCast, hS 32 (by decide) (by decide), ki.1]
  exact z_gp ki.2 (z_gp ki.2 h)
theorem sp43_18 (hX : zXb V b L) (h7 : V 89 7 = (f : Int)) (h8 : V 89 8 = ((zpTe b L f : Nat) : Int)) (hf : f ≤ L) (h1 : zpWd b L f 18 = true → Q 1 V) (h0 : zpWd b L f 18 = false → Q 0 V) : z_MS (d + 5) 43 true [.inr (.inr 89), .inr (.inr 18)] V Q := by
  have hL := hX.2.2.1
  have te := zpTe_p (b := b) hf
  have hS := hX.2.2.2.2
  have e1 : V 18 1 = 0 := by rw [hS 18 (by decide) (by decide)]; decide +kernel
  have w : zpWl 18 = 6 := by decide
  have lp : zpTe b L f = f + 6 → ∀ (n i : Nat), i + n = 6 → (∀ j, j < i → b (f + j) = z_VS 32 j) → z_Ex (z_MS (d + 4)) 43 Q true 23 [some (.inr (.inr 89)), some (.inr (.inr 18)), some (.inl ((f + i : Nat) : Int))] [] 0 0 V := by
    intro ht n
    induction n with
    | zero =>
      intro i e hi
      refine zb43_89_18_p23 _ (z_ifn (by rw [h8]; omega) (h1 ?_))
      unfold zpWd
      rw [decide_eq_true_eq, w]
      have : i = 6 := by omega
      subst this
      exact ⟨by omega, hi⟩
    | succ n ih =>
      intro i e hi
      obtain ⟨hk, hg, hbf⟩ := zXb_g hX (j := f + i) (by omega)
      refine zb43_89_18_p23 _ (z_ifp (by rw [h8]; omega) (z_gp hk (z_gp hg (z_all ?_))))
      rw [hbf, h7, z_sub_e (by omega), show ((f + i : Nat) : Int) - (f : Int) = (i : Int) by omega]
      refine sp250_18 (d := d) hS (by omega) (z_ifc (fun q => ?_) (fun q => h0 ?_))
      · rw [z_inc (by omega)]
        exact ih (i + 1) (by omega) (fun j hj => by
          by_cases e2 : j = i
          · subst e2; exact q
          · exact hi j (by omega))
      · unfold zpWd
        rw [decide_eq_false_iff_not, w]
        exact fun x => q (x.2 i (by omega))
  refine zb43_89_18 (zb249_18 (zb251_18 ?_))
  rw [e1]
  refine z_gp (by decide) ?_
  have e2 : z_shr 6 (if (1 : Int) = 0 then 1 else 0) = 6 := by decide +kernel
  rw [e2, h8, h7, z_sub_e (by omega)]
  refine z_ifc (fun q => lp (by omega) 6 0 (by omega) (fun j hj => absurd hj (by omega))) (fun q => h0 ?_)
  unfold zpWd
  rw [decide_eq_false_iff_not, w]
  omega
theorem sp250_19 {i : Nat} (hS : zSt V) (hi : i < 6) (h : Q (z_VS 33 i) V) : z_MS (d + 4) 250 true [.inr (.inr 19), .inl (i : Int)] V Q := by
  have e1 : V 19 1 = 0 := by rw [hS 19 (by decide) (by decide)]; decide +kernel
  have k : ∀ i : Fin 6, z_i2c (z_and (z_VS 33 i.val) 255) = z_VS 33 i.val ∧ 0 ≤ z_VS 33 i.val ∧ z_VS 33 i.val < 65536 := by decide +kernel
  have ki := k ⟨i, hi⟩
  refine zb250_19 _ (zb252_19 ?_)
  rw [e1]
  refine z_ifn (by decide) (zb254_33 _ (sp253 (d := d) (by omega) (z_gp (by omega) (z_all ?_))))
  rw [Int.toNat_natCast, hS 33 (by decide) (by decide), ki.1]
  exact z_gp ki.2 (z_gp ki.2 h)
theorem sp43_19 (hX : zXb V b L) (h7 : V 89 7 = (f : Int)) (h8 : V 89 8 = ((zpTe b L f : Nat) : Int)) (hf : f ≤ L) (h1 : zpWd b L f 19 = true → Q 1 V) (h0 : zpWd b L f 19 = false → Q 0 V) : z_MS (d + 5) 43 true [.inr (.inr 89), .inr (.inr 19)] V Q := by
  have hL := hX.2.2.1
  have te := zpTe_p (b := b) hf
  have hS := hX.2.2.2.2
  have e1 : V 19 1 = 0 := by rw [hS 19 (by decide) (by decide)]; decide +kernel
  have w : zpWl 19 = 6 := by decide
  have lp : zpTe b L f = f + 6 → ∀ (n i : Nat), i + n = 6 → (∀ j, j < i → b (f + j) = z_VS 33 j) → z_Ex (z_MS (d + 4)) 43 Q true 23 [some (.inr (.inr 89)), some (.inr (.inr 19)), some (.inl ((f + i : Nat) : Int))] [] 0 0 V := by
    intro ht n
    induction n with
    | zero =>
      intro i e hi
      refine zb43_89_19_p23 _ (z_ifn (by rw [h8]; omega) (h1 ?_))
      unfold zpWd
      rw [decide_eq_true_eq, w]
      have : i = 6 := by omega
      subst this
      exact ⟨by omega, hi⟩
    | succ n ih =>
      intro i e hi
      obtain ⟨hk, hg, hbf⟩ := zXb_g hX (j := f + i) (by omega)
      refine zb43_89_19_p23 _ (z_ifp (by rw [h8]; omega) (z_gp hk (z_gp hg (z_all ?_))))
      rw [hbf, h7, z_sub_e (by omega), show ((f + i : Nat) : Int) - (f : Int) = (i : Int) by omega]
      refine sp250_19 (d := d) hS (by omega) (z_ifc (fun q => ?_) (fun q => h0 ?_))
      · rw [z_inc (by omega)]
        exact ih (i + 1) (by omega) (fun j hj => by
          by_cases e2 : j = i
          · subst e2; exact q
          · exact hi j (by omega))
      · unfold zpWd
        rw [decide_eq_false_iff_not, w]
        exact fun x => q (x.2 i (by omega))
  refine zb43_89_19 (zb249_19 (zb251_19 ?_))
  rw [e1]
  refine z_gp (by decide) ?_
  have e2 : z_shr 6 (if (1 : Int) = 0 then 1 else 0) = 6 := by decide +kernel
  rw [e2, h8, h7, z_sub_e (by omega)]
  refine z_ifc (fun q => lp (by omega) 6 0 (by omega) (fun j hj => absurd hj (by omega))) (fun q => h0 ?_)
  unfold zpWd
  rw [decide_eq_false_iff_not, w]
  omega
theorem sp250_20 {i : Nat} (hS : zSt V) (hi : i < 4) (h : Q (z_VS 34 i) V) : z_MS (d + 4) 250 true [.inr (.inr 20), .inl (i : Int)] V Q := by
  have e1 : V 20 1 = 0 := by rw [hS 20 (by decide) (by decide)]; decide +kernel
  have k : ∀ i : Fin 4, z_i2c (z_and (z_VS 34 i.val) 255) = z_VS 34 i.val ∧ 0 ≤ z_VS 34 i.val ∧ z_VS 34 i.val < 65536 := by decide +kernel
  have ki := k ⟨i, hi⟩
  refine zb250_20 _ (zb252_20 ?_)
  rw [e1]
  refine z_ifn (by decide) (zb254_34 _ (sp253 (d := d) (by omega) (z_gp (by omega) (z_all ?_))))
  rw [Int.toNat_natCast, hS 34 (by decide) (by decide), ki.1]
  exact z_gp ki.2 (z_gp ki.2 h)
theorem sp43_20 (hX : zXb V b L) (h7 : V 89 7 = (f : Int)) (h8 : V 89 8 = ((zpTe b L f : Nat) : Int)) (hf : f ≤ L) (h1 : zpWd b L f 20 = true → Q 1 V) (h0 : zpWd b L f 20 = false → Q 0 V) : z_MS (d + 5) 43 true [.inr (.inr 89), .inr (.inr 20)] V Q := by
  have hL := hX.2.2.1
  have te := zpTe_p (b := b) hf
  have hS := hX.2.2.2.2
  have e1 : V 20 1 = 0 := by rw [hS 20 (by decide) (by decide)]; decide +kernel
  have w : zpWl 20 = 4 := by decide
  have lp : zpTe b L f = f + 4 → ∀ (n i : Nat), i + n = 4 → (∀ j, j < i → b (f + j) = z_VS 34 j) → z_Ex (z_MS (d + 4)) 43 Q true 23 [some (.inr (.inr 89)), some (.inr (.inr 20)), some (.inl ((f + i : Nat) : Int))] [] 0 0 V := by
    intro ht n
    induction n with
    | zero =>
      intro i e hi
      refine zb43_89_20_p23 _ (z_ifn (by rw [h8]; omega) (h1 ?_))
      unfold zpWd
      rw [decide_eq_true_eq, w]
      have : i = 4 := by omega
      subst this
      exact ⟨by omega, hi⟩
    | succ n ih =>
      intro i e hi
      obtain ⟨hk, hg, hbf⟩ := zXb_g hX (j := f + i) (by omega)
      refine zb43_89_20_p23 _ (z_ifp (by rw [h8]; omega) (z_gp hk (z_gp hg (z_all ?_))))
      rw [hbf, h7, z_sub_e (by omega), show ((f + i : Nat) : Int) - (f : Int) = (i : Int) by omega]
      refine sp250_20 (d := d) hS (by omega) (z_ifc (fun q => ?_) (fun q => h0 ?_))
      · rw [z_inc (by omega)]
        exact ih (i + 1) (by omega) (fun j hj => by
          by_cases e2 : j = i
          · subst e2; exact q
          · exact hi j (by omega))
      · unfold zpWd
        rw [decide_eq_false_iff_not, w]
        exact fun x => q (x.2 i (by omega))
  refine zb43_89_20 (zb249_20 (zb251_20 ?_))
  rw [e1]
  refine z_gp (by decide) ?_
  have e2 : z_shr 4 (if (1 : Int) = 0 then 1 else 0) = 4 := by decide +kernel
  rw [e2, h8, h7, z_sub_e (by omega)]
  refine z_ifc (fun q => lp (by omega) 4 0 (by omega) (fun j hj => absurd hj (by omega))) (fun q => h0 ?_)
  unfold zpWd
  rw [decide_eq_false_iff_not, w]
  omega
theorem sp250_21 {i : Nat} (hS : zSt V) (hi : i < 4) (h : Q (z_VS 35 i) V) : z_MS (d + 4) 250 true [.inr (.inr 21), .inl (i : Int)] V Q := by
  have e1 : V 21 1 = 0 := by rw [hS 21 (by decide) (by decide)]; decide +kernel
  have k : ∀ i : Fin 4, z_i2c (z_and (z_VS 35 i.val) 255) = z_VS 35 i.val ∧ 0 ≤ z_VS 35 i.val ∧ z_VS 35 i.val < 65536 := by decide +kernel
  have ki := k ⟨i, hi⟩
  refine zb250_21 _ (zb252_21 ?_)
  rw [e1]
  refine z_ifn (by decide) (zb254_35 _ (sp253 (d := d) (by omega) (z_gp (by omega) (z_all ?_))))
  rw [Int.toNat_natCast, hS 35 (by decide) (by decide), ki.1]
  exact z_gp ki.2 (z_gp ki.2 h)
theorem sp43_21 (hX : zXb V b L) (h7 : V 89 7 = (f : Int)) (h8 : V 89 8 = ((zpTe b L f : Nat) : Int)) (hf : f ≤ L) (h1 : zpWd b L f 21 = true → Q 1 V) (h0 : zpWd b L f 21 = false → Q 0 V) : z_MS (d + 5) 43 true [.inr (.inr 89), .inr (.inr 21)] V Q := by
  have hL := hX.2.2.1
  have te := zpTe_p (b := b) hf
  have hS := hX.2.2.2.2
  have e1 : V 21 1 = 0 := by rw [hS 21 (by decide) (by decide)]; decide +kernel
  have w : zpWl 21 = 4 := by decide
  have lp : zpTe b L f = f + 4 → ∀ (n i : Nat), i + n = 4 → (∀ j, j < i → b (f + j) = z_VS 35 j) → z_Ex (z_MS (d + 4)) 43 Q true 23 [some (.inr (.inr 89)), some (.inr (.inr 21)), some (.inl ((f + i : Nat) : Int))] [] 0 0 V := by
    intro ht n
    induction n with
    | zero =>
      intro i e hi
      refine zb43_89_21_p23 _ (z_ifn (by rw [h8]; omega) (h1 ?_))
      unfold zpWd
      rw [decide_eq_true_eq, w]
      have : i = 4 := by omega
      subst this
      exact ⟨by omega, hi⟩
    | succ n ih =>
      intro i e hi
      obtain ⟨hk, hg, hbf⟩ := zXb_g hX (j := f + i) (by omega)
      refine zb43_89_21_p23 _ (z_ifp (by rw [h8]; omega) (z_gp hk (z_gp hg (z_all ?_))))
      rw [hbf, h7, z_sub_e (by omega), show ((f + i : Nat) : Int) - (f : Int) = (i : Int) by omega]
      refine sp250_21 (d := d) hS (by omega) (z_ifc (fun q => ?_) (fun q => h0 ?_))
      · rw [z_inc (by omega)]
        exact ih (i + 1) (by omega) (fun j hj => by
          by_cases e2 : j = i
          · subst e2; exact q
          · exact hi j (by omega))
      · unfold zpWd
        rw [decide_eq_false_iff_not, w]
        exact fun x => q (x.2 i (by omega))
  refine zb43_89_21 (zb249_21 (zb251_21 ?_))
  rw [e1]
  refine z_gp (by decide) ?_
  have e2 : z_shr 4 (if (1 : Int) = 0 then 1 else 0) = 4 := by decide +kernel
  rw [e2, h8, h7, z_sub_e (by omega)]
  refine z_ifc (fun q => lp (by omega) 4 0 (by omega) (fun j hj => absurd hj (by omega))) (fun q => h0 ?_)
  unfold zpWd
  rw [decide_eq_false_iff_not, w]
  omega
theorem zpNm_n (h : ¬ (f < L ∧ 48 ≤ b f ∧ b f ≤ 57)) : zpNm b L f = -1 := by
  unfold zpNm
  rw [if_neg (by omega)]
theorem sp35 (hX : zXb V b L) (h7 : V 89 7 = (f : Int)) (h8 : V 89 8 = ((zpTe b L f : Nat) : Int)) (hf : f ≤ L) (h : Q (zpNm b L f) V) : z_MS (d + 2) 35 true [.inr (.inr 89)] V Q := by
  have hL := hX.2.2.1
  have te := zpTe_p (b := b) hf
  have no : zpNm b L f = -1 → ∀ (l2 : Int) (o3 : Option z_V), z_Ex (z_MS (d + 1)) 35 Q true 22 [some (.inr (.inr 89)), some (.inl (-1)), some (.inl l2), o3] [] 0 0 V := by
    intro e l2 o3
    rw [e] at h
    exact zb35_89_p22 _ _ _ (z_ifc (fun q => z_ifp rfl h) (fun q => h))
  have lp : f < L → ∀ (n i : Nat), f + i + n = zpTe b L f → (∀ j, j < i → 48 ≤ b (f + j) ∧ b (f + j) ≤ 57) → zpVa b f i ≤ 1000 → ∀ o3 : Option z_V, z_Ex (z_MS (d + 1)) 35 Q true 22 [some (.inr (.inr 89)), some (.inl (zpVa b f i)), some (.inl ((f + i : Nat) : Int)), o3] [] 0 0 V := by
    intro hfl n
    induction n with
    | zero =>
      intro i e hi hv o3
      have ei : zpTe b L f - f = i := by omega
      have d0 := hi 0 (by omega)
      rw [Nat.add_zero] at d0
      have en : zpNm b L f = zpVa b f i := by
        unfold zpNm
        rw [ei, if_pos ⟨hfl, d0.1, d0.2, hv⟩]
      rw [en] at h
      exact zb35_89_p22 _ _ _ (z_ifn (by rw [h8]; omega) h)
    | succ n ih =>
      intro i e hi hv o3
      have v0 := zpVa_p (b := b) (f := f) hi
      obtain ⟨hk, hg, hbf⟩ := zXb_g hX (j := f + i) (by omega)
      refine zb35_89_p22 _ _ _ (z_ifp (by rw [h8]; omega) (z_ifn (by omega) (z_gp hk (z_gp hg (z_all ?_)))))
      rw [hbf]
      refine sp133 (fun q => z_ifn (by decide) (z_gp hk (z_gp hg (z_all ?_)))) (fun q => z_ifp rfl ?_)
      · rw [hbf]
        have hj : ∀ j, j < i + 1 → 48 ≤ b (f + j) ∧ b (f + j) ≤ 57 := fun j hj => by
          by_cases e2 : j = i
          · subst e2; exact q
          · exact hi j (by omega)
        have ev : z_sub (z_add (z_mul (zpVa b f i) 10) (b (f + i))) 48 = zpVa b f (i + 1) := by
          rw [z_mul_e (by omega), z_add_e (by omega), z_sub_e (by omega)]
          show _ = zpVa b f i * 10 + (b (f + i) - 48)
          omega
        rw [ev]
        refine zb35_89_p71 _ _ _ _ (z_ifc (fun q2 => ?_) (fun q2 => ?_))
        · have d0 := hj 0 (by omega)
          rw [Nat.add_zero] at d0
          have er := zpTe_d hfl d0
          have p := zpRe_p (b := b) (L := L) (lo := 48) (hi := 57) _ f rfl
          have m := zpVa_m (b := b) (f := f) (m := i + 1) (n := n) (fun j hj => (p.2.2.1 (f + j) (by omega) (by omega)).2)
          rw [show i + 1 + n = zpTe b L f - f by omega] at m
          have en : zpNm b L f = -1 := by
            unfold zpNm
            rw [if_neg (by omega)]
          rw [en] at h
          exact h
        · rw [z_inc (by omega)]
          exact ih (i + 1) (by omega) hj (by omega) _
      · refine zb35_89_p71 _ _ _ _ (z_ifn (by decide) (no ?_ _ _))
        by_cases e0 : i = 0
        · subst e0
          rw [Nat.add_zero] at q
          exact zpNm_n (by omega)
        · have d0 := hi 0 (by omega)
          rw [Nat.add_zero] at d0
          have er := zpTe_d hfl d0
          have p := zpRe_p (b := b) (L := L) (lo := 48) (hi := 57) _ f rfl
          exact absurd (p.2.2.1 (f + i) (by omega) (by omega)).2 q
  refine zb35_89 ?_
  rw [h7, h8]
  by_cases hfl : f < L
  · rw [if_pos (by omega)]
    exact lp hfl (zpTe b L f - f) 0 (by omega) (fun j hj => absurd hj (by omega)) (by show (0 : Int) ≤ 1000; decide) _
  · rw [if_neg (by rw [zpTe_e hfl]; omega)]
    exact no (zpNm_n (by omega)) _ _
theorem sp36 (hX : zXb V b L) (h7 : V 89 7 = (f : Int)) (h8 : V 89 8 = ((zpTe b L f : Nat) : Int)) (hf : f ≤ L) (h : Q (zpFa b L f) V) : z_MS (d + 6) 36 true [.inr (.inr 89)] V Q := by
  unfold zpFa at h
  refine zb36_89 (sp43_14 (d := d) hX h7 h8 hf (fun q => z_ifn (by decide) (by rw [if_pos q] at h; exact h)) (fun q => z_ifp rfl ?_))
  rw [if_neg (by rw [q]; decide)] at h
  refine sp43_15 (d := d) hX h7 h8 hf (fun q => z_ifn (by decide) (by rw [if_pos q] at h; exact h)) (fun q => z_ifp rfl ?_)
  rw [if_neg (by rw [q]; decide)] at h
  refine sp43_16 (d := d) hX h7 h8 hf (fun q => z_ifn (by decide) (by rw [if_pos q] at h; exact h)) (fun q => z_ifp rfl ?_)
  rw [if_neg (by rw [q]; decide)] at h
  refine sp43_17 (d := d) hX h7 h8 hf (fun q => z_ifn (by decide) (by rw [if_pos q] at h; exact h)) (fun q => z_ifp rfl ?_)
  rw [if_neg (by rw [q]; decide)] at h
  refine sp43_18 (d := d) hX h7 h8 hf (fun q => z_ifn (by decide) (by rw [if_pos q] at h; exact h)) (fun q => z_ifp rfl ?_)
  rw [if_neg (by rw [q]; decide)] at h
  refine sp43_19 (d := d) hX h7 h8 hf (fun q => z_ifn (by decide) (by rw [if_pos q] at h; exact h)) (fun q => z_ifp rfl ?_)
  rw [if_neg (by rw [q]; decide)] at h
  refine sp43_20 (d := d) hX h7 h8 hf (fun q => z_ifn (by decide) (by rw [if_pos q] at h; exact h)) (fun q => z_ifp rfl ?_)
  rw [if_neg (by rw [q]; decide)] at h
  refine sp43_21 (d := d) hX h7 h8 hf (fun q => z_ifn (by decide) (by rw [if_pos q] at h; exact h)) (fun q => z_ifp rfl ?_)
  rw [if_neg (by rw [q]; decide)] at h
  refine sp43_8 (d := d) hX h7 h8 hf (fun q => ?_) (fun q => ?_)
  · rw [if_pos q] at h
    rw [if_neg (by decide)]
    exact h
  · rw [if_neg (by rw [q]; decide)] at h
    rw [if_pos rfl]
    exact h
def zXa (V : z_M) (s : Nat) (a c : Int) : z_M := z_up (z_up (z_up V 90 s a) 91 s c) 89 3 ((s + 1 : Nat) : Int)
theorem sp37 {s : Nat} {a c : Int} (h3 : V 89 3 = (s : Int)) (hs : s < 400) (h : Q (s : Int) (zXa V s a c)) : z_MS (d + 1) 37 true [.inr (.inr 89), .inl a, .inl c] V Q := by
  refine zb37_89 _ _ ?_
  rw [h3]
  refine z_ifp (by omega) (z_gp (by omega) (z_all ?_))
  rw [Int.toNat_natCast]
  have e1 : z_up V 90 s a 89 3 = (s : Int) := by rw [z_up_cell (by decide)]; exact h3
  rw [e1]
  refine z_gp (by omega) (z_all (z_all ?_))
  rw [Int.toNat_natCast]
  have e2 : z_up (z_up V 90 s a) 91 s c 89 3 = (s : Int) := by rw [z_up_cell (by decide)]; exact e1
  rw [e2, z_inc (by omega)]
  have e3 : z_up (z_up (z_up V 90 s a) 91 s c) 89 3 ((s + 1 : Nat) : Int) 89 3 = ((s + 1 : Nat) : Int) := rfl
  rw [e3, z_sub_e (by omega), show ((s + 1 : Nat) : Int) - 1 = (s : Int) by omega]
  exact h
theorem sp38 (h : ∀ W, W = z_up V 89 9 (V 89 7) → Q 0 W) : z_MS (d + 1) 38 true [.inr (.inr 89)] V Q := zb38_89 h
end
