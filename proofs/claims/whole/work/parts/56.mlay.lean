/-! the reference lays out -/
section
variable {d : Nat} {Q : Int → z_M → Prop}
/-- a row of books: places by books, and back -/
def zPm2 (n : Nat) (π σ : Nat → Nat) : Prop := ∀ t, t < n → π t < n ∧ σ t < n ∧ σ (π t) = t ∧ π (σ t) = t
def zAk (ρ : Nat → Int) (a : Nat) : Nat := (ρ (69 + 2 * a)).toNat
def zRq (ρ : Nat → Int) (a : Nat) : Nat := (ρ (68 + 2 * a)).toNat
theorem lp202a {U V0 : z_M} {b0 : Nat} {ρ : Nat → Int} {Λ : Nat → (Nat → Int) → Int} {n m i : Nat} {π σ : Nat → Nat} {l1 : Int} (hT : zT b0 ρ V0 Λ) (h143 : U 143 = ρ) (hn : ρ 0 = (n : Int)) (hm : ρ 4 = (m : Int)) (hp : zPm2 n π σ) (hi : i < n) (h155 : U 155 i = (π i : Int))
    (h : ∀ W o3, (∀ a, ¬ a = 158 → W a = U a) → (∀ a, a < m → σ (zAk ρ a) < i + 1 → W 158 a = (σ (zAk ρ a) : Int)) → z_Ex (z_MS d) 202 Q true 9 [some (.inr (.inr 141)), some (.inl l1), some (.inl ((i + 1 : Nat) : Int)), o3] [] 0 0 W) :
    ∀ (k j : Nat) (V : z_M), j + k = m → (∀ a, ¬ a = 158 → V a = U a) → (∀ a, a < m → σ (zAk ρ a) < i ∨ (a < j ∧ σ (zAk ρ a) < i + 1) → V 158 a = (σ (zAk ρ a) : Int)) → z_Ex (z_MS d) 202 Q true 71 [some (.inr (.inr 141)), some (.inl l1), some (.inl (i : Int)), some (.inl (j : Int))] [] 0 0 V
  | 0, j, V, e, hV, hW => by
    have e2 : j = m := by omega
    subst e2
    have a4 := zT_4 hT
    have a0 := zT_0 hT
    refine zb202_141_p71 _ _ _ (z_ifn (by rw [hV 143 (by decide), h143]; omega) ?_)
    rw [z_inc (by omega)]
    exact h V _ hV (fun a ha hs => hW a ha (Or.inr ⟨ha, hs⟩))
  | k + 1, j, V, e, hV, hW => by
    have a4 := zT_4 hT
    have a0 := zT_0 hT
    have aa := zT_a hT (a := j) (by omega)
    obtain ⟨p1, p2, p3, p4⟩ := hp i hi
    have hak : ρ (69 + 2 * j) = (zAk ρ j : Int) := by unfold zAk; omega
    obtain ⟨q1, q2, q3, q4⟩ := hp (zAk ρ j) (by omega)
    refine zb202_141_p71 _ _ _ (z_ifp (by rw [hV 143 (by decide), h143]; omega) ?_)
    have e1 : z_add (z_add 68 (z_mul 2 (j : Int))) 1 = ((69 + 2 * j : Nat) : Int) := by simp (disch := omega) only [z_mul_e, z_add_e, z_sub_e]; omega
    rw [e1, z_inc (by omega)]
    refine z_gp (by omega) (z_all (z_gp (by omega) (z_all ?_)))
    rw [Int.toNat_natCast, Int.toNat_natCast, hV 143 (by decide), h143, hV 155 (by decide), h155, hak]
    refine z_ifc (fun c => z_gp (by omega) (z_all ?_)) (fun c => z_gp (by omega) (z_all (z_gp (by omega) (z_all ?_))))
    · rw [Int.toNat_natCast]
      refine lp202a hT h143 hn hm hp hi h155 h k (j + 1) _ (by omega) (fun a ha => by rw [z_up_cell ha]; exact hV a ha) (fun a ha hs => ?_)
      by_cases ea : a = j
      · subst ea
        rw [zUp_s]
        have : zAk ρ a = π i := by omega
        rw [this, p3]
      · rw [zUp_o (by omega)]
        exact hW a ha (by omega)
    · rw [Int.toNat_natCast]
      refine lp202a hT h143 hn hm hp hi h155 h k (j + 1) _ (by omega) (fun a ha => by rw [z_up_cell ha]; exact hV a ha) (fun a ha hs => ?_)
      by_cases ea : a = j
      · subst ea
        rw [zUp_s]
        refine hW a ha ?_
        rcases hs with hs | ⟨_, hs⟩
        · exact Or.inl hs
        · by_cases es : σ (zAk ρ a) = i
          · rw [es] at q4
            rw [q4] at c
            exact absurd rfl c
          · exact Or.inl (by omega)
      · rw [zUp_o (by omega)]
        exact hW a ha (by omega)
theorem lp202t {U V0 : z_M} {b0 : Nat} {ρ : Nat → Int} {Λ : Nat → (Nat → Int) → Int} {n m : Nat} {π σ : Nat → Nat} (hT : zT b0 ρ V0 Λ) (h143 : U 143 = ρ) (hn : ρ 0 = (n : Int)) (hm : ρ 4 = (m : Int)) (hp : zPm2 n π σ) (h155 : ∀ t, t < n → U 155 t = (π t : Int))
    (h : ∀ W l1 o3, zFm 36 36 156 158 U W → (∀ t, t < n → W 156 t = zLE ρ π (t + 1)) → zBS (W 141 36) (fun t => decide (t < n) && zG0 ρ π t) → (∀ a, a < m → W 158 a = (σ (zAk ρ a) : Int)) → z_Ex (z_MS (d + 1)) 202 Q true 133 [some (.inr (.inr 141)), some (.inl l1), some (.inl 0), o3] [] 0 0 W) :
    ∀ (k i : Nat) (V : z_M) (o3 : Option z_V), i + k = n → zFm 36 36 156 158 U V → (∀ t, t < i → V 156 t = zLE ρ π (t + 1)) → zBS (V 141 36) (fun t => decide (t < i) && zG0 ρ π t) → (∀ a, a < m → σ (zAk ρ a) < i → V 158 a = (σ (zAk ρ a) : Int)) → z_Ex (z_MS (d + 1)) 202 Q true 9 [some (.inr (.inr 141)), some (.inl (zLE ρ π i)), some (.inl (i : Int)), o3] [] 0 0 V
  | 0, i, V, o3, e, hV, h6, h36, h8 => by
    have e2 : i = n := by omega
    subst e2
    refine zb202_141_p9 _ _ _ (sp154 (d := d) ?_)
    rw [hV.1 143 (by decide) (by omega), h143, hn]
    refine z_ifn (by omega) (h V _ _ hV h6 h36 (fun a ha => h8 a ha ?_))
    have aa := zT_a hT (a := a) (by omega)
    exact (hp (zAk ρ a) (by unfold zAk; omega)).2.1
  | k + 1, i, V, o3, e, hV, h6, h36, h8 => by
    have a0 := zT_0 hT
    have e143 : V 143 = ρ := by rw [hV.1 143 (by decide) (by omega), h143]
    obtain ⟨p1, p2, p3, p4⟩ := hp i (by omega)
    have pt := zT_t hT (t := π i) (by omega)
    have lb := zLE_b hT hn (fun t ht => (hp t ht).1) (p := i) (by omega)
    have e155 : V 155 i = (π i : Int) := by rw [hV.1 155 (by decide) (by omega)]; exact h155 i (by omega)
    refine zb202_141_p9 _ _ _ (sp154 (d := d) ?_)
    rw [e143, hn]
    refine z_ifp (by omega) (z_gp (by omega) (z_all ?_))
    rw [Int.toNat_natCast, e155]
    refine sp157 (w := 0) (by omega) (by omega) ?_
    rw [e143, show 8 + 4 * π i + 0 = 8 + 4 * π i by omega, z_add_e (by omega)]
    refine z_gp (by omega) (z_all (z_gp (by omega) (z_all ?_)))
    have f155 : ∀ v, z_up V 156 i v 155 i = (π i : Int) := fun v => by rw [z_up_cell (by decide)]; exact e155
    have f143 : ∀ v, z_up V 156 i v 143 = ρ := fun v => by rw [z_up_cell (by decide)]; exact e143
    have f141 : ∀ v, z_up V 156 i v 141 = V 141 := fun v => z_up_cell (by decide)
    rw [f155]
    refine sp157 (w := 3) (by omega) (by omega) (z_all ?_)
    rw [f143, f141, show 8 + 4 * π i + 3 = 11 + 4 * π i by omega]
    have hle : zLE ρ π i + ρ (8 + 4 * π i) = zLE ρ π (i + 1) := rfl
    rw [hle]
    refine lp202a (σ := σ) hT (by rw [z_up_cell (by decide)]; exact f143 _) hn hm hp (by omega) (by rw [z_up_cell (by decide)]; exact f155 _) (fun W o3 w1 w2 => ?_) m 0 _ (by omega) (fun _ _ => rfl) (fun a ha hs => ?_)
    · refine lp202t hT h143 hn hm hp h155 h k (i + 1) W o3 (by omega) ⟨fun a x y => ?_, fun j hj => ?_⟩ (fun t ht => ?_) ?_ (fun a ha hs => w2 a ha hs)
      · rw [w1 a (by omega), z_up_cell x, z_up_cell (by omega)]
        exact hV.1 a x y
      · rw [w1 141 (by decide), zUp_o (by omega), f141]
        exact hV.2 j hj
      · rw [w1 156 (by decide), z_up_cell (by decide)]
        by_cases et : t = i
        · subst et; exact zUp_s
        · rw [zUp_o (by omega)]; exact h6 t (by omega)
      · rw [w1 141 (by decide), zUp_s]
        by_cases ho : ρ (11 + 4 * π i) = 1
        · rw [if_pos ho]
          refine zBS_ex1 h36 ?_ (by omega)
          unfold zG0
          rw [ho]
          rfl
        · rw [if_neg ho]
          refine zBS_ex0 (zBS_c (zBS_or h36 zBS_0) (fun k => Bool.or_false _)) ?_
          unfold zG0
          rw [show ρ (11 + 4 * π i) = 0 by omega]
          rfl
    · rw [z_up_cell (by decide), z_up_cell (by decide)]
      exact h8 a ha (by omega)
theorem lp202c {U V0 : z_M} {b0 : Nat} {ρ : Nat → Int} {Λ : Nat → (Nat → Int) → Int} {n r : Nat} {π σ : Nat → Nat} (hT : zT b0 ρ V0 Λ) (h143 : U 143 = ρ) (hn : ρ 0 = (n : Int)) (hp : zPm2 n π σ) (h155 : ∀ t, t < n → U 155 t = (π t : Int)) (h156 : ∀ t, t < n → U 156 t = zLE ρ π (t + 1)) (hr : (r : Int) < ρ 1)
    (h : ∀ W o1 o3, zFm 26 31 153 157 U W → (∀ a, a = 155 ∨ a = 156 → W a = U a) → (∀ q, ¬ q = r → W 157 q = U 157 q) → zBS (W 157 r) (fun t => decide (t < n) && zCR ρ Λ π r t) → z_Ex (z_MS (d + 5)) 202 Q true 133 [some (.inr (.inr 141)), o1, some (.inl ((r + 1 : Nat) : Int)), o3] [] 0 0 W) :
    ∀ (k i : Nat) (V : z_M) (o1 : Option z_V), i + k = n → zFm 26 31 153 157 U V → (∀ a, a = 155 ∨ a = 156 → V a = U a) → (∀ q, ¬ q = r → V 157 q = U 157 q) → zBS (V 157 r) (fun t => decide (t < i) && zCR ρ Λ π r t) → z_Ex (z_MS (d + 5)) 202 Q true 152 [some (.inr (.inr 141)), o1, some (.inl (r : Int)), some (.inl (i : Int))] [] 0 0 V
  | 0, i, V, o1, e, hV, h5, hq, hz => by
    have e2 : i = n := by omega
    subst e2
    have a1 := zT_1 hT
    refine zb202_141_p152 _ _ _ (sp154 (d := d + 4) ?_)
    rw [hV.1 143 (by decide) (by omega), h143, hn, z_inc (i := r) (by omega)]
    exact z_ifn (by omega) (h V _ _ hV h5 hq hz)
  | k + 1, i, V, o1, e, hV, h5, hq, hz => by
    have a0 := zT_0 hT
    have a1 := zT_1 hT
    have e143 : V 143 = ρ := by rw [hV.1 143 (by decide) (by omega), h143]
    obtain ⟨p1, p2, p3, p4⟩ := hp i (by omega)
    have lb := zLE_b hT hn (fun t ht => (hp t ht).1) (p := i + 1) (by omega)
    refine zb202_141_p152 _ _ _ (sp154 (d := d + 4) ?_)
    rw [e143, hn]
    refine z_ifp (by omega) (z_gp (by omega) (z_all ?_))
    rw [Int.toNat_natCast, z_inc (by omega)]
    refine sp203 (d := d + 1) (b := π i) (lev := zLE ρ π (i + 1)) hT e143 hr (by omega) (by omega) (by omega) (by rw [h5 155 (Or.inl rfl)]; exact h155 i (by omega)) (by rw [h5 156 (Or.inr rfl)]; exact h156 i (by omega)) (fun W w1 => z_gp (by omega) (z_all ?_))
    refine lp202c hT h143 hn hp h155 h156 hr h k (i + 1) _ _ (by omega) (zFm_u (zFm_t hV (zFm_w w1 (by omega))) (by omega)) (fun a ha => ?_) (fun q hqr => ?_) ?_
    · rw [z_up_cell (by omega), w1.1 a (by omega) (by omega)]
      exact h5 a ha
    · rw [zUp_o (by omega), w1.1 157 (by decide) (by omega)]
      exact hq q hqr
    · rw [zUp_s]
      cases hb : zHold ρ Λ r (π i) (i : Int) (zLE ρ π (i + 1)) with
      | true => exact zBS_ex1 hz hb (by omega)
      | false => exact zBS_ex0 (zBS_c (zBS_or hz zBS_0) (fun k => Bool.or_false _)) hb
theorem lp202r {U V0 : z_M} {b0 : Nat} {ρ : Nat → Int} {Λ : Nat → (Nat → Int) → Int} {n R : Nat} {π σ : Nat → Nat} (hT : zT b0 ρ V0 Λ) (h143 : U 143 = ρ) (hn : ρ 0 = (n : Int)) (hR : ρ 1 = (R : Int)) (hp : zPm2 n π σ) (h155 : ∀ t, t < n → U 155 t = (π t : Int)) (h156 : ∀ t, t < n → U 156 t = zLE ρ π (t + 1))
    (h : ∀ W, zFm 26 31 153 157 U W → (∀ a, a = 155 ∨ a = 156 → W a = U a) → (∀ r, r < R → zBS (W 157 r) (fun t => decide (t < n) && zCR ρ Λ π r t)) → Q 0 W) :
    ∀ (k i : Nat) (V : z_M) (o1 o3 : Option z_V), i + k = R → zFm 26 31 153 157 U V → (∀ a, a = 155 ∨ a = 156 → V a = U a) → (∀ r, r < i → zBS (V 157 r) (fun t => decide (t < n) && zCR ρ Λ π r t)) → z_Ex (z_MS (d + 5)) 202 Q true 133 [some (.inr (.inr 141)), o1, some (.inl (i : Int)), o3] [] 0 0 V
  | 0, i, V, o1, o3, e, hV, h5, hz => by
    have e2 : i = R := by omega
    subst e2
    exact zb202_141_p133 _ _ _ (z_ifn (by rw [hV.1 143 (by decide) (by omega), h143]; omega) (h V hV h5 hz))
  | k + 1, i, V, o1, o3, e, hV, h5, hz => by
    have a1 := zT_1 hT
    refine zb202_141_p133 _ _ _ (z_ifp (by rw [hV.1 143 (by decide) (by omega), h143]; omega) (z_gp (by omega) (z_all ?_)))
    rw [Int.toNat_natCast]
    refine lp202c (σ := σ) hT (by rw [z_up_cell (by decide), hV.1 143 (by decide) (by omega), h143]) hn hp (fun t ht => by rw [z_up_cell (by decide), h5 155 (Or.inl rfl)]; exact h155 t ht) (fun t ht => by rw [z_up_cell (by decide), h5 156 (Or.inr rfl)]; exact h156 t ht) (by omega) (fun W o1 o3 w1 w2 w3 w4 => ?_) n 0 _ _ (by omega) zFm_r (fun _ _ => rfl) (fun _ _ => rfl) (by rw [zUp_s]; exact zBS_e0)
    refine lp202r hT h143 hn hR hp h155 h156 h k (i + 1) W o1 o3 (by omega) (zFm_t hV (zFm_t (zFm_u zFm_r (by omega)) w1)) (fun a ha => by rw [w2 a ha, z_up_cell (by omega)]; exact h5 a ha) (fun r hr => ?_)
    by_cases er : r = i
    · subst er; exact w4
    · rw [w3 r er, zUp_o (by omega)]
      exact hz r (by omega)
theorem sp202 {V V0 : z_M} {b0 : Nat} {ρ : Nat → Int} {Λ : Nat → (Nat → Int) → Int} {n R m : Nat} {π σ : Nat → Nat} (hT : zT b0 ρ V0 Λ) (h143 : V 143 = ρ) (hn : ρ 0 = (n : Int)) (hR : ρ 1 = (R : Int)) (hm : ρ 4 = (m : Int)) (hp : zPm2 n π σ) (h155 : ∀ t, t < n → V 155 t = (π t : Int))
    (h : ∀ W, zFm 26 36 153 158 V W → W 155 = V 155 → zMC W ρ n R m (zLE ρ π) (zCR ρ Λ π) (fun a => σ (zAk ρ a)) (zG0 ρ π) → Q 0 W) :
    z_MS (d + 6) 202 true [.inr (.inr 141)] V Q := by
  refine zb202_141 (z_all ?_)
  have u1 : zFm 36 36 156 158 V (z_up V 141 36 0) := zFm_f zFm_r (by omega)
  refine lp202t (σ := σ) (d := d + 4) (U := z_up V 141 36 0) hT (by rw [z_up_cell (by decide)]; exact h143) hn hm hp (fun t ht => by rw [z_up_cell (by decide)]; exact h155 t ht) (fun W l1 o3 w1 w2 w3 w4 => ?_) n 0 _ _ (by omega) zFm_r (fun t ht => absurd ht (Nat.not_lt_zero t)) (by rw [zUp_s]; exact zBS_e0) (fun a ha hs => absurd hs (Nat.not_lt_zero _))
  have e143 : W 143 = ρ := by rw [w1.1 143 (by decide) (by omega), z_up_cell (by decide), h143]
  have e155 : W 155 = V 155 := by rw [w1.1 155 (by decide) (by omega), z_up_cell (by decide)]
  refine lp202r (d := d) (σ := σ) hT e143 hn hR hp (fun t ht => by rw [e155]; exact h155 t ht) w2 (fun X x1 x2 x3 => ?_) R 0 W _ _ (by omega) zFm_r (fun _ _ => rfl) (fun r hr => absurd hr (Nat.not_lt_zero r))
  refine h X (zFm_t (zFm_w u1 (by omega)) (zFm_t (zFm_w w1 (by omega)) (zFm_w x1 (by omega)))) (by rw [x2 155 (Or.inl rfl), e155]) ⟨by rw [x1.1 143 (by decide) (by omega), e143], hn, hR, hm, fun t ht => by rw [x2 156 (Or.inr rfl)]; exact w2 t ht, x3, fun a ha => by rw [x1.1 158 (by decide) (by omega)]; exact w4 a ha, by rw [x1.2 36 (by omega)]; exact w3⟩
theorem lp201 {U : z_M} (h : ∀ W, (∀ a, ¬ a = 155 → W a = U a) → (∀ t : Nat, t < 12 → W 155 t = (t : Int)) → z_MS d 202 true [.inr (.inr 141)] W (fun _ X => Q 0 X)) :
    ∀ (k i : Nat) (V : z_M), i + k = 12 → (∀ a, ¬ a = 155 → V a = U a) → (∀ t : Nat, t < i → V 155 t = (t : Int)) → z_Ex (z_MS d) 201 Q true 7 [some (.inr (.inr 141)), some (.inl (i : Int))] [] 0 0 V
  | 0, i, V, e, hV, hf => by
    have e2 : i = 12 := by omega
    subst e2
    exact zb201_141_p7 _ (z_ifn (by omega) (h V hV hf))
  | k + 1, i, V, e, hV, hf => by
    refine zb201_141_p7 _ (z_ifp (by omega) (z_gp (by omega) (z_all ?_)))
    rw [z_inc (by omega), Int.toNat_natCast]
    refine lp201 h k (i + 1) _ (by omega) (fun a ha => by rw [z_up_cell ha]; exact hV a ha) (fun t ht => ?_)
    by_cases et : t = i
    · subst et; exact zUp_s
    · rw [zUp_o (by omega)]; exact hf t (by omega)
theorem zPm2_id {n : Nat} : zPm2 n (fun t => t) (fun t => t) := fun _ ht => ⟨ht, ht, rfl, rfl⟩
theorem sp201 {V V0 : z_M} {b0 : Nat} {ρ : Nat → Int} {Λ : Nat → (Nat → Int) → Int} {n R m : Nat} (hT : zT b0 ρ V0 Λ) (h143 : V 143 = ρ) (hn : ρ 0 = (n : Int)) (hR : ρ 1 = (R : Int)) (hm : ρ 4 = (m : Int))
    (h : ∀ W, zFm 26 36 153 158 V W → zMC W ρ n R m (zLE ρ (fun t => t)) (zCR ρ Λ (fun t => t)) (zAk ρ) (zG0 ρ (fun t => t)) → Q 0 W) :
    z_MS (d + 7) 201 true [.inr (.inr 141)] V Q := by
  have a0 := zT_0 hT
  refine zb201_141 (z_all (lp201 (fun W w1 w2 => ?_) 12 0 _ rfl (fun _ _ => rfl) (fun t ht => absurd ht (Nat.not_lt_zero t))))
  have fW : zFm 26 36 153 158 V W := ⟨fun a x y => by rw [w1 a (by omega), z_up_cell x], fun k hk => by rw [w1 141 (by decide), zUp_o (by omega)]⟩
  exact sp202 (π := fun t => t) (σ := fun t => t) hT (by rw [fW.1 143 (by decide) (by omega), h143]) hn hR hm zPm2_id (fun t ht => w2 t (by omega)) (fun X x1 _ x3 => h X (zFm_t fW x1) x3)
theorem lp226 {U V0 : z_M} {b0 : Nat} {ρ : Nat → Int} {Λ : Nat → (Nat → Int) → Int} {n R m : Nat} {lev : Nat → Int} {car : Nat → Nat → Bool} {tq : Nat → Nat} {g0 : Nat → Bool} {S : (Nat → Nat) × (Nat → Bool)} (hT : zT b0 ρ V0 Λ) (hl0 : lev 0 = 0) (hlb : ∀ p, p ≤ n → 0 ≤ lev p ∧ lev p ≤ 108) (hn : ρ 0 = (n : Int)) (hR : ρ 1 = (R : Int)) (hm : ρ 4 = (m : Int)) (htq : ∀ a, a < m → tq a < n)
    (h : ∀ W z, zFm 44 44 159 162 U W → zMC W ρ n R m lev car tq g0 → zMD W n (zPl (zSv n R lev (zSR ρ) (ρ 7) car) (zRq ρ) tq S m).1 (zPl (zSv n R lev (zSR ρ) (ρ 7) car) (zRq ρ) tq S m).2 → zBS z (fun a => decide (a < m) && zPb (zSv n R lev (zSR ρ) (ρ 7) car) (zRq ρ) tq S a) → Q z W) :
    ∀ (k i : Nat) (V : z_M) (z : Int), i + k = m → zFm 44 44 159 162 U V → zMC V ρ n R m lev car tq g0 → zMD V n (zPl (zSv n R lev (zSR ρ) (ρ 7) car) (zRq ρ) tq S i).1 (zPl (zSv n R lev (zSR ρ) (ρ 7) car) (zRq ρ) tq S i).2 → zBS z (fun a => decide (a < i) && zPb (zSv n R lev (zSR ρ) (ρ 7) car) (zRq ρ) tq S a) → z_Ex (z_MS (d + 4)) 226 Q true 8 [some (.inr (.inr 141)), some (.inl z), some (.inl (i : Int))] [] 0 0 V
  | 0, i, V, z, e, hV, hC, hD, hz => by
    have e2 : i = m := by omega
    subst e2
    exact zb226_141_p8 _ _ (z_ifn (by rw [hC.1]; omega) (h V z hV hC hD hz))
  | k + 1, i, V, z, e, hV, hC, hD, hz => by
    have a4 := zT_4 hT
    have a1 := zT_1 hT
    have aa := zT_a hT (a := i) (by omega)
    refine zb226_141_p8 _ _ (z_ifp (by rw [hC.1]; omega) (sp225 (d := d + 3) (by omega) (z_gp (by omega) (z_all ?_))))
    have hrq : ρ (68 + 2 * i) = (zRq ρ i : Int) := by unfold zRq; omega
    rw [Int.toNat_natCast, hC.2.2.2.2.2.2.1 i (by omega), hC.1, hrq, z_inc (by omega)]
    have hpl : zPl (zSv n R lev (zSR ρ) (ρ 7) car) (zRq ρ) tq S (i + 1) = zWs (zSv n R lev (zSR ρ) (ρ 7) car) (zPl (zSv n R lev (zSR ρ) (ρ 7) car) (zRq ρ) tq S i) (zRq ρ i) (tq i) := rfl
    refine sp223 hT hC hD hl0 hlb (by omega) (htq i (by omega)) (fun h0 W w1 w2 w3 => ?_) (fun p W hp hp2 w1 w2 w3 => ?_)
    · rw [if_pos rfl]
      refine lp226 hT hl0 hlb hn hR hm htq h k (i + 1) W _ (by omega) (zFm_t hV w1) w2 ?_ (zBS_ex0 (zBS_c (zBS_or hz zBS_0) (fun k => Bool.or_false _)) ?_)
      · rw [hpl]
        unfold zWs
        rw [if_pos h0]
        exact w3
      · unfold zPb
        rw [h0]
        rfl
    · rw [if_neg (by decide)]
      refine lp226 hT hl0 hlb hn hR hm htq h k (i + 1) W _ (by omega) (zFm_t hV w1) w2 ?_ (zBS_ex1 hz ?_ (by omega))
      · rw [hpl]
        unfold zWs
        rw [if_neg (by rw [hp]; omega), hp, Int.toNat_natCast]
        exact w3
      · unfold zPb
        rw [hp]
        simp
theorem sp226 {V V0 : z_M} {b0 : Nat} {ρ : Nat → Int} {Λ : Nat → (Nat → Int) → Int} {n R m : Nat} {lev : Nat → Int} {car : Nat → Nat → Bool} {tq : Nat → Nat} {g0 : Nat → Bool} (hT : zT b0 ρ V0 Λ) (hC : zMC V ρ n R m lev car tq g0) (hl0 : lev 0 = 0) (hlb : ∀ p, p ≤ n → 0 ≤ lev p ∧ lev p ≤ 108) (htq : ∀ a, a < m → tq a < n)
    (h : ∀ W z, zFm 44 44 159 162 V W → zMC W ρ n R m lev car tq g0 → zMD W n (zPl (zSv n R lev (zSR ρ) (ρ 7) car) (zRq ρ) tq (fun _ => 0, g0) m).1 (zPl (zSv n R lev (zSR ρ) (ρ 7) car) (zRq ρ) tq (fun _ => 0, g0) m).2 → zBS z (fun a => decide (a < m) && zPb (zSv n R lev (zSR ρ) (ρ 7) car) (zRq ρ) tq (fun _ => 0, g0) a) → Q z W) :
    z_MS (d + 5) 226 true [.inr (.inr 141)] V Q := by
  refine zb226_141 (sp221 (d := d + 3) hC (fun W w1 w2 w3 => ?_))
  exact lp226 hT hl0 hlb hC.2.1 hC.2.2.1 hC.2.2.2.1 htq (fun X z x1 x2 x3 x4 => h X z (zFm_t w1 x1) x2 x3 x4) m 0 W 0 (by omega) zFm_r w2 w3 zBS_e0
end
