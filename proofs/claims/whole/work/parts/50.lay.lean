/-! the class's scene: laid, measured, looked at -/
theorem zBS_ex0 {z : Int} {j : Nat} {F : Nat → Bool} (h : zBS z (fun p => decide (p < j) && F p)) (hf : F j = false) : zBS z (fun p => decide (p < j + 1) && F p) :=
  zBS_c h (fun k => by
    by_cases e : k = j
    · subst e; rw [hf, Bool.and_false, Bool.and_false]
    · rw [show decide (k < j + 1) = decide (k < j) by simp; omega])
theorem zBS_ex1 {z : Int} {j : Nat} {F : Nat → Bool} (h : zBS z (fun p => decide (p < j) && F p)) (hf : F j = true) (hj : j < 31) : zBS (z_or z (z_shl 1 (j : Int))) (fun p => decide (p < j + 1) && F p) :=
  zBS_c (zBS_or h (zBS_pow hj)) (fun k => by
    by_cases e : k = j
    · subst e; rw [hf]; simp
    · rw [show decide (k < j + 1) = decide (k < j) by simp; omega, show decide (k = j) = false by simp [e], Bool.or_false])
theorem zBS_e0 {F : Nat → Bool} : zBS 0 (fun p => decide (p < 0) && F p) := zBS_c zBS_0 (fun k => by simp)
theorem lp257 {d : Nat} {Q : Int → z_M → Prop} {U : z_M} (h : ∀ W, (∀ a, ¬ a = 115 → W a = U a) → (∀ r, r < 6 → W 115 r = 0) → Q 0 W) :
    ∀ (k i : Nat) (V : z_M), i + k = 6 → (∀ a, ¬ a = 115 → V a = U a) → (∀ r, r < i → V 115 r = 0) → z_Ex (z_MS d) 257 Q true 5 [some (.inr (.inr 115)), some (.inl 0), some (.inl (i : Int)), some (.inl 6)] [] 0 0 V
  | 0, i, V, e, h1, h2 => by
    have e2 : i = 6 := by omega
    subst e2
    exact zb257_115_p5 _ _ _ (z_ifn (by omega) (h V h1 h2))
  | k + 1, i, V, e, h1, h2 => by
    refine zb257_115_p5 _ _ _ (z_ifp (by omega) (z_gp (by omega) (z_all ?_)))
    rw [z_inc (by omega), Int.toNat_natCast]
    refine lp257 h k (i + 1) _ (by omega) (fun a ha => by rw [z_up_cell ha]; exact h1 a ha) (fun r hr => ?_)
    by_cases e3 : r = i
    · subst e3; exact zUp_s
    · rw [zUp_o (by omega)]; exact h2 r (by omega)
theorem sp257 {d : Nat} {Q : Int → z_M → Prop} {V : z_M} (h : ∀ W, (∀ a, ¬ a = 115 → W a = V a) → (∀ r, r < 6 → W 115 r = 0) → Q 0 W) : z_MS (d + 1) 257 true [.inr (.inr 115), .inl 0] V Q :=
  zb257_115 _ (lp257 h 6 0 V rfl (fun _ _ => rfl) (fun r hr => absurd hr (Nat.not_lt_zero r)))
theorem zIn_s {i k : Nat} {g : Nat → Bool} : zIn (i + 1) g k = (zIn i g k || (decide (k = i + 1) && !g i)) := by
  unfold zIn
  by_cases e : k = i + 1
  · subst e
    rw [show decide (i + 1 ≤ i) = false by simp, show decide (i + 1 ≤ i + 1) = true by simp, show decide (i + 1 = 0) = false by simp, show decide (i + 1 = i + 1) = true by simp, Nat.add_sub_cancel]
    simp
  · rw [show decide (k ≤ i + 1) = decide (k ≤ i) by simp; omega, show decide (k = i + 1) = false by simp [e]]
    simp
theorem zBS_two {i : Nat} (h : i < 29) : zBS (z_shl 2 (i : Int)) (fun k => decide (k = i + 1)) := by
  have h1 := z_shl_e (a := 2) (k := i) (by omega) (by have := Nat.pow_le_pow_right (n := 2) (by omega) (show i ≤ 28 by omega); omega)
  have h2 := zBS_pow (t := i + 1) (by omega)
  obtain ⟨e, _⟩ := z_shl1_s (t := ((i + 1 : Nat) : Int)) (by omega)
  rw [Int.toNat_natCast] at e
  have e3 : z_shl 2 (i : Int) = z_shl 1 ((i + 1 : Nat) : Int) := by
    rw [e]
    refine h1.trans ?_
    rw [Nat.pow_succ, Nat.mul_comm]
  rw [e3]
  exact h2
def zTH (ρ : Nat → Int) : Nat → Int := fun b => ρ (8 + 4 * b)
def zLE (ρ : Nat → Int) (π : Nat → Nat) : Nat → Int := zLv (zTH ρ) π
def zSR (ρ : Nat → Int) : Nat → Int := fun r => ρ (56 + 2 * r)
def zG0 (ρ : Nat → Int) (π : Nat → Nat) : Nat → Bool := fun t => !decide (ρ (11 + 4 * π t) = 0)
def zCR (ρ : Nat → Int) (Λ : Nat → (Nat → Int) → Int) (π : Nat → Nat) (r t : Nat) : Bool := zHold ρ Λ r (π t) (t : Int) (zLE ρ π (t + 1))
def zLay (V W : z_M) : Prop := ∀ a, ¬ a = 97 → ¬ a = 98 → ¬ a = 115 → W a = V a
theorem zLE_b {b0 : Nat} {V : z_M} {ρ : Nat → Int} {Λ : Nat → (Nat → Int) → Int} {π : Nat → Nat} {n : Nat} (hT : zT b0 ρ V Λ) (hn : ρ 0 = (n : Int)) (hπ : ∀ t, t < n → π t < n) {p : Nat} (hp : p ≤ n) : 0 ≤ zLE ρ π p ∧ zLE ρ π p ≤ 108 := by
  have h := zLv_b (th := zTH ρ) (π := π) (n := n) (fun t ht => by have := zT_t hT (t := π t) (by have := hπ t ht; omega); unfold zTH; omega) p hp
  have a0 := zT_0 hT
  unfold zLE
  omega
theorem lp48_6 {d : Nat} {Q : Int → z_M → Prop} {U : z_M} {ρ : Nat → Int} {Λ : Nat → (Nat → Int) → Int} {n : Nat} {π : Nat → Nat} (hT : zT 37 ρ U Λ) (hn : ρ 0 = (n : Int)) (hL : n ≤ 12) (hπ : ∀ t, t < n → U 6 t = (π t : Int) ∧ π t < n)
    (h : ∀ W, zLay U W → W 97 8 = U 97 8 → W 97 9 = U 97 9 → (∀ p, p ≤ n → W 98 p = zLE ρ π p) → zDY W n (fun _ => 0) (zG0 ρ π) → Q 0 W) (h8 : U 97 8 = (n : Int)) :
    ∀ (k i : Nat) (V : z_M) (o : Option z_V), i + k = n → zLay U V → V 97 8 = U 97 8 → V 97 9 = U 97 9 → (∀ p, p ≤ i → V 98 p = zLE ρ π p) → zBS (V 97 7) (zIn i (zG0 ρ π)) → z_Ex (z_MS (d + 2)) 48 Q true 35 [some (.inr (.inr 97)), some (.inr (.inr 37)), some (.inr (.inr 6)), some (.inl (i : Int)), o] [] 0 0 V
  | 0, i, V, o, e, g1, g2, g3, g4, g5 => by
    have e2 : i = n := by omega
    subst e2
    refine zb48_97_37_6_p35 _ _ (z_ifn (by omega) (sp257 (fun W w1 w2 => ?_)))
    refine h W (fun a a1 a2 a3 => by rw [w1 a a3]; exact g1 a a1 a2 a3) (by rw [w1 97 (by decide)]; exact g2) (by rw [w1 97 (by decide)]; exact g3) (fun p hp => by rw [w1 98 (by decide)]; exact g4 p hp) ⟨by rw [w1 97 (by decide)]; exact g5, fun r hr => ⟨w2 r hr, Nat.zero_le _⟩⟩
  | k + 1, i, V, o, e, g1, g2, g3, g4, g5 => by
    have a0 := zT_0 hT
    obtain ⟨p1, p2⟩ := hπ i (by omega)
    have pt := zT_t hT (t := π i) (by omega)
    refine zb48_97_37_6_p35 _ _ (z_ifp (by omega) (z_gp (by omega) (z_all ?_)))
    rw [Int.toNat_natCast, g1 6 (by decide) (by decide) (by decide), p1]
    have k37 : V 37 = U 37 := g1 37 (by decide) (by decide) (by decide)
    refine sp75 (by rw [k37]; omega) (fun _ => z_ifn (by decide) ?_) (fun hc => absurd (by rw [k37]; omega) hc)
    have b1 : U 39 (π i) = ρ (8 + 4 * π i) := pt.1
    have b2 : U 42 (π i) = ρ (11 + 4 * π i) := pt.2.2.2.1
    have lb := zLE_b hT hn (fun t ht => (hπ t ht).2) (p := i) (by omega)
    refine z_gp (by omega) (z_all (z_gp (by omega) (z_all ?_)))
    rw [z_inc (by omega)]
    simp only [Int.toNat_natCast]
    rw [g1 39 (by decide) (by decide) (by decide), b1, g4 i (Nat.le_refl i), z_add_e (by omega)]
    refine z_gp (by omega) (z_all (z_gp (by omega) (z_all (z_all ?_))))
    have c42 : ∀ v, z_up V 98 (i + 1) v 42 (π i) = ρ (11 + 4 * π i) := fun v => by rw [z_up_cell (by decide), g1 42 (by decide) (by decide) (by decide), b2]
    have c97 : ∀ v, z_up V 98 (i + 1) v 97 7 = V 97 7 := fun v => rfl
    rw [c42, c97]
    refine lp48_6 hT hn hL hπ h h8 k (i + 1) _ _ (by omega) (fun a a1 a2 a3 => by rw [z_up_cell a1, z_up_cell a2]; exact g1 a a1 a2 a3) ?_ ?_ (fun p hp => ?_) ?_
    · rw [zUp_o (by omega), z_up_cell (by decide)]; exact g2
    · rw [zUp_o (by omega), z_up_cell (by decide)]; exact g3
    · rw [z_up_cell (by decide)]
      by_cases ep : p = i + 1
      · subst ep
        rw [zUp_s]
        rfl
      · rw [zUp_o (by omega)]
        exact g4 p (by omega)
    · rw [zUp_s]
      by_cases ho : ρ (11 + 4 * π i) = 0
      · rw [if_pos ho]
        refine zBS_c (zBS_or g5 (zBS_two (by omega))) (fun q => ?_)
        rw [zIn_s]
        unfold zG0
        rw [ho]
        simp
      · rw [if_neg ho]
        refine zBS_c (zBS_or g5 zBS_0) (fun q => ?_)
        rw [zIn_s]
        unfold zG0
        simp [ho]
theorem sp48_6 {d : Nat} {Q : Int → z_M → Prop} {V : z_M} {ρ : Nat → Int} {Λ : Nat → (Nat → Int) → Int} {n R : Nat} {π : Nat → Nat} (hT : zT 37 ρ V Λ) (hn : ρ 0 = (n : Int)) (hR : ρ 1 = (R : Int)) (hL : n ≤ 12) (hπ : ∀ t, t < n → V 6 t = (π t : Int) ∧ π t < n)
    (h : ∀ W, zLay V W → W 97 8 = (n : Int) → W 97 9 = (R : Int) → (∀ p, p ≤ n → W 98 p = zLE ρ π p) → zDY W n (fun _ => 0) (zG0 ρ π) → Q 0 W) :
    z_MS (d + 3) 48 true [.inr (.inr 97), .inr (.inr 37), .inr (.inr 6)] V Q := by
  have a0 := zT_0 hT
  have a1 := zT_1 hT
  have m : z_min (V 37 7) 12 = (n : Int) := by unfold z_min; split <;> omega
  refine zb48_97_37_6 (z_all (z_all (z_all (z_all ?_))))
  rw [m]
  generalize hU : z_up _ 98 0 0 = U
  have u1 : zLay V U := by subst hU; intro a x y z; rw [z_up_cell y, z_up_cell x, z_up_cell x, z_up_cell x]
  have u8 : U 97 8 = (n : Int) := by subst hU; rfl
  have u9 : U 97 9 = (R : Int) := by subst hU; show V 37 8 = _; omega
  have u7 : U 97 7 = 1 := by subst hU; rfl
  have u0 : U 98 0 = 0 := by subst hU; rfl
  clear hU
  have hTU : zT 37 ρ U Λ := zT_c hT (u1 0 (by decide) (by decide) (by decide)) (fun a x y => u1 a (by omega) (by omega) (by omega)) (fun a x => u1 a (by omega) (by omega) (by omega))
  refine lp48_6 hTU hn hL (fun t ht => by rw [u1 6 (by decide) (by decide) (by decide)]; exact hπ t ht) (fun W w1 w2 w3 w4 w5 => h W (fun a x y z => (w1 a x y z).trans (u1 a x y z)) (w2.trans u8) (w3.trans u9) w4 w5) u8 n 0 U none (by omega) (fun _ _ _ _ => rfl) rfl rfl (fun p hp => ?_) ?_
  · have : p = 0 := by omega
    subst this
    exact u0
  · rw [u7]
    refine zBS_c zBS_1 (fun k => ?_)
    unfold zIn
    by_cases e : k = 0
    · simp [e]
    · have : ¬ k ≤ 0 := by omega
      simp [e]
theorem lp48_132 {d : Nat} {Q : Int → z_M → Prop} {U : z_M} {ρ : Nat → Int} {Λ : Nat → (Nat → Int) → Int} {n : Nat} {π : Nat → Nat} (hT : zT 37 ρ U Λ) (hn : ρ 0 = (n : Int)) (hL : n ≤ 6) (hπ : ∀ t, t < n → U 132 t = (π t : Int) ∧ π t < n)
    (h : ∀ W, zLay U W → W 97 8 = U 97 8 → W 97 9 = U 97 9 → (∀ p, p ≤ n → W 98 p = zLE ρ π p) → zDY W n (fun _ => 0) (zG0 ρ π) → Q 0 W) (h8 : U 97 8 = (n : Int)) :
    ∀ (k i : Nat) (V : z_M) (o : Option z_V), i + k = n → zLay U V → V 97 8 = U 97 8 → V 97 9 = U 97 9 → (∀ p, p ≤ i → V 98 p = zLE ρ π p) → zBS (V 97 7) (zIn i (zG0 ρ π)) → z_Ex (z_MS (d + 2)) 48 Q true 35 [some (.inr (.inr 97)), some (.inr (.inr 37)), some (.inr (.inr 132)), some (.inl (i : Int)), o] [] 0 0 V
  | 0, i, V, o, e, g1, g2, g3, g4, g5 => by
    have e2 : i = n := by omega
    subst e2
    refine zb48_97_37_132_p35 _ _ (z_ifn (by omega) (sp257 (fun W w1 w2 => ?_)))
    refine h W (fun a a1 a2 a3 => by rw [w1 a a3]; exact g1 a a1 a2 a3) (by rw [w1 97 (by decide)]; exact g2) (by rw [w1 97 (by decide)]; exact g3) (fun p hp => by rw [w1 98 (by decide)]; exact g4 p hp) ⟨by rw [w1 97 (by decide)]; exact g5, fun r hr => ⟨w2 r hr, Nat.zero_le _⟩⟩
  | k + 1, i, V, o, e, g1, g2, g3, g4, g5 => by
    have a0 := zT_0 hT
    obtain ⟨p1, p2⟩ := hπ i (by omega)
    have pt := zT_t hT (t := π i) (by omega)
    refine zb48_97_37_132_p35 _ _ (z_ifp (by omega) (z_gp (by omega) (z_all ?_)))
    rw [Int.toNat_natCast, g1 132 (by decide) (by decide) (by decide), p1]
    have k37 : V 37 = U 37 := g1 37 (by decide) (by decide) (by decide)
    refine sp75 (by rw [k37]; omega) (fun _ => z_ifn (by decide) ?_) (fun hc => absurd (by rw [k37]; omega) hc)
    have b1 : U 39 (π i) = ρ (8 + 4 * π i) := pt.1
    have b2 : U 42 (π i) = ρ (11 + 4 * π i) := pt.2.2.2.1
    have lb := zLE_b hT hn (fun t ht => (hπ t ht).2) (p := i) (by omega)
    refine z_gp (by omega) (z_all (z_gp (by omega) (z_all ?_)))
    rw [z_inc (by omega)]
    simp only [Int.toNat_natCast]
    rw [g1 39 (by decide) (by decide) (by decide), b1, g4 i (Nat.le_refl i), z_add_e (by omega)]
    refine z_gp (by omega) (z_all (z_gp (by omega) (z_all (z_all ?_))))
    have c42 : ∀ v, z_up V 98 (i + 1) v 42 (π i) = ρ (11 + 4 * π i) := fun v => by rw [z_up_cell (by decide), g1 42 (by decide) (by decide) (by decide), b2]
    have c97 : ∀ v, z_up V 98 (i + 1) v 97 7 = V 97 7 := fun v => rfl
    rw [c42, c97]
    refine lp48_132 hT hn hL hπ h h8 k (i + 1) _ _ (by omega) (fun a a1 a2 a3 => by rw [z_up_cell a1, z_up_cell a2]; exact g1 a a1 a2 a3) ?_ ?_ (fun p hp => ?_) ?_
    · rw [zUp_o (by omega), z_up_cell (by decide)]; exact g2
    · rw [zUp_o (by omega), z_up_cell (by decide)]; exact g3
    · rw [z_up_cell (by decide)]
      by_cases ep : p = i + 1
      · subst ep
        rw [zUp_s]
        rfl
      · rw [zUp_o (by omega)]
        exact g4 p (by omega)
    · rw [zUp_s]
      by_cases ho : ρ (11 + 4 * π i) = 0
      · rw [if_pos ho]
        refine zBS_c (zBS_or g5 (zBS_two (by omega))) (fun q => ?_)
        rw [zIn_s]
        unfold zG0
        rw [ho]
        simp
      · rw [if_neg ho]
        refine zBS_c (zBS_or g5 zBS_0) (fun q => ?_)
        rw [zIn_s]
        unfold zG0
        simp [ho]
theorem sp48_132 {d : Nat} {Q : Int → z_M → Prop} {V : z_M} {ρ : Nat → Int} {Λ : Nat → (Nat → Int) → Int} {n R : Nat} {π : Nat → Nat} (hT : zT 37 ρ V Λ) (hn : ρ 0 = (n : Int)) (hR : ρ 1 = (R : Int)) (hL : n ≤ 6) (hπ : ∀ t, t < n → V 132 t = (π t : Int) ∧ π t < n)
    (h : ∀ W, zLay V W → W 97 8 = (n : Int) → W 97 9 = (R : Int) → (∀ p, p ≤ n → W 98 p = zLE ρ π p) → zDY W n (fun _ => 0) (zG0 ρ π) → Q 0 W) :
    z_MS (d + 3) 48 true [.inr (.inr 97), .inr (.inr 37), .inr (.inr 132)] V Q := by
  have a0 := zT_0 hT
  have a1 := zT_1 hT
  have m : z_min (V 37 7) 6 = (n : Int) := by unfold z_min; split <;> omega
  refine zb48_97_37_132 (z_all (z_all (z_all (z_all ?_))))
  rw [m]
  generalize hU : z_up _ 98 0 0 = U
  have u1 : zLay V U := by subst hU; intro a x y z; rw [z_up_cell y, z_up_cell x, z_up_cell x, z_up_cell x]
  have u8 : U 97 8 = (n : Int) := by subst hU; rfl
  have u9 : U 97 9 = (R : Int) := by subst hU; show V 37 8 = _; omega
  have u7 : U 97 7 = 1 := by subst hU; rfl
  have u0 : U 98 0 = 0 := by subst hU; rfl
  clear hU
  have hTU : zT 37 ρ U Λ := zT_c hT (u1 0 (by decide) (by decide) (by decide)) (fun a x y => u1 a (by omega) (by omega) (by omega)) (fun a x => u1 a (by omega) (by omega) (by omega))
  refine lp48_132 hTU hn hL (fun t ht => by rw [u1 132 (by decide) (by decide) (by decide)]; exact hπ t ht) (fun W w1 w2 w3 w4 w5 => h W (fun a x y z => (w1 a x y z).trans (u1 a x y z)) (w2.trans u8) (w3.trans u9) w4 w5) u8 n 0 U none (by omega) (fun _ _ _ _ => rfl) rfl rfl (fun p hp => ?_) ?_
  · have : p = 0 := by omega
    subst this
    exact u0
  · rw [u7]
    refine zBS_c zBS_1 (fun k => ?_)
    unfold zIn
    by_cases e : k = 0
    · simp [e]
    · have : ¬ k ≤ 0 := by omega
      simp [e]
