/-! built: the class -/
def zTs (th : Nat → Int) (f : Nat → Bool) : Nat → Int
  | 0 => 0
  | b + 1 => zTs th f b + (if f b = true then th b else 0)
theorem zTs_b {th : Nat → Int} {f : Nat → Bool} {n : Nat} (h : ∀ b, b < n → 1 ≤ th b ∧ th b ≤ 9) : ∀ i, i ≤ n → 0 ≤ zTs th f i ∧ zTs th f i ≤ 9 * i
  | 0, _ => ⟨Int.le_refl 0, Int.le_refl 0⟩
  | i + 1, hi => by
    have h1 := zTs_b (f := f) h i (by omega)
    have h2 := h i (by omega)
    unfold zTs
    split <;> omega
theorem zTs_c {th : Nat → Int} {f g : Nat → Bool} : ∀ {n : Nat}, (∀ b, b < n → f b = g b) → zTs th f n = zTs th g n
  | 0, _ => rfl
  | n + 1, h => by
    unfold zTs
    rw [zTs_c (fun b hb => h b (by omega)), h n (by omega)]
theorem zTs_a {th : Nat → Int} {f : Nat → Bool} {a : Nat} (hf : f a = false) : ∀ {n : Nat}, zTs th (fun k => f k || decide (a = k)) n = zTs th f n + (if a < n then th a else 0)
  | 0 => rfl
  | n + 1 => by
    unfold zTs
    rw [zTs_a hf]
    by_cases e : a = n
    · subst e
      have h1 : ¬ a < a := by omega
      have h2 : a < a + 1 := by omega
      simp [hf, h1, h2]
    · have h0 : (f n || decide (a = n)) = f n := by simp [e]
      rw [h0]
      by_cases h1 : a < n
      · rw [if_pos h1, if_pos (show a < n + 1 by omega)]
        omega
      · rw [if_neg h1, if_neg (show ¬ a < n + 1 by omega)]
        omega
theorem zCt_a {f : Nat → Bool} {a : Nat} (hf : f a = false) : ∀ {n : Nat}, zCt n (fun k => f k || decide (a = k)) = zCt n f + (if a < n then 1 else 0)
  | 0 => rfl
  | n + 1 => by
    unfold zCt
    rw [zCt_a hf]
    dsimp only
    by_cases e : a = n
    · subst e
      have h1 : ¬ a < a := by omega
      have h2 : a < a + 1 := by omega
      simp [hf, h1, h2]
    · have h0 : (f n || decide (a = n)) = f n := by simp [e]
      simp only [h0]
      by_cases h1 : a < n
      · rw [if_pos h1, if_pos (show a < n + 1 by omega)]
        omega
      · rw [if_neg h1, if_neg (show ¬ a < n + 1 by omega)]
        omega
/-- the books below the place t -/
def zBw (π : Nat → Nat) (t k : Nat) : Bool := zAny t (fun i => decide (π i = k))
theorem zBw_s {π : Nat → Nat} {t k : Nat} : zBw π (t + 1) k = (zBw π t k || decide (π t = k)) := rfl
theorem zBw_f {π σ : Nat → Nat} {n t : Nat} (hp : zPm2 n π σ) (ht : t < n) : zBw π t (π t) = false := by
  unfold zBw
  rw [zAny_f]
  intro i hi
  have h1 := (hp i (by omega)).2.2.1
  have h2 := (hp t ht).2.2.1
  simp
  intro e
  rw [e, h2] at h1
  omega
theorem zBw_c {π σ : Nat → Nat} {n : Nat} (hn : n ≤ 12) (hp : zPm2 n π σ) : ∀ t, t ≤ n → zCt 12 (zBw π t) = t
  | 0, _ => by
    have : ∀ m, zCt m (zBw π 0) = 0 := by
      intro m
      induction m with
      | zero => rfl
      | succ m ih => unfold zCt; rw [ih]; rfl
    exact this 12
  | t + 1, ht => by
    have h1 := zBw_c hn hp t (by omega)
    have h2 := zCt_a (n := 12) (zBw_f hp (t := t) (by omega))
    have h3 : zCt 12 (zBw π (t + 1)) = zCt 12 (fun k => zBw π t k || decide (π t = k)) := rfl
    rw [h3, h2, h1, if_pos (by have := (hp t (by omega)).1; omega)]
theorem zBw_t {π σ : Nat → Nat} {th : Nat → Int} {n : Nat} (hp : zPm2 n π σ) : ∀ t, t ≤ n → zTs th (zBw π t) n = zLv th π t
  | 0, _ => by
    have : ∀ m, zTs th (zBw π 0) m = 0 := by
      intro m
      induction m with
      | zero => rfl
      | succ m ih => unfold zTs; rw [ih]; rfl
    exact this n
  | t + 1, ht => by
    have h1 := zBw_t (th := th) hp t (by omega)
    have h2 := zTs_a (th := th) (n := n) (zBw_f hp (t := t) (by omega))
    have h3 : zTs th (zBw π (t + 1)) n = zTs th (fun k => zBw π t k || decide (π t = k)) n := rfl
    rw [h3, h2, h1, if_pos (hp t (by omega)).1]
    rfl
section
variable {d : Nat} {Q : Int → z_M → Prop}
def zJa (V W : z_M) : Prop := ∀ a, (a < 94 ∨ 96 < a) → (a < 126 ∨ 131 < a) → W a = V a
theorem zJa_r {V : z_M} : zJa V V := fun _ _ _ => rfl
theorem zJa_t {U V W : z_M} (h : zJa U V) (h2 : zJa V W) : zJa U W := fun a x y => (h2 a x y).trans (h a x y)
/-- who would carry whom, book upon books -/
def zHb (ρ : Nat → Int) (Λ : Nat → (Nat → Int) → Int) (n b c r : Nat) : Bool := zHold ρ Λ r b (zCn12 c : Int) (zTs (zTH ρ) (fun k => c.testBit k) n + zTH ρ b)
theorem lp3r {U : z_M} {ρ : Nat → Int} {Λ : Nat → (Nat → Int) → Int} {n R b c : Nat} (hT : zT 37 ρ U Λ) (hn : ρ 0 = (n : Int)) (hR : ρ 1 = (R : Int)) (hn6 : n ≤ 6) (hb : b < n) (hc : c < 64)
    (h : ∀ W z, zOff 94 96 U W → (c.testBit b = false → zBS z (fun r => decide (r < R) && zHb ρ Λ n b c r)) → ∀ o7 o8 : Option z_V, z_Ex (z_MS (d + 5)) 3 Q true 125 [some (.inr (.inr 122)), some (.inr (.inr 37)), some (.inr (.inr 94)), some (.inl (c : Int)), some (.inl (zTs (zTH ρ) (fun k => c.testBit k) n)), some (.inl (b : Int)), some (.inl z), o7, o8] [] 0 0 W) :
    ∀ (k i : Nat) (V : z_M) (z : Int), i + k = R → zOff 94 96 U V → zBS z (fun r => decide (r < i) && zHb ρ Λ n b c r) → z_Ex (z_MS (d + 5)) 3 Q true 74 [some (.inr (.inr 122)), some (.inr (.inr 37)), some (.inr (.inr 94)), some (.inl (c : Int)), some (.inl (zTs (zTH ρ) (fun k => c.testBit k) n)), some (.inl (b : Int)), some (.inl z), some (.inl (zTs (zTH ρ) (fun k => c.testBit k) n + zTH ρ b)), some (.inl (i : Int))] [] 0 0 V
  | 0, i, V, z, e, hV, hz => by
    have e2 : i = R := by omega
    subst e2
    have a1 := zT_1 hT
    exact zb3_122_37_94_p74 _ _ _ _ _ _ (z_ifn (by rw [hV 37 (by omega)]; omega) (h V z hV (fun _ => hz) _ _))
  | k + 1, i, V, z, e, hV, hz => by
    have a1 := zT_1 hT
    have a0 := zT_0 hT
    refine zb3_122_37_94_p74 _ _ _ _ _ _ (z_ifp (by rw [hV 37 (by omega)]; omega) ?_)
    rw [zBS_bit (zBS_nat (by omega)) (by omega), z_inc (by omega)]
    cases hbt : c.testBit b with
    | true => exact z_ifn (by decide) (h V z hV (fun q => absurd (hbt.symm.trans q) (by decide)) _ _)
    | false =>
      refine z_ifp rfl (sp256 (d := d + 4) ?_)
      rw [zBc_e (by omega)]
      have hcn := zCn_le (s := c)
      have hts := zTs_b (th := zTH ρ) (f := fun k => c.testBit k) (n := n) (fun b hb => by have := zT_t hT (t := b) (by omega); unfold zTH; omega) n (Nat.le_refl n)
      have hth := zT_t hT (t := b) (by omega)
      have hth2 : zTH ρ b = ρ (8 + 4 * b) := rfl
      refine sp16 (d := d + 1) (zT_off hT hV (by decide) (by decide) (by decide)) (by omega) (by omega) (by omega) (by omega) (fun W w1 => ?_)
      cases hh : zHold ρ Λ i b (zCn12 c : Int) (zTs (zTH ρ) (fun k => c.testBit k) n + zTH ρ b) with
      | true =>
        exact z_ifn (by decide) (lp3r hT hn hR hn6 hb hc h k (i + 1) W _ (by omega) (zOff_t hV w1) (zBS_ex1 hz hh (by omega)))
      | false =>
        exact z_ifp rfl (lp3r hT hn hR hn6 hb hc h k (i + 1) W _ (by omega) (zOff_t hV w1) (zBS_ex0 hz hh))
theorem lp3b {U : z_M} {ρ : Nat → Int} {Λ : Nat → (Nat → Int) → Int} {n R c : Nat} (hT : zT 37 ρ U Λ) (hn : ρ 0 = (n : Int)) (hR : ρ 1 = (R : Int)) (hn6 : n ≤ 6) (hc : c < 64)
    (h : ∀ W, zJa U W → (∀ b x, b < n → ¬ x = c → W (126 + b) x = U (126 + b) x) → (∀ b, b < n → c.testBit b = false → zBS (W (126 + b) c) (fun r => decide (r < R) && zHb ρ Λ n b c r)) → Q 0 W) :
    ∀ (k i : Nat) (V : z_M) (o6 o7 o8 : Option z_V), i + k = n → zJa U V → (∀ b x, b < n → ¬ x = c → V (126 + b) x = U (126 + b) x) → (∀ b, b < i → c.testBit b = false → zBS (V (126 + b) c) (fun r => decide (r < R) && zHb ρ Λ n b c r)) → z_Ex (z_MS (d + 5)) 3 Q true 45 [some (.inr (.inr 122)), some (.inr (.inr 37)), some (.inr (.inr 94)), some (.inl (c : Int)), some (.inl (zTs (zTH ρ) (fun k => c.testBit k) n)), some (.inl (i : Int)), o6, o7, o8] [] 0 0 V
  | 0, i, V, o6, o7, o8, e, hV, h1, h2 => by
    have e2 : i = n := by omega
    subst e2
    have a0 := zT_0 hT
    exact zb3_122_37_94_p45 _ _ _ _ _ _ (z_ifn (by rw [hV 37 (by omega) (by omega)]; omega) (h V hV h1 h2))
  | k + 1, i, V, o6, o7, o8, e, hV, h1, h2 => by
    have a0 := zT_0 hT
    have pt := zT_t hT (t := i) (by omega)
    have hts := zTs_b (th := zTH ρ) (f := fun k => c.testBit k) (n := n) (fun b hb => by have := zT_t hT (t := b) (by omega); unfold zTH; omega) n (Nat.le_refl n)
    have hTV : zT 37 ρ V Λ := zT_c hT (hV 0 (by omega) (by omega)) (fun a x y => hV a (by omega) (by omega)) (fun a x => hV a (by omega) (by omega))
    have h39 : V 39 i = zTH ρ i := by rw [hV 39 (by omega) (by omega)]; exact pt.1
    have hth2 : zTH ρ i = ρ (8 + 4 * i) := rfl
    refine zb3_122_37_94_p45 _ _ _ _ _ _ (z_ifp (by rw [hV 37 (by omega) (by omega)]; omega) (z_gp (by omega) (z_all ?_)))
    rw [Int.toNat_natCast, h39, z_add_e (by omega)]
    refine lp3r hTV hn hR hn6 (by omega) hc (fun W z w1 w2 p7 p8 => ?_) R 0 V 0 (by omega) zOff_r zBS_e0
    refine zb3_122_37_94_p125 _ _ _ _ _ _ (z_gp (by omega) (z_all ?_))
    rw [Int.toNat_natCast, zr125 (by omega), (zk125 (V := W) (r := i) (by omega)).2.2, z_inc (by omega)]
    refine z_gp ⟨(zk125 (V := W) (r := i) (by omega)).1, (zk125 (V := W) (r := i) (by omega)).2.1⟩ (z_gp (by omega) (z_all ?_))
    rw [Int.toNat_natCast]
    refine lp3b hT hn hR hn6 hc h k (i + 1) _ _ _ _ (by omega) (fun a x y => by rw [z_up_cell (by omega), w1 a x]; exact hV a x y) (fun b x hb hx => ?_) (fun b hb hbt => ?_)
    · rw [zUp_o (by omega), w1 (126 + b) (by omega)]; exact h1 b x hb hx
    · by_cases eb : b = i
      · subst eb; rw [zUp_s]; exact w2 hbt
      · rw [zUp_o (by omega), w1 (126 + b) (by omega)]; exact h2 b (by omega) hbt
theorem lp3l {V : z_M} {ρ : Nat → Int} {Λ : Nat → (Nat → Int) → Int} {n c : Nat} (hT : zT 37 ρ V Λ) (hn : ρ 0 = (n : Int)) (hc : c < 64)
    (h : z_Ex (z_MS d) 3 Q true 45 [some (.inr (.inr 122)), some (.inr (.inr 37)), some (.inr (.inr 94)), some (.inl (c : Int)), some (.inl (zTs (zTH ρ) (fun k => c.testBit k) n)), some (.inl 0), none, none, none] [] 0 0 V) :
    ∀ (k i : Nat), i + k = n → z_Ex (z_MS d) 3 Q true 6 [some (.inr (.inr 122)), some (.inr (.inr 37)), some (.inr (.inr 94)), some (.inl (c : Int)), some (.inl (zTs (zTH ρ) (fun k => c.testBit k) i)), some (.inl (i : Int)), none, none, none] [] 0 0 V
  | 0, i, e => by
    have e2 : i = n := by omega
    subst e2
    have a0 := zT_0 hT
    exact zb3_122_37_94_p6 _ _ _ (z_ifn (by omega) h)
  | k + 1, i, e => by
    have a0 := zT_0 hT
    have pt := zT_t hT (t := i) (by omega)
    have hts := zTs_b (th := zTH ρ) (f := fun k => c.testBit k) (n := n) (fun b hb => by have := zT_t hT (t := b) (by omega); unfold zTH; omega) i (by omega)
    have h39 : V 39 i = zTH ρ i := pt.1
    have hth2 : zTH ρ i = ρ (8 + 4 * i) := rfl
    refine zb3_122_37_94_p6 _ _ _ (z_ifp (by omega) (z_gp (by omega) (z_all ?_)))
    rw [Int.toNat_natCast, h39, zBS_bit (zBS_nat (by omega)) (by omega), z_inc (by omega)]
    have := lp3l hT hn hc h k (i + 1) (by omega)
    unfold zTs at this
    cases hb : c.testBit i with
    | true =>
      rw [hb, if_pos rfl] at this
      rw [if_pos rfl, z_mul_e (by omega), Int.one_mul, z_add_e (by omega)]
      exact this
    | false =>
      rw [hb, if_neg (by decide)] at this
      rw [if_neg (by decide), z_mul_e (by omega), Int.zero_mul, z_add_e (by omega)]
      exact this
theorem sp3 {V : z_M} {ρ : Nat → Int} {Λ : Nat → (Nat → Int) → Int} {n R c : Nat} (hT : zT 37 ρ V Λ) (hn : ρ 0 = (n : Int)) (hR : ρ 1 = (R : Int)) (hn6 : n ≤ 6) (hc : c < 64)
    (h : ∀ W, zJa V W → (∀ b x, b < n → ¬ x = c → W (126 + b) x = V (126 + b) x) → (∀ b, b < n → c.testBit b = false → zBS (W (126 + b) c) (fun r => decide (r < R) && zHb ρ Λ n b c r)) → Q 0 W) :
    z_MS (d + 6) 3 true [.inr (.inr 122), .inr (.inr 37), .inr (.inr 94), .inl (c : Int)] V Q :=
  zb3_122_37_94 _ (lp3l hT hn hc (lp3b hT hn hR hn6 hc h n 0 V _ _ _ (by omega) zJa_r (fun _ _ _ _ => rfl) (fun b hb => absurd hb (Nat.not_lt_zero b))) n 0 (by omega))
theorem z_shl_0 {t : Nat} (h : t < 32) : z_shl 0 (t : Int) = 0 := by
  have := z_shl_e (a := 0) (k := t) h (by omega)
  rw [Nat.zero_mul] at this
  exact this
/-- all that is carried -/
def zCD (V : z_M) (ρ : Nat → Int) (Λ : Nat → (Nat → Int) → Int) (n R lim : Nat) : Prop := ∀ b c, b < n → c < lim → c.testBit b = false → zBS (V (126 + b) c) (fun r => decide (r < R) && zHb ρ Λ n b c r)
theorem lpj6 {V : z_M} {ρ : Nat → Int} {Λ : Nat → (Nat → Int) → Int} {n R r : Nat} {π σ : Nat → Nat} (hn6 : n ≤ 6) (hr : r < R) (hR6 : R ≤ 6) (hp : zPm2 n π σ) (hrow : ∀ i, i < n → V 132 i = (π i : Int)) (hC : zCD V ρ Λ n R (2 ^ n))
    (h : ∀ z, zBS z (fun t => decide (t < n) && zCR ρ Λ π r t) → Q z V) :
    ∀ (k i : Nat) (z bl : Int), i + k = n → zBS z (fun t => decide (t < i) && zCR ρ Λ π r t) → zBS bl (zBw π i) → z_Ex (z_MS d) 6 Q true 8 [some (.inr (.inr 122)), some (.inl (r : Int)), some (.inl (n : Int)), some (.inl z), some (.inl bl), some (.inl (i : Int))] [] 0 0 V
  | 0, i, z, bl, e, hz, hb => by
    have e2 : i = n := by omega
    subst e2
    exact zb6_122_p8 _ _ _ _ _ (z_ifn (by omega) (h z hz))
  | k + 1, i, z, bl, e, hz, hb => by
    obtain ⟨p1, p2, p3, p4⟩ := hp i (by omega)
    have hbf := zBw_f hp (t := i) (by omega)
    have hblt := zBS_lt n hb (fun j hj => by
      unfold zBw
      rw [zAny_f]
      intro q hq
      have := (hp q (by omega)).1
      simp
      omega)
    obtain ⟨c, hcz, hc2, hc3⟩ := zBS_n hb
    subst hcz
    have hpw : (2 : Int) ^ n = ((2 ^ n : Nat) : Int) := by simp
    have hpn : 2 ^ n ≤ 64 := Nat.pow_le_pow_right (n := 2) (by omega) (show n ≤ 6 by omega)
    have hbit : ∀ k, c.testBit k = zBw π i k := fun k => by
      have := hb.2.2 k
      unfold zB at this
      rw [Int.toNat_natCast] at this
      exact this
    refine zb6_122_p8 _ _ _ _ _ (z_ifp (by omega) (z_ifp (by omega) (z_gp (by omega) (z_all ?_))))
    rw [Int.toNat_natCast, hrow i (by omega)]
    refine z_gp (by omega) (z_all ?_)
    rw [Int.toNat_natCast, zr125 (by omega), (zk125 (V := V) (r := π i) (by omega)).2.2, z_inc (by omega)]
    refine z_gp (zk125 (V := V) (r := π i) (by omega)).1 (z_gp (by omega) (z_all (z_gp (by omega) (z_all ?_))))
    rw [Int.toNat_natCast]
    have hcd := hC (π i) c p1 (by omega) (by rw [hbit]; exact hbf)
    rw [zBS_bit hcd (by omega), show (decide (r < R) && zHb ρ Λ n (π i) c r) = zHb ρ Λ n (π i) c r by simp [hr]]
    have hcr : zHb ρ Λ n (π i) c r = zCR ρ Λ π r i := by
      unfold zHb zCR
      rw [hc3, zBw_c (by omega) hp i (by omega), zTs_c (g := zBw π i) (fun b _ => hbit b), zBw_t hp i (by omega)]
      rfl
    rw [hcr]
    have hb2 : zBS (z_or (c : Int) (z_shl 1 (π i : Int))) (zBw π (i + 1)) := zBS_c (zBS_or hb (zBS_pow (by omega))) (fun k => by rw [zBw_s]; by_cases e : k = π i <;> simp [e, eq_comm])
    cases hh : zCR ρ Λ π r i with
    | true =>
      rw [if_pos rfl]
      exact lpj6 hn6 hr hR6 hp hrow hC h k (i + 1) _ _ (by omega) (zBS_ex1 hz hh (by omega)) hb2
    | false =>
      rw [if_neg (by decide), z_shl_0 (by omega)]
      exact lpj6 hn6 hr hR6 hp hrow hC h k (i + 1) _ _ (by omega) (zBS_ex0 (zBS_c (zBS_or hz zBS_0) (fun k => Bool.or_false _)) hh) hb2
theorem sp6 {V : z_M} {ρ : Nat → Int} {Λ : Nat → (Nat → Int) → Int} {n R r : Nat} {π σ : Nat → Nat} (hn6 : n ≤ 6) (hr : r < R) (hR6 : R ≤ 6) (hp : zPm2 n π σ) (hrow : ∀ i, i < n → V 132 i = (π i : Int)) (hC : zCD V ρ Λ n R (2 ^ n))
    (h : ∀ z, zBS z (fun t => decide (t < n) && zCR ρ Λ π r t) → Q z V) : z_MS (d + 1) 6 true [.inr (.inr 122), .inl (r : Int), .inl (n : Int)] V Q :=
  zb6_122 _ _ (lpj6 hn6 hr hR6 hp hrow hC h n 0 0 0 (by omega) zBS_e0 (zBS_c zBS_0 (fun k => rfl)))
def zAs (ρ : Nat → Int) (m r : Nat) : Bool := zAny m (fun a => decide (zRq ρ a = r))
theorem lp86 {V : z_M} {ρ : Nat → Int} {Λ : Nat → (Nat → Int) → Int} {m : Nat} (hT : zT 37 ρ V Λ) (hm : ρ 4 = (m : Int)) (h : ∀ z, zBS z (zAs ρ m) → Q z V) :
    ∀ (k i : Nat) (z : Int), i + k = m → zBS z (zAs ρ i) → z_Ex (z_MS d) 86 Q true 4 [some (.inr (.inr 37)), some (.inl z), some (.inl (i : Int))] [] 0 0 V
  | 0, i, z, e, hz => by
    have e2 : i = m := by omega
    subst e2
    have a4 := zT_4 hT
    exact zb86_37_p4 _ _ (z_ifn (by omega) (h z hz))
  | k + 1, i, z, e, hz => by
    have a4 := zT_4 hT
    have a1 := zT_1 hT
    have aa := zT_a hT (a := i) (by omega)
    have hrq : V 49 i = (zRq ρ i : Int) := by unfold zRq; have : V 49 i = ρ (68 + 2 * i) := aa.1; omega
    refine zb86_37_p4 _ _ (z_ifp (by omega) (z_gp (by omega) (z_all ?_)))
    rw [Int.toNat_natCast, hrq, z_inc (by omega)]
    refine lp86 hT hm h k (i + 1) _ (by omega) (zBS_c (zBS_or hz (zBS_pow (by unfold zRq; omega))) (fun k => ?_))
    show (zAs ρ i k || decide (k = zRq ρ i)) = (zAs ρ i k || decide (zRq ρ i = k))
    by_cases e : k = zRq ρ i <;> simp [e, eq_comm]
theorem sp86 {V : z_M} {ρ : Nat → Int} {Λ : Nat → (Nat → Int) → Int} {m : Nat} (hT : zT 37 ρ V Λ) (hm : ρ 4 = (m : Int)) (h : ∀ z, zBS z (zAs ρ m) → Q z V) : z_MS (d + 1) 86 true [.inr (.inr 37)] V Q :=
  zb86_37 (lp86 hT hm h m 0 0 (by omega) (zBS_c zBS_0 (fun k => rfl)))
end
