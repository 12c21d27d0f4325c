/-! the class's scene: steps are measured, treads looked at -/
theorem zAd_1 {n : Nat} {lev : Nat → Int} {up dn : Int} {q p : Nat} (h : p = q) : zAd n lev up dn q p = false := by unfold zAd; simp [h]
theorem zAd_2 {n : Nat} {lev : Nat → Int} {up dn : Int} {q p : Nat} (h : up < lev p - lev q) : zAd n lev up dn q p = false := by
  unfold zAd
  rw [show decide (lev p - lev q ≤ up) = false by simp; omega]
  simp
theorem zAd_3 {n : Nat} {lev : Nat → Int} {up dn : Int} {q p : Nat} (h : dn < lev q - lev p) : zAd n lev up dn q p = false := by
  unfold zAd
  rw [show decide (lev q - lev p ≤ dn) = false by simp; omega]
  simp
theorem zAd_t {n : Nat} {lev : Nat → Int} {up dn : Int} {q p : Nat} (h0 : p ≤ n) (h1 : ¬ p = q) (h2 : lev p - lev q ≤ up) (h3 : lev q - lev p ≤ dn) : zAd n lev up dn q p = true := by
  unfold zAd
  simp [h0, h1, h2, h3]
theorem zGr_1 {n : Nat} {lev : Nat → Int} {up : Int} {q p : Nat} (h : p = q) : zGr n lev up q p = false := by unfold zGr; simp [h]
theorem zGr_2 {n : Nat} {lev : Nat → Int} {up : Int} {q p : Nat} (h : up < lev p - lev q ∨ up < lev q - lev p) : zGr n lev up q p = false := by
  unfold zGr
  rcases h with h | h
  · rw [show decide (lev p - lev q ≤ up) = false by simp; omega]
    simp
  · rw [show decide (lev q - lev p ≤ up) = false by simp; omega]
    simp
theorem zGr_t {n : Nat} {lev : Nat → Int} {up : Int} {q p : Nat} (h0 : p ≤ n) (h1 : ¬ p = q) (h2 : lev p - lev q ≤ up) (h3 : lev q - lev p ≤ up) : zGr n lev up q p = true := by
  unfold zGr
  simp [h0, h1, h2, h3]
theorem zBS_all {z : Int} {n : Nat} {F : Nat → Bool} (h : zBS z (fun p => decide (p < n + 1) && F p)) (hf : ∀ p, n < p → F p = false) : zBS z F :=
  zBS_c h (fun k => by
    by_cases e : k < n + 1
    · simp [e]
    · rw [hf k (by omega), Bool.and_false])
section
variable {d : Nat} {Q : Int → z_M → Prop}
theorem lp50j {V : z_M} {r n pl j : Nat} {lev : Nat → Int} {up dn s7 s8 : Int} {o1 o3 : Option z_V} (hup : 0 ≤ up) (hj : j ≤ n) (hn : n ≤ 12) (hl : ∀ p, p ≤ n → 0 ≤ lev p ∧ lev p ≤ 108) (hp : pl ≤ n) (h8 : zBS s8 (fun p => decide (p < j) && zGr n lev up pl p))
    (h : ∀ z, zBS z (fun p => decide (p < j + 1) && zGr n lev up pl p) → z_Ex (z_MS d) 50 Q true 62 [some (.inr (.inr 97)), o1, some (.inl (r : Int)), o3, some (.inl up), some (.inl dn), some (.inl (pl : Int)), some (.inl s7), some (.inl z), some (.inl ((j + 1 : Nat) : Int)), some (.inl (lev j - lev pl))] [] 0 0 V) :
    z_Ex (z_MS d) 50 Q true 119 [some (.inr (.inr 97)), o1, some (.inl (r : Int)), o3, some (.inl up), some (.inl dn), some (.inl (pl : Int)), some (.inl s7), some (.inl s8), some (.inl (j : Int)), some (.inl (lev j - lev pl))] [] 0 0 V := by
  have l1 := hl j hj
  have l2 := hl pl hp
  refine zb50_97_37_p119 _ _ _ _ _ _ _ _ _ _ ?_
  rw [z_inc (by omega), z_abs_e (by omega)]
  refine z_ifc (fun e => h _ (zBS_ex0 h8 (zGr_1 (by omega)))) (fun e => z_ifc (fun e2 => h _ (zBS_ex0 h8 (zGr_2 ?_))) (fun e2 => h _ (zBS_ex1 h8 (zGr_t hj (by omega) ?_ ?_) (by omega))))
  · split at e2 <;> omega
  · split at e2 <;> omega
  · split at e2 <;> omega
theorem lp50i {U V : z_M} {r n pl : Nat} {lev : Nat → Int} {up dn : Int} {o1 o3 : Option z_V} (hV8 : V 97 8 = (n : Int)) (hV98 : ∀ p, p ≤ n → V 98 p = lev p) (hup : 0 ≤ up) (hn : n ≤ 12) (hr : r < 6) (hl : ∀ p, p ≤ n → 0 ≤ lev p ∧ lev p ≤ 108) (hp : pl ≤ n)
    (h : ∀ s7 s8 o7 o8 o9 o10, zBS s7 (zAd n lev up dn pl) → zBS s8 (zGr n lev up pl) → z_Ex (z_MS d) 50 Q true 44 [some (.inr (.inr 97)), o1, some (.inl (r : Int)), o3, some (.inl up), some (.inl dn), some (.inl ((pl + 1 : Nat) : Int)), o7, o8, o9, o10] [] 0 0 (z_up (z_up V (101 + r) pl s7) (108 + r) pl s8)) :
    ∀ k j s7 s8 o10, j + k = n + 1 → zBS s7 (fun p => decide (p < j) && zAd n lev up dn pl p) → zBS s8 (fun p => decide (p < j) && zGr n lev up pl p) → z_Ex (z_MS d) 50 Q true 62 [some (.inr (.inr 97)), o1, some (.inl (r : Int)), o3, some (.inl up), some (.inl dn), some (.inl (pl : Int)), some (.inl s7), some (.inl s8), some (.inl (j : Int)), o10] [] 0 0 V
  | 0, j, s7, s8, o10, e, h7, h8 => by
    have e2 : j = n + 1 := by omega
    subst e2
    refine zb50_97_37_p62 _ _ _ _ _ _ _ _ _ _ (z_ifp (by omega) ?_)
    have k1 := zk100 (V := V) hr
    refine z_gp (by omega) (z_all ?_)
    rw [Int.toNat_natCast, zr100 hr, k1.2.2]
    refine z_gp ⟨k1.1, k1.2.1⟩ (z_gp (by omega) (z_all (z_gp (by omega) (z_all ?_))))
    rw [Int.toNat_natCast, zr107 hr, (zk107 hr).2.2, z_inc (by omega)]
    refine z_gp ⟨(zk107 (V := V) hr).1, (zk107 (V := V) hr).2.1⟩ (z_gp (by omega) (z_all ?_))
    exact h s7 s8 _ _ _ _ (zBS_all h7 (fun p hp => zAd_hi hp)) (zBS_all h8 (fun p hp => by unfold zGr; rw [show decide (p ≤ n) = false by simp; omega]; simp))
  | k + 1, j, s7, s8, o10, e, h7, h8 => by
    have l1 := hl j (by omega)
    have l2 := hl pl hp
    refine zb50_97_37_p62 _ _ _ _ _ _ _ _ _ _ (z_ifn (by omega) (z_gp (by omega) (z_all (z_gp (by omega) (z_all ?_)))))
    rw [Int.toNat_natCast, Int.toNat_natCast, hV98 j (by omega), hV98 pl hp, z_sub_e (by omega), z_neg_e (by omega)]
    have key : ∀ z, zBS z (fun p => decide (p < j + 1) && zAd n lev up dn pl p) → z_Ex (z_MS d) 50 Q true 119 [some (.inr (.inr 97)), o1, some (.inl (r : Int)), o3, some (.inl up), some (.inl dn), some (.inl (pl : Int)), some (.inl z), some (.inl s8), some (.inl (j : Int)), some (.inl (lev j - lev pl))] [] 0 0 V :=
      fun z hz => lp50j hup (by omega) hn hl hp h8 (fun z8 hz8 => lp50i (U := U) hV8 hV98 hup hn hr hl hp h k (j + 1) z z8 _ (by omega) hz hz8)
    refine z_ifc (fun e1 => key _ (zBS_ex0 h7 (zAd_1 (by omega)))) (fun e1 => z_ifc (fun e2 => key _ (zBS_ex0 h7 (zAd_2 (by omega)))) (fun e2 => z_ifc (fun e3 => key _ (zBS_ex0 h7 (zAd_3 (by omega)))) (fun e3 => key _ (zBS_ex1 h7 (zAd_t (by omega) (by omega) (by omega) (by omega)) (by omega)))))
theorem lp50 {U : z_M} {r n : Nat} {lev : Nat → Int} {up dn : Int} {o1 o3 : Option z_V} (hU8 : U 97 8 = (n : Int)) (hU98 : ∀ p, p ≤ n → U 98 p = lev p) (hup : 0 ≤ up) (hn : n ≤ 12) (hr : r < 6) (hl : ∀ p, p ≤ n → 0 ≤ lev p ∧ lev p ≤ 108)
    (h : ∀ W, (∀ a, ¬ a = 101 + r → ¬ a = 108 + r → W a = U a) → (∀ q, q ≤ n → zBS (W (101 + r) q) (zAd n lev up dn q) ∧ zBS (W (108 + r) q) (zGr n lev up q)) → Q 0 W) :
    ∀ k i V o7 o8 o9 o10, i + k = n + 1 → (∀ a, ¬ a = 101 + r → ¬ a = 108 + r → V a = U a) → (∀ q, q < i → zBS (V (101 + r) q) (zAd n lev up dn q) ∧ zBS (V (108 + r) q) (zGr n lev up q)) → z_Ex (z_MS d) 50 Q true 44 [some (.inr (.inr 97)), o1, some (.inl (r : Int)), o3, some (.inl up), some (.inl dn), some (.inl (i : Int)), o7, o8, o9, o10] [] 0 0 V
  | 0, i, V, o7, o8, o9, o10, e, g1, g2 => by
    have e2 : i = n + 1 := by omega
    subst e2
    have e97 : V 97 8 = (n : Int) := by rw [g1 97 (by omega) (by omega)]; exact hU8
    refine zb50_97_37_p44 _ _ _ _ _ _ _ _ _ _ (z_ifp (by omega) (h V g1 (fun q hq => g2 q (by omega))))
  | k + 1, i, V, o7, o8, o9, o10, e, g1, g2 => by
    have e97 : V 97 8 = (n : Int) := by rw [g1 97 (by omega) (by omega)]; exact hU8
    have e98 : ∀ p, p ≤ n → V 98 p = lev p := fun p hp => by rw [g1 98 (by omega) (by omega)]; exact hU98 p hp
    refine zb50_97_37_p44 _ _ _ _ _ _ _ _ _ _ (z_ifn (by omega) ?_)
    refine lp50i (U := U) e97 e98 hup hn hr hl (by omega) (fun s7 s8 p7 p8 p9 p10 q7 q8 => ?_) (n + 1) 0 0 0 _ (by omega) zBS_e0 zBS_e0
    refine lp50 hU8 hU98 hup hn hr hl h k (i + 1) _ _ _ _ _ (by omega) (fun a a1 a2 => by rw [z_up_cell a2, z_up_cell a1]; exact g1 a a1 a2) (fun q hq => ?_)
    by_cases eq : q = i
    · subst eq
      refine ⟨?_, ?_⟩
      · rw [z_up_cell (by omega), zUp_s]; exact q7
      · rw [zUp_s]; exact q8
    · refine ⟨?_, ?_⟩
      · rw [z_up_cell (by omega), zUp_o (by omega)]; exact (g2 q (by omega)).1
      · rw [zUp_o (by omega), z_up_cell (by omega)]; exact (g2 q (by omega)).2
theorem zBS_car {z : Int} {n : Nat} {c : Nat → Bool} (h : zBS z (fun p => decide (p < n) && c p)) (hn : n ≤ 12) : zBS (z_or (z_shl z 1) 1) (zCa n c) := by
  have h1 := zBS_lt 12 h (fun k hk => by rw [show decide (k < n) = false by simp; omega]; rfl)
  refine zBS_c (zBS_or (zBS_shl h (by omega)) zBS_1) (fun k => ?_)
  unfold zCa
  cases k with
  | zero => simp
  | succ k =>
    rw [Nat.add_sub_cancel, show decide (k + 1 ≤ n) = decide (k < n) by simp; omega]
    simp
theorem sp50 {V : z_M} {ρ : Nat → Int} {Λ : Nat → (Nat → Int) → Int} {r n : Nat} {lev : Nat → Int} {bits : Int} {c : Nat → Bool} (hT : zT 37 ρ V Λ) (hr : (r : Int) < ρ 1) (h8 : V 97 8 = (n : Int)) (h98 : ∀ p, p ≤ n → V 98 p = lev p) (hn : n ≤ 12) (hl : ∀ p, p ≤ n → 0 ≤ lev p ∧ lev p ≤ 108) (hb : zBS bits (fun p => decide (p < n) && c p))
    (h : ∀ W, (∀ a, ¬ a = 99 → ¬ a = 101 + r → ¬ a = 108 + r → W a = V a) → (∀ q, ¬ q = r → W 99 q = V 99 q) → zBS (W 99 r) (zCa n c) → (∀ q, q ≤ n → zBS (W (101 + r) q) (zAd n lev (zSR ρ r) (zSR ρ r + ρ 7) q) ∧ zBS (W (108 + r) q) (zGr n lev (zSR ρ r) q)) → Q 0 W) :
    z_MS (d + 3) 50 true [.inr (.inr 97), .inr (.inr 37), .inl (r : Int), .inl bits] V Q := by
  have a1 := zT_1 hT
  have a7 := zT_7 hT
  have ar := zT_r hT hr
  refine zb50_97_37 _ _ (sp76 (by omega) (fun _ => z_ifn (by decide) ?_) (fun hn => absurd (by omega) hn))
  refine z_gp (by omega) (z_all (z_gp (by omega) (z_all ?_)))
  rw [Int.toNat_natCast]
  have e44 : ∀ v, z_up V 99 r v 44 r = ρ (56 + 2 * r) := fun v => by rw [z_up_cell (by decide)]; exact ar.1
  have e46 : ∀ v, z_up V 99 r v 46 1 = ρ 7 := fun v => by rw [z_up_cell (by decide)]; exact a7.1
  rw [e44, e46, z_add_e (by omega)]
  refine lp50 (lev := lev) (n := n) (by rw [z_up_cell (by decide)]; exact h8) (fun p hp => by rw [z_up_cell (by decide)]; exact h98 p hp) (by omega) hn (by omega) hl (fun W w1 w2 => ?_) (n + 1) 0 _ _ _ _ _ (by omega) (fun _ _ _ => rfl) (fun q hq => absurd hq (Nat.not_lt_zero q))
  refine h W (fun a x y z => by rw [w1 a y z, z_up_cell x]) (fun q hq => by rw [w1 99 (by omega) (by omega), zUp_o (by omega)]) ?_ w2
  rw [w1 99 (by omega) (by omega), zUp_s]
  exact zBS_car hb hn
theorem lp49 {U : z_M} {ρ : Nat → Int} {Λ : Nat → (Nat → Int) → Int} {r n : Nat} {lev : Nat → Int} (hT : zT 37 ρ U Λ) (hr : (r : Int) < ρ 1) (hn0 : ρ 0 = (n : Int)) (h8 : U 97 8 = (n : Int)) (h98 : ∀ p, p ≤ n → U 98 p = lev p) (hl : ∀ p, p ≤ n → 0 ≤ lev p ∧ lev p ≤ 108)
    (h : ∀ V z, zOff 94 96 U V → zBS z (fun p => decide (p < n) && zHold ρ Λ r p (p : Int) (lev (p + 1))) → z_MS (d + 4) 50 true [.inr (.inr 97), .inr (.inr 37), .inl (r : Int), .inl z] V (fun _ W => Q 0 W)) :
    ∀ k i V z, i + k = n → zOff 94 96 U V → zBS z (fun p => decide (p < i) && zHold ρ Λ r p (p : Int) (lev (p + 1))) → z_Ex (z_MS (d + 4)) 49 Q true 6 [some (.inr (.inr 97)), some (.inr (.inr 37)), some (.inr (.inr 94)), some (.inl (r : Int)), some (.inl z), some (.inl (i : Int))] [] 0 0 V
  | 0, i, V, z, e, g1, g2 => by
    have e2 : i = n := by omega
    subst e2
    refine zb49_97_37_94_p6 _ _ _ (z_ifn (by rw [g1 97 (by omega)]; omega) (h V z g1 g2))
  | k + 1, i, V, z, e, g1, g2 => by
    have a0 := zT_0 hT
    have l1 := hl (i + 1) (by omega)
    refine zb49_97_37_94_p6 _ _ _ (z_ifp (by rw [g1 97 (by omega)]; omega) ?_)
    rw [z_inc (by omega)]
    refine z_gp (by omega) (z_all ?_)
    rw [Int.toNat_natCast, g1 98 (by omega), h98 (i + 1) (by omega)]
    refine sp16 (zT_off hT g1 (by decide) (by decide) (by decide)) hr (by omega) (by omega) (by omega) (fun W w1 => ?_)
    cases hb : zHold ρ Λ r i (i : Int) (lev (i + 1)) with
    | true =>
      refine z_ifn (by decide) ?_
      exact lp49 hT hr hn0 h8 h98 hl h k (i + 1) W _ (by omega) (zOff_t g1 w1) (zBS_ex1 g2 hb (by omega))
    | false =>
      refine z_ifp rfl ?_
      exact lp49 hT hr hn0 h8 h98 hl h k (i + 1) W _ (by omega) (zOff_t g1 w1) (zBS_ex0 g2 hb)
/-- a reader is looked at, the books laid in place -/
theorem sp49 {V : z_M} {ρ : Nat → Int} {Λ : Nat → (Nat → Int) → Int} {r n R : Nat} {lev : Nat → Int} {A : Nat → Bool} (hT : zT 37 ρ V Λ) (hr : (r : Int) < ρ 1) (hn0 : ρ 0 = (n : Int)) (hR : ρ 1 = (R : Int)) (hl : ∀ p, p ≤ n → 0 ≤ lev p ∧ lev p ≤ 108) (hS : zSC V n R lev (zSR ρ) (ρ 7) (fun r t => zHold ρ Λ r t (t : Int) (lev (t + 1))) A)
    (h : ∀ W, zOff 94 113 V W → W 97 = V 97 → W 98 = V 98 → zSC W n R lev (zSR ρ) (ρ 7) (fun r t => zHold ρ Λ r t (t : Int) (lev (t + 1))) (fun q => decide (q = r) || A q) → Q 0 W) :
    z_MS (d + 5) 49 true [.inr (.inr 97), .inr (.inr 37), .inr (.inr 94), .inl (r : Int)] V Q := by
  have a0 := zT_0 hT
  have a1 := zT_1 hT
  obtain ⟨s1, s2, s3, s4⟩ := hS
  refine zb49_97_37_94 _ (lp49 hT hr hn0 s1 s3 hl (fun W z w1 w2 => ?_) n 0 V 0 (by omega) zOff_r zBS_e0)
  refine sp50 (d := d + 1) (zT_off hT w1 (by decide) (by decide) (by decide)) hr (by rw [w1 97 (by omega)]; exact s1) (fun p hp => by rw [w1 98 (by omega)]; exact s3 p hp) (by omega) hl w2 (fun X x1 x2 x3 x4 => ?_)
  refine h X (fun a ha => by rw [x1 a (by omega) (by omega) (by omega)]; exact w1 a (by omega)) ?_ ?_ ⟨?_, ?_, fun p hp => ?_, fun q hq hA => ?_⟩
  · rw [x1 97 (by omega) (by omega) (by omega)]; exact w1 97 (by omega)
  · rw [x1 98 (by omega) (by omega) (by omega)]; exact w1 98 (by omega)
  · rw [x1 97 (by omega) (by omega) (by omega), w1 97 (by omega)]; exact s1
  · rw [x1 97 (by omega) (by omega) (by omega), w1 97 (by omega)]; exact s2
  · rw [x1 98 (by omega) (by omega) (by omega), w1 98 (by omega)]; exact s3 p hp
  · by_cases e : q = r
    · subst e
      exact ⟨x3, x4⟩
    · have hA2 : A q = true := by simpa [e] using hA
      have := s4 q hq hA2
      rw [x2 q e, x1 (101 + q) (by omega) (by omega) (by omega), x1 (108 + q) (by omega) (by omega) (by omega), w1 99 (by omega), w1 (101 + q) (by omega), w1 (108 + q) (by omega)]
      exact this
end
