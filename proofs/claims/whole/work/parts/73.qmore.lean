/-! more questions -/
section
variable {d : Nat} {Q : Int → z_M → Prop}
theorem sp141 {V : z_M} {Λ : Nat → (Nat → Int) → Int} {n R kd : Nat} {b what : Int} (hSt : zSt V) (hT : zT 37 (V 143) V Λ) (hn : V 143 0 = (n : Int)) (hRr : V 143 1 = (R : Int)) (hkd : kd ≤ 2) (hw : 0 ≤ what ∧ what ≤ 3)
    (h0 : ¬ ((0 ≤ b ∧ b < (R : Int)) ∧ 1 ≤ n) → Q (-1) V)
    (h1 : ∀ (r c : Nat) W, b = (r : Int) → r < R → 1 ≤ n → c < 4096 → zBS (c : Int) (zCf kd n (zG0 (V 143) (fun t => t))) → zOff 94 117 V W → Q (zCz (zCl (decide (kd = 0)) (zCp kd n (zAd n (zLE (V 143) (fun t => t)) (zSR (V 143) r) (zSR (V 143) r + V 143 7)) (zCR (V 143) Λ (fun t => t) r) (zG0 (V 143) (fun t => t))) (c + 1)) what) W) :
    z_MS (d + 10) 141 true [.inr (.inr 36), .inl (kd : Int), .inl b, .inl what] V Q := by
  have a0 := zT_0 hT
  have a1 := zT_1 hT
  refine zb141_36 _ _ _ (sp76 (d := d + 7) (by omega) (fun h2 => z_ifn (by decide) (z_ifc (fun c => h0 (by omega)) (fun c => ?_))) (fun h2 => z_ifp rfl (h0 (by omega))))
  obtain ⟨r, hr⟩ := Int.eq_ofNat_of_zero_le h2.1
  subst hr
  refine sp138 (d := d + 3) hSt hT (by omega) hn hRr (fun W w1 w2 w3 => ?_)
  refine sp8 (d := d + 4) (r := r) w2 w3 (by omega) (by omega) (by omega) (by omega) (by simp) hkd (fun X c c1 c2 x1 x2 => ?_)
  refine sp10 (d := d + 8) (zCl_b _) x2 hw ?_
  exact h1 r c X rfl (by omega) (by omega) c1 c2 (fun a ha => by rw [x1 a (by omega)]; exact w1 a (by omega))
theorem cm_108 {V : z_M} (hR : zR V) (b what : Int) : zPr (d + 14) 108 216 [.inl b, .inl what] V := by
  have hR2 := hR
  obtain ⟨⟨Λ, hT, hc⟩, r3, r4, r5⟩ := hR2
  obtain ⟨n, R, m, hn, hRr, hm, n12, R6, m7⟩ := zR_nat hT
  have a0 := zT_0 hT
  have a1 := zT_1 hT
  have a4 := zT_4 hT
  have no : ¬ ((0 ≤ b ∧ b < (R : Int)) ∧ 1 ≤ n ∧ 0 ≤ what ∧ what ≤ 3) → z_MS (d + 14) 216 true [.inr (.inr 141), .inl b, .inl what] V (fun z2 X => z2 = -1 ∧ zR X) := by
    intro hno
    refine zb216_141 _ _ (z_all (sp156 (d := d + 11) (n := R) (by rw [z_up_cell (by decide)]; exact hRr) R6 (fun h1 => z_ifn (by decide) (sp154 (d := d + 12) (z_ifc (fun c => ⟨rfl, zR_k hR zKeep_0⟩) (fun c => sp145 (d := d + 12) (fun h => ?_) (fun h => z_ifp rfl ⟨rfl, zR_k hR zKeep_0⟩))))) (fun h2 => z_ifp rfl ⟨rfl, zR_k hR zKeep_0⟩)))
    have c2 : ¬ V 143 0 = 0 := c
    exact absurd ⟨h1, by omega, h⟩ hno
  refine zb108_36 _ _ (sp133 (d := d + 12) (fun hw => z_ifn (by decide) ?_) (fun hw => z_ifp rfl (no (by omega))))
  refine sp141 (d := d + 3) (kd := 0) (Λ := Λ) r5.1 hT hn hRr (by decide) (by omega) (fun hno => no (by omega)) (fun r c W hb hr hn1 c1 c2 w1 => ?_)
  subst hb
  have hW := zKeep_x (zOff_w w1 (show 89 ≤ 94 by omega) (show 117 ≤ 118 by omega))
  have e143 : z_up W 141 0 0 143 = V 143 := by rw [z_up_cell (by decide), w1 143 (by omega)]
  have hlb : ∀ p, p ≤ n → 0 ≤ zLE (V 143) (fun t => t) p ∧ zLE (V 143) (fun t => t) p ≤ 108 := fun p hp => zLE_b hT hn (fun t ht => ht) hp
  refine zb216_141 _ _ (z_all (sp156 (d := d + 11) (n := R) (by rw [e143]; exact hRr) R6 (fun _ => z_ifn (by decide) (sp154 (d := d + 12) (z_ifn (by rw [e143]; omega) (sp145 (d := d + 12) (fun _ => z_ifn (by decide) ?_) (fun h => absurd (by omega) h))))) (fun h => absurd (by omega) h)))
  refine sp201 (d := d + 6) hT e143 hn hRr hm (fun X x1 x2 => ?_)
  refine sp214 (d := d + 11) (g := zG0 (V 143) (fun t => t)) (by rw [x2.1]; exact hn) ⟨hn1, n12⟩ x2.2.2.2.2.2.2.2 (fun c' c1' c2' => ?_)
  have hcc : c' = c := by
    have := zBS_ext c2' c2 (fun k => rfl)
    omega
  subst hcc
  refine sp213 (d := d + 7) (kd := 0) hT x2 rfl hlb hr (by decide) c2 c1 (fun Y y1 y2 => ?_)
  refine sp215 (d := d + 11) (n := c' + 1) (by omega) (zCl_b _) y2 (by omega) ⟨rfl, zR_k hR (zKeep_t hW (zKeep_t zKeep_0 (zKeep_t (zKeep_m x1 (Or.inr (by omega)) (by omega)) (zKeep_m y1 (Or.inr (by omega)) (by omega)))))⟩
theorem cm_109 {V : z_M} (hR : zR V) (b what : Int) : zPr (d + 14) 109 217 [.inl b, .inl what] V := by
  have hR2 := hR
  obtain ⟨⟨Λ, hT, hc⟩, r3, r4, r5⟩ := hR2
  obtain ⟨n, R, m, hn, hRr, hm, n12, R6, m7⟩ := zR_nat hT
  have a0 := zT_0 hT
  have a1 := zT_1 hT
  have a4 := zT_4 hT
  have no : ¬ ((0 ≤ b ∧ b < (R : Int)) ∧ 1 ≤ n ∧ 0 ≤ what ∧ what ≤ 2) → z_MS (d + 14) 217 true [.inr (.inr 141), .inl b, .inl what] V (fun z2 X => z2 = -1 ∧ zR X) := by
    intro hno
    refine zb217_141 _ _ (z_all (sp156 (d := d + 11) (n := R) (by rw [z_up_cell (by decide)]; exact hRr) R6 (fun h1 => z_ifn (by decide) (sp154 (d := d + 12) (z_ifc (fun c => ⟨rfl, zR_k hR zKeep_0⟩) (fun c => sp145 (d := d + 12) (fun h => ?_) (fun h => z_ifp rfl ⟨rfl, zR_k hR zKeep_0⟩))))) (fun h2 => z_ifp rfl ⟨rfl, zR_k hR zKeep_0⟩)))
    have c2 : ¬ V 143 0 = 0 := c
    exact absurd ⟨h1, by omega, h⟩ hno
  refine zb109_36 _ _ (sp133 (d := d + 12) (fun hw => z_ifn (by decide) ?_) (fun hw => z_ifp rfl (no (by omega))))
  refine sp141 (d := d + 3) (kd := 1) (Λ := Λ) r5.1 hT hn hRr (by decide) (by omega) (fun hno => no (by omega)) (fun r c W hb hr hn1 c1 c2 w1 => ?_)
  subst hb
  have hW := zKeep_x (zOff_w w1 (show 89 ≤ 94 by omega) (show 117 ≤ 118 by omega))
  have e143 : z_up W 141 0 0 143 = V 143 := by rw [z_up_cell (by decide), w1 143 (by omega)]
  have hlb : ∀ p, p ≤ n → 0 ≤ zLE (V 143) (fun t => t) p ∧ zLE (V 143) (fun t => t) p ≤ 108 := fun p hp => zLE_b hT hn (fun t ht => ht) hp
  refine zb217_141 _ _ (z_all (sp156 (d := d + 11) (n := R) (by rw [e143]; exact hRr) R6 (fun _ => z_ifn (by decide) (sp154 (d := d + 12) (z_ifn (by rw [e143]; omega) (sp145 (d := d + 12) (fun _ => z_ifn (by decide) ?_) (fun h => absurd (by omega) h))))) (fun h => absurd (by omega) h)))
  refine sp201 (d := d + 6) hT e143 hn hRr hm (fun X x1 x2 => ?_)
  refine sp214 (d := d + 11) (g := zG0 (V 143) (fun t => t)) (by rw [x2.1]; exact hn) ⟨hn1, n12⟩ x2.2.2.2.2.2.2.2 (fun c' c1' c2' => ?_)
  have hcc : c' = c := by
    have := zBS_ext c2' c2 (fun k => rfl)
    omega
  subst hcc
  refine sp213 (d := d + 7) (kd := 1) hT x2 rfl hlb hr (by decide) c2 c1 (fun Y y1 y2 => ?_)
  refine sp215 (d := d + 11) (n := c' + 1) (by omega) (zCl_b _) y2 (by omega) ⟨rfl, zR_k hR (zKeep_t hW (zKeep_t zKeep_0 (zKeep_t (zKeep_m x1 (Or.inr (by omega)) (by omega)) (zKeep_m y1 (Or.inr (by omega)) (by omega)))))⟩
theorem cm_110 {V : z_M} (hR : zR V) (b what : Int) : zPr (d + 14) 110 218 [.inl b, .inl what] V := by
  have hR2 := hR
  obtain ⟨⟨Λ, hT, hc⟩, r3, r4, r5⟩ := hR2
  obtain ⟨n, R, m, hn, hRr, hm, n12, R6, m7⟩ := zR_nat hT
  have a0 := zT_0 hT
  have a1 := zT_1 hT
  have a4 := zT_4 hT
  have no : ¬ ((0 ≤ b ∧ b < (R : Int)) ∧ 1 ≤ n ∧ 0 ≤ what ∧ what ≤ 2) → z_MS (d + 14) 218 true [.inr (.inr 141), .inl b, .inl what] V (fun z2 X => z2 = -1 ∧ zR X) := by
    intro hno
    refine zb218_141 _ _ (z_all (sp156 (d := d + 11) (n := R) (by rw [z_up_cell (by decide)]; exact hRr) R6 (fun h1 => z_ifn (by decide) (sp154 (d := d + 12) (z_ifc (fun c => ⟨rfl, zR_k hR zKeep_0⟩) (fun c => sp145 (d := d + 12) (fun h => ?_) (fun h => z_ifp rfl ⟨rfl, zR_k hR zKeep_0⟩))))) (fun h2 => z_ifp rfl ⟨rfl, zR_k hR zKeep_0⟩)))
    have c2 : ¬ V 143 0 = 0 := c
    exact absurd ⟨h1, by omega, h⟩ hno
  refine zb110_36 _ _ (sp133 (d := d + 12) (fun hw => z_ifn (by decide) ?_) (fun hw => z_ifp rfl (no (by omega))))
  refine sp141 (d := d + 3) (kd := 2) (Λ := Λ) r5.1 hT hn hRr (by decide) (by omega) (fun hno => no (by omega)) (fun r c W hb hr hn1 c1 c2 w1 => ?_)
  subst hb
  have hW := zKeep_x (zOff_w w1 (show 89 ≤ 94 by omega) (show 117 ≤ 118 by omega))
  have e143 : z_up W 141 0 0 143 = V 143 := by rw [z_up_cell (by decide), w1 143 (by omega)]
  have hlb : ∀ p, p ≤ n → 0 ≤ zLE (V 143) (fun t => t) p ∧ zLE (V 143) (fun t => t) p ≤ 108 := fun p hp => zLE_b hT hn (fun t ht => ht) hp
  refine zb218_141 _ _ (z_all (sp156 (d := d + 11) (n := R) (by rw [e143]; exact hRr) R6 (fun _ => z_ifn (by decide) (sp154 (d := d + 12) (z_ifn (by rw [e143]; omega) (sp145 (d := d + 12) (fun _ => z_ifn (by decide) ?_) (fun h => absurd (by omega) h))))) (fun h => absurd (by omega) h)))
  refine sp201 (d := d + 6) hT e143 hn hRr hm (fun X x1 x2 => ?_)
  have hcc : X 141 36 = (c : Int) := zBS_ext x2.2.2.2.2.2.2.2 c2 (fun k => by unfold zCf; rw [if_pos rfl])
  rw [hcc]
  refine sp213 (d := d + 7) (kd := 2) hT x2 rfl hlb hr (by decide) c2 c1 (fun Y y1 y2 => ?_)
  refine sp215 (d := d + 11) (n := c + 1) (by omega) (zCl_b _) y2 (by omega) ⟨rfl, zR_k hR (zKeep_t hW (zKeep_t zKeep_0 (zKeep_t (zKeep_m x1 (Or.inr (by omega)) (by omega)) (zKeep_m y1 (Or.inr (by omega)) (by omega)))))⟩
theorem zAk_lt {b : Nat} {ρ : Nat → Int} {V : z_M} {Λ : Nat → (Nat → Int) → Int} {n m a : Nat} (hT : zT b ρ V Λ) (hn : ρ 0 = (n : Int)) (hm : ρ 4 = (m : Int)) (ha : a < m) : zAk ρ a < n ∧ ρ (69 + 2 * a) = (zAk ρ a : Int) := by
  have aa := zT_a hT (a := a) (by omega)
  unfold zAk
  omega
theorem zRq_lt {b : Nat} {ρ : Nat → Int} {V : z_M} {Λ : Nat → (Nat → Int) → Int} {R m a : Nat} (hT : zT b ρ V Λ) (hR : ρ 1 = (R : Int)) (hm : ρ 4 = (m : Int)) (ha : a < m) : zRq ρ a < R ∧ ρ (68 + 2 * a) = (zRq ρ a : Int) := by
  have aa := zT_a hT (a := a) (by omega)
  unfold zRq
  omega
/-- the day as it is told, the class -/
theorem sp140 {V : z_M} {Λ : Nat → (Nat → Int) → Int} {n R m : Nat} (hSt : zSt V) (hT : zT 37 (V 143) V Λ) (hn : V 143 0 = (n : Int)) (hR : V 143 1 = (R : Int)) (hm : V 143 4 = (m : Int))
    (h : ∀ W z, zOff 94 115 V W → zSC W n R (zLE (V 143) (fun t => t)) (zSR (V 143)) (V 143 7) (zCR (V 143) Λ (fun t => t)) (fun _ => true) → zDY W n (zPl (zSv n R (zLE (V 143) (fun t => t)) (zSR (V 143)) (V 143 7) (zCR (V 143) Λ (fun t => t))) (zRq (V 143)) (zAk (V 143)) (fun _ => 0, zG0 (V 143) (fun t => t)) m).1 (zPl (zSv n R (zLE (V 143) (fun t => t)) (zSR (V 143)) (V 143 7) (zCR (V 143) Λ (fun t => t))) (zRq (V 143)) (zAk (V 143)) (fun _ => 0, zG0 (V 143) (fun t => t)) m).2 → zBS z (fun a => decide (a < m) && zPb (zSv n R (zLE (V 143) (fun t => t)) (zSR (V 143)) (V 143 7) (zCR (V 143) Λ (fun t => t))) (zRq (V 143)) (zAk (V 143)) (fun _ => 0, zG0 (V 143) (fun t => t)) a) → Q z W) :
    z_MS (d + 8) 140 true [.inr (.inr 36)] V Q := by
  have a0 := zT_0 hT
  have a1 := zT_1 hT
  have a4 := zT_4 hT
  refine zb140_36 (sp139 (d := d + 1) hSt hT hn hR (fun W w1 w2 w3 => ?_))
  refine sp61_6 (d := d + 3) (rq := zRq (V 143)) (tq := zAk (V 143)) (zT_off hT w1 (by decide) (by decide) (by decide)) hn hR hm (by omega) w2 w3 (fun a ha => ?_) (fun X z x1 x2 x3 x4 x5 => h X z (fun a ha => by rw [x1 a (by omega) (by omega)]; exact w1 a ha) (zSC_up (by omega) w2 x2 x3 (fun a p q => x1 a (by omega) (by omega))) x4 x5)
  have aa := zT_a hT (a := a) (by omega)
  have h1 := zAk_lt hT hn hm ha
  have h2 := zRq_lt hT hR hm ha
  have b1 : V 49 a = V 143 (68 + 2 * a) := aa.1
  have b2 : V 50 a = V 143 (69 + 2 * a) := aa.2.1
  exact ⟨by rw [w1 49 (by omega), b1]; exact h2.2, rfl, zAk (V 143) a, by rw [w1 50 (by omega), b2]; exact h1.2, h1.1, by rw [w1 6 (by omega)]; exact zSt_6 hSt (by omega), h1.1⟩
theorem cm_day {V : z_M} (hR : zR V) (what : Int) : zPr (d + 16) 113 227 [.inl what] V := by
  have hR2 := hR
  obtain ⟨⟨Λ, hT, hc⟩, r3, r4, r5⟩ := hR2
  obtain ⟨n, R, m, hn, hRr, hm, n12, R6, m7⟩ := zR_nat hT
  have a0 := zT_0 hT
  have a1 := zT_1 hT
  have a4 := zT_4 hT
  have hlb : ∀ p, p ≤ n → 0 ≤ zLE (V 143) (fun t => t) p ∧ zLE (V 143) (fun t => t) p ≤ 108 := fun p hp => zLE_b hT hn (fun t ht => ht) hp
  refine zb113_36 _ (sp133 (d := d + 14) (fun hw => z_ifn (by decide) ?_) (fun hw => z_ifp rfl (zb227_141 _ (z_all (sp145 (d := d + 14) (fun h => absurd h hw) (fun _ => z_ifp rfl ⟨rfl, zR_k hR zKeep_0⟩))))))
  refine sp140 (d := d + 7) r5.1 hT hn hRr hm (fun W z w1 w2 w3 w4 => ?_)
  -- the reference
  have hW := zKeep_x (zOff_w w1 (show 89 ≤ 94 by omega) (show 115 ≤ 118 by omega))
  have ref : ∀ (zz : Int), (what = 0 → zz = z) → (what = 1 → zBS zz (fun r => decide (r < R) && zSd n (zLE (V 143) (fun t => t)) (zSR (V 143)) (V 143 7) (zCR (V 143) Λ (fun t => t)) (zPl (zSv n R (zLE (V 143) (fun t => t)) (zSR (V 143)) (V 143 7) (zCR (V 143) Λ (fun t => t))) (zRq (V 143)) (zAk (V 143)) (fun _ => 0, zG0 (V 143) (fun t => t)) m).1 (zPl (zSv n R (zLE (V 143) (fun t => t)) (zSR (V 143)) (V 143 7) (zCR (V 143) Λ (fun t => t))) (zRq (V 143)) (zAk (V 143)) (fun _ => 0, zG0 (V 143) (fun t => t)) m).2 r)) → (what = 2 → zBS zz (fun t => decide (t < n) && (zPl (zSv n R (zLE (V 143) (fun t => t)) (zSR (V 143)) (V 143 7) (zCR (V 143) Λ (fun t => t))) (zRq (V 143)) (zAk (V 143)) (fun _ => 0, zG0 (V 143) (fun t => t)) m).2 t)) →
      z_MS (d + 16) 227 true [.inr (.inr 141), .inl what] W (fun z2 X => z2 = zz ∧ zR X) := by
    intro zz z0 z1 z2
    have e143 : z_up W 141 0 0 143 = V 143 := by rw [z_up_cell (by decide), w1 143 (by omega)]
    refine zb227_141 _ (z_all (sp145 (d := d + 14) (fun _ => z_ifn (by decide) ?_) (fun h => absurd hw h)))
    refine sp201 (d := d + 8) hT e143 hn hRr hm (fun X x1 x2 => ?_)
    refine sp226 (d := d + 10) hT x2 rfl hlb (fun a ha => (zAk_lt hT hn hm ha).1) (fun Y y y1 y2 y3 y4 => ?_)
    have hY := zKeep_t hW (zKeep_t zKeep_0 (zKeep_t (zKeep_m x1 (Or.inr (by omega)) (by omega)) (zKeep_m y1 (Or.inr (by omega)) (by omega))))
    refine z_ifc (fun c => ⟨by rw [z0 c]; exact zBS_ext y4 w4 (fun _ => rfl), zR_k hR hY⟩) (fun c => z_ifc (fun c1 => ?_) (fun c1 => ⟨zBS_ext y3.1 (z2 (by omega)) (fun _ => rfl), zR_k hR hY⟩))
    refine sp224 (d := d + 11) hT y2 y3 rfl hlb (fun Z u u1 u2 => ⟨zBS_ext u2 (z1 c1) (fun _ => rfl), zR_k hR (zKeep_t hY (zKeep_m (k1 := 26) (k2 := 26) (lo := 159) (hi := 159) ⟨fun a x y => u1 a (by omega), fun k _ => by rw [u1 141 (by decide)]⟩ (Or.inr (by omega)) (by omega)))⟩)
  refine z_ifc (fun c => ref z (fun _ => rfl) (fun q => by omega) (fun q => by omega)) (fun c => z_ifc (fun c1 => ?_) (fun c1 => ?_))
  · exact sp62 (d := d + 12) w2 w3 n12 R6 (fun _ _ _ => rfl) (fun u hu => ref u (fun q => by omega) (fun _ => hu) (fun q => by omega))
  · exact sp64 (d := d + 14) w2.1 w3 n12 (fun u hu => ref u (fun q => by omega) (fun q => by omega) (fun _ => hu))
theorem cm_stands {V : z_M} (hR : zR V) (b : Int) : zPr (d + 16) 114 228 [.inl b] V := by
  have hR2 := hR
  obtain ⟨⟨Λ, hT, hc⟩, r3, r4, r5⟩ := hR2
  obtain ⟨n, R, m, hn, hRr, hm, n12, R6, m7⟩ := zR_nat hT
  have a0 := zT_0 hT
  have a1 := zT_1 hT
  have a4 := zT_4 hT
  have hlb : ∀ p, p ≤ n → 0 ≤ zLE (V 143) (fun t => t) p ∧ zLE (V 143) (fun t => t) p ≤ 108 := fun p hp => zLE_b hT hn (fun t ht => ht) hp
  refine zb114_36 _ (sp76 (d := d + 13) (by omega) (fun hb => z_ifn (by decide) ?_) (fun hb => z_ifp rfl (zb228_141 _ (z_all (sp156 (d := d + 13) (n := R) (by rw [z_up_cell (by decide)]; exact hRr) R6 (fun h => absurd h (by omega)) (fun _ => z_ifp rfl ⟨rfl, zR_k hR zKeep_0⟩))))))
  obtain ⟨r, hr⟩ := Int.eq_ofNat_of_zero_le hb.1
  subst hr
  refine sp140 (d := d + 7) r5.1 hT hn hRr hm (fun W z w1 w2 w3 w4 => ?_)
  have hW := zKeep_x (zOff_w w1 (show 89 ≤ 94 by omega) (show 115 ≤ 118 by omega))
  have e143 : z_up W 141 0 0 143 = V 143 := by rw [z_up_cell (by decide), w1 143 (by omega)]
  obtain ⟨wr, wr2⟩ := w3.2 r (by omega)
  refine z_gp (by omega) (z_all ?_)
  rw [Int.toNat_natCast, wr, z_sub_e (by omega)]
  refine zb228_141 _ (z_all (sp156 (d := d + 13) (n := R) (by rw [e143]; exact hRr) R6 (fun _ => z_ifn (by decide) ?_) (fun h => absurd (by omega) h)))
  refine sp201 (d := d + 8) hT e143 hn hRr hm (fun X x1 x2 => ?_)
  refine sp226 (d := d + 10) hT x2 rfl hlb (fun a ha => (zAk_lt hT hn hm ha).1) (fun Y y y1 y2 y3 y4 => ?_)
  have hY := zKeep_t hW (zKeep_t zKeep_0 (zKeep_t (zKeep_m x1 (Or.inr (by omega)) (by omega)) (zKeep_m y1 (Or.inr (by omega)) (by omega))))
  have yr := (y3.2 r (by omega)).1
  refine z_ifn (by have := y4.1; omega) (z_gp (by omega) (z_all ?_))
  rw [Int.toNat_natCast, yr]
  refine z_ifc (fun c => ⟨by rw [if_pos c], zR_k hR hY⟩) (fun c => z_gp (by omega) (z_all ?_))
  rw [z_sub_e (by omega), if_neg c]
  exact ⟨rfl, zR_k hR hY⟩
end
