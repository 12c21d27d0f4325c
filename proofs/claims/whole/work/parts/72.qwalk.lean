/-! questions of walking -/
section
variable {d : Nat} {Q : Int → z_M → Prop}
theorem zSe_13 {n p : Nat} {adj : Nat → Nat → Bool} {op : Nat → Bool} (hn : n ≤ 12) (hop : ∀ p, n < p → op p = false) : zSe (n + 1) adj op 0 13 p = zSe (n + 1) adj op 0 12 p := by
  rw [zSe_s]
  have : zLa (n + 1) adj op 0 (12 + 1) p = false := by
    cases hc : zLa (n + 1) adj op 0 (12 + 1) p with
    | false => rfl
    | true =>
      have h1 := zLa_lt hop (Nat.zero_le n) hc
      rw [zLa_N (by omega) (by omega) h1] at hc
      exact absurd hc (by decide)
  rw [this, Bool.or_false]
theorem cm_comes {V : z_M} (hR : zR V) (b : Int) : zPr (d + 12) 106 210 [.inl b] V := by
  have hR2 := hR
  obtain ⟨⟨Λ, hT, hc⟩, r3, r4, r5⟩ := hR2
  obtain ⟨n, R, m, hn, hRr, hm, n12, R6, m7⟩ := zR_nat hT
  have a0 := zT_0 hT
  have a1 := zT_1 hT
  have a4 := zT_4 hT
  have no : ¬ (0 ≤ b ∧ b < (R : Int)) → z_MS (d + 12) 210 true [.inr (.inr 141), .inl b] V (fun z2 X => z2 = -1 ∧ zR X) := by
    intro hno
    refine zb210_141 _ (z_all (sp156 (d := d + 9) (n := R) (by rw [z_up_cell (by decide)]; exact hRr) R6 (fun h2 => absurd h2 hno) (fun h2 => z_ifp rfl ⟨rfl, zR_k hR zKeep_0⟩)))
  refine zb106_36 _ (sp76 (d := d + 9) (by omega) (fun h2 => z_ifn (by decide) ?_) (fun h2 => z_ifp rfl (no (by omega))))
  obtain ⟨r, hr⟩ := Int.eq_ofNat_of_zero_le h2.1
  subst hr
  refine sp138 (d := d + 5) r5.1 hT (by omega) hn hRr (fun W w1 w2 w3 => ?_)
  obtain ⟨m1, m2⟩ := w2.2.2.2 r (by omega) (by simp)
  refine sp53 (d := d + 9) (op := zOp n (zCR (V 143) Λ (fun t => t) r) (zG0 (V 143) (fun t => t))) w2.1 n12 (by omega) m1 w3.1 (fun _ => rfl) (fun q hq => (m2 q hq).1) (fun z hz => ?_)
  have hW := zKeep_x (zOff_w w1 (show 89 ≤ 94 by omega) (show 115 ≤ 118 by omega))
  have e143 : z_up W 141 0 0 143 = V 143 := by rw [z_up_cell (by decide), w1 143 (by omega)]
  refine zb210_141 _ (z_all (sp156 (d := d + 9) (n := R) (by rw [e143]; exact hRr) R6 (fun _ => z_ifn (by decide) ?_) (fun h => absurd (by omega) h)))
  refine sp201 (d := d + 4) hT e143 hn hRr hm (fun X x1 x2 => ?_)
  have hlb : ∀ p, p ≤ n → 0 ≤ zLE (V 143) (fun t => t) p ∧ zLE (V 143) (fun t => t) p ≤ 108 := fun p hp => zLE_b hT hn (fun t ht => ht) hp
  have hFS := zMC_fs hT x2 (r := r) (by omega) rfl hlb
  refine sp208 (d := d + 10) (by omega) ?_
  refine sp207 (d := d + 8) (s := 0) (op := zOp n (zCR (V 143) Λ (fun t => t) r) (zG0 (V 143) (fun t => t))) hFS (Nat.zero_le n) (zBS_andn (x2.2.2.2.2.2.1 r (by omega)) x2.2.2.2.2.2.2.2) (fun q => zOp_m q) (fun Y y1 y2 => ?_)
  have lp : ∀ (k i : Nat) (z3 : Int) (o1 : Option z_V), i + k = n → zBS z3 (fun t => decide (t < i) && !decide (zDi (n + 1) (zAd n (zLE (V 143) (fun t => t)) (zSR (V 143) r) (zSR (V 143) r + V 143 7)) (zOp n (zCR (V 143) Λ (fun t => t) r) (zG0 (V 143) (fun t => t))) 0 (t + 1) = -1)) → z_Ex (z_MS (d + 11)) 210 (fun z2 X => z2 = z_shr z 1 ∧ zR X) true 34 [some (.inr (.inr 141)), o1, some (.inl z3), some (.inl (i : Int))] [] 0 0 Y := by
    intro k
    induction k with
    | zero =>
      intro i z3 o1 e hz3
      have e2 : i = n := by omega
      subst e2
      refine zb210_141_p34 _ _ _ (sp154 (d := d + 10) ?_)
      rw [y1 143 (by decide), x2.1, hn]
      refine z_ifn (by omega) ⟨zBS_ext hz3 (zBS_shr hz) (fun k => ?_), zR_k hR (zKeep_t hW (zKeep_t zKeep_0 (zKeep_t (zKeep_m x1 (Or.inr (by omega)) (by omega)) (zKeep_m (k1 := 26) (k2 := 26) (lo := 159) (hi := 159) ⟨fun a x y => y1 a (by omega), fun k _ => by rw [y1 141 (by decide)]⟩ (Or.inr (by omega)) (by omega)))))⟩
      rw [zSe_13 n12 (fun p hp => zOp_hi hp)]
      by_cases hk : k < i
      · have hd := zDi_se (adj := zAd i (zLE (V 143) (fun t => t)) (zSR (V 143) r) (zSR (V 143) r + V 143 7)) (op := zOp i (zCR (V 143) Λ (fun t => t) r) (zG0 (V 143) (fun t => t))) (p := k + 1) (show 0 < i + 1 by omega) (by omega) (by omega)
        cases hs : zSe (i + 1) (zAd i (zLE (V 143) (fun t => t)) (zSR (V 143) r) (zSR (V 143) r + V 143 7)) (zOp i (zCR (V 143) Λ (fun t => t) r) (zG0 (V 143) (fun t => t))) 0 12 (k + 1) with
        | false => rw [hd.mpr hs]; simp
        | true =>
          have : ¬ zDi (i + 1) (zAd i (zLE (V 143) (fun t => t)) (zSR (V 143) r) (zSR (V 143) r + V 143 7)) (zOp i (zCR (V 143) Λ (fun t => t) r) (zG0 (V 143) (fun t => t))) 0 (k + 1) = -1 := fun q => by rw [hd.mp q] at hs; exact absurd hs (by decide)
          simp [hk, this]
      · have : zSe (i + 1) (zAd i (zLE (V 143) (fun t => t)) (zSR (V 143) r) (zSR (V 143) r + V 143 7)) (zOp i (zCR (V 143) Λ (fun t => t) r) (zG0 (V 143) (fun t => t))) 0 12 (k + 1) = false := by
          cases hs : zSe (i + 1) (zAd i (zLE (V 143) (fun t => t)) (zSR (V 143) r) (zSR (V 143) r + V 143 7)) (zOp i (zCR (V 143) Λ (fun t => t) r) (zG0 (V 143) (fun t => t))) 0 12 (k + 1) with
          | false => rfl
          | true =>
            obtain ⟨j, _, hl⟩ := zSe_la.mp hs
            have := zLa_lt (fun p hp => zOp_hi hp) (Nat.zero_le i) hl
            omega
        rw [this]
        simp [hk]
    | succ k ih =>
      intro i z3 o1 e hz3
      refine zb210_141_p34 _ _ _ (sp154 (d := d + 10) ?_)
      rw [y1 143 (by decide), x2.1, hn, z_inc (by omega)]
      refine z_ifp (by omega) (z_gp (by omega) (z_all ?_))
      rw [Int.toNat_natCast, y2 (i + 1) (by omega)]
      by_cases c : zDi (n + 1) (zAd n (zLE (V 143) (fun t => t)) (zSR (V 143) r) (zSR (V 143) r + V 143 7)) (zOp n (zCR (V 143) Λ (fun t => t) r) (zG0 (V 143) (fun t => t))) 0 (i + 1) = -1
      · rw [if_pos c]
        exact ih (i + 1) _ _ (by omega) (zBS_ex0 (zBS_c (zBS_or hz3 zBS_0) (fun k => Bool.or_false _)) (by simp [c]))
      · rw [if_neg c]
        exact ih (i + 1) _ _ (by omega) (zBS_ex1 hz3 (by simp [c]) (by omega))
  exact lp n 0 0 _ (by omega) zBS_e0
theorem cm_way {V : z_M} (hR : zR V) (b t i : Int) (hi : -2147483648 ≤ i ∧ i < 2147483648) : zPr (d + 14) 107 212 [.inl b, .inl t, .inl i] V := by
  have hR2 := hR
  obtain ⟨⟨Λ, hT, hc⟩, r3, r4, r5⟩ := hR2
  obtain ⟨n, R, m, hn, hRr, hm, n12, R6, m7⟩ := zR_nat hT
  have a0 := zT_0 hT
  have a1 := zT_1 hT
  have a4 := zT_4 hT
  have no : ¬ ((0 ≤ b ∧ b < (R : Int)) ∧ 0 ≤ t ∧ t < (n : Int)) → z_MS (d + 14) 212 true [.inr (.inr 141), .inl b, .inl t, .inl i] V (fun z2 X => z2 = -1 ∧ zR X) := by
    intro hno
    refine zb212_141 _ _ _ (z_all (sp156 (d := d + 11) (n := R) (by rw [z_up_cell (by decide)]; exact hRr) R6 (fun h1 => z_ifn (by decide) (sp155 (d := d + 11) (n := n) (by rw [z_up_cell (by decide)]; exact hn) n12 (fun h2 => absurd ⟨h1, h2⟩ hno) (fun h2 => z_ifp rfl ⟨rfl, zR_k hR zKeep_0⟩))) (fun h2 => z_ifp rfl ⟨rfl, zR_k hR zKeep_0⟩)))
  refine zb107_36 _ _ _ (sp76 (d := d + 11) (by omega) (fun h2 => z_ifn (by decide) (sp75 (d := d + 11) (by omega) (fun h1 => z_ifn (by decide) ?_) (fun h1 => z_ifp rfl (no (by omega))))) (fun h2 => z_ifp rfl (no (by omega))))
  obtain ⟨r, hr⟩ := Int.eq_ofNat_of_zero_le h2.1
  subst hr
  obtain ⟨t, ht⟩ := Int.eq_ofNat_of_zero_le h1.1
  subst ht
  have hlb : ∀ p, p ≤ n → 0 ≤ zLE (V 143) (fun t => t) p ∧ zLE (V 143) (fun t => t) p ≤ 108 := fun p hp => zLE_b hT hn (fun t ht => ht) hp
  refine sp138 (d := d + 7) r5.1 hT (by omega) hn hRr (fun W w1 w2 w3 => ?_)
  obtain ⟨m1, m2⟩ := w2.2.2.2 r (by omega) (by simp)
  rw [z_inc (by omega)]
  -- the reference, by what the class has found
  have ref : ∀ (X : z_M) (zz : Int), zKeep V X → X 143 = V 143 →
      (zDi (n + 1) (zAd n (zLE (V 143) (fun t => t)) (zSR (V 143) r) (zSR (V 143) r + V 143 7)) (zOp n (zCR (V 143) Λ (fun t => t) r) (zG0 (V 143) (fun t => t))) 0 (t + 1) = -1 → zz = -1) →
      (∀ D : Nat, zDi (n + 1) (zAd n (zLE (V 143) (fun t => t)) (zSR (V 143) r) (zSR (V 143) r + V 143 7)) (zOp n (zCR (V 143) Λ (fun t => t) r) (zG0 (V 143) (fun t => t))) 0 (t + 1) = (D : Int) → zz = if i = -1 then (D : Int) else if 0 ≤ i ∧ i < (D : Int) then (zWy (n + 1) (zAd n (zLE (V 143) (fun t => t)) (zSR (V 143) r) (zSR (V 143) r + V 143 7)) (zOp n (zCR (V 143) Λ (fun t => t) r) (zG0 (V 143) (fun t => t))) D (t + 1) (i.toNat + 1) : Int) - 1 else -1) →
      z_MS (d + 14) 212 true [.inr (.inr 141), .inl (r : Int), .inl (t : Int), .inl i] X (fun z2 Y => z2 = zz ∧ zR Y) := by
    intro X zz hX hX143 z0 z1
    have e143 : z_up X 141 0 0 143 = V 143 := by rw [z_up_cell (by decide), hX143]
    refine zb212_141 _ _ _ (z_all (sp156 (d := d + 11) (n := R) (by rw [e143]; exact hRr) R6 (fun _ => z_ifn (by decide) (sp155 (d := d + 11) (n := n) (by rw [e143]; exact hn) n12 (fun _ => z_ifn (by decide) ?_) (fun h => absurd (by omega) h))) (fun h => absurd (by omega) h)))
    refine sp201 (d := d + 6) hT e143 hn hRr hm (fun Y x1 x2 => ?_)
    have hY := zKeep_t hX (zKeep_t zKeep_0 (zKeep_m x1 (Or.inr (by omega)) (by omega)))
    have st : ((t + 1 - 1 : Nat) : Int) = (t : Int) := by omega
    rw [← st]
    refine sp211 (d := d + 8) (gl := t + 1) hT x2 rfl hlb (by omega) (by omega) (by omega) (fun q Z z2 => ?_) (fun D q hD1 hD2 Z z2 z3 => ?_)
    · have hz := z0 q
      have hZ := zKeep_t hY (zKeep_m z2 (Or.inr (by omega)) (by omega))
      refine z_ifc (fun _ => ⟨hz.symm, zR_k hR hZ⟩) (fun c => ?_)
      rw [z_lsub_e (by omega)]
      refine sp145 (d := d + 12) (fun h => absurd h (by omega)) (fun _ => z_ifp rfl ⟨hz.symm, zR_k hR hZ⟩)
    · have hz := z1 D q
      have hZ := zKeep_t hY (zKeep_m z2 (Or.inr (by omega)) (by omega))
      refine z_ifc (fun c => ⟨by rw [hz, if_pos c], zR_k hR hZ⟩) (fun c => ?_)
      rw [z_lsub_e (by omega)]
      refine sp145 (d := d + 12) (fun h => z_ifn (by decide) (z_gp (by omega) (z_all ⟨?_, zR_k hR hZ⟩))) (fun h => z_ifp rfl ⟨by rw [hz, if_neg c, if_neg (by omega)], zR_k hR hZ⟩)
      rw [hz, if_neg c, if_pos (by omega), z3 i.toNat (by omega)]
  refine sp56 (d := d + 10) (gl := t + 1) (op := zOp n (zCR (V 143) Λ (fun t => t) r) (zG0 (V 143) (fun t => t))) w2.1 n12 (by omega) (by omega) (by omega) m1 w3.1 (fun _ => rfl) (fun q hq => (m2 q hq).1) (fun q p hp => zAd_hi hp) (fun p hp => zOp_hi hp) (fun q X x1 => ?_) (fun D q hD1 hD2 X x1 x2 => ?_)
  · have hX : zKeep V X := zKeep_x (zOff_t (zOff_w w1 (show 89 ≤ 94 by omega) (show 115 ≤ 118 by omega)) (zOff_w x1 (show 89 ≤ 114 by omega) (show 116 ≤ 118 by omega)))
    have h143 : X 143 = V 143 := by rw [x1 143 (by omega), w1 143 (by omega)]
    refine z_ifc (fun c => ref X _ hX h143 (fun _ => rfl) (fun D q2 => by omega)) (fun c => ?_)
    rw [z_sub_e (by omega)]
    exact sp133 (d := d + 12) (fun h => absurd h (by omega)) (fun _ => z_ifp rfl (ref X _ hX h143 (fun _ => rfl) (fun D q2 => by omega)))
  · have hX : zKeep V X := zKeep_x (zOff_t (zOff_w w1 (show 89 ≤ 94 by omega) (show 115 ≤ 118 by omega)) (zOff_w x1 (show 89 ≤ 114 by omega) (show 116 ≤ 118 by omega)))
    have h143 : X 143 = V 143 := by rw [x1 143 (by omega), w1 143 (by omega)]
    refine z_ifc (fun c => ref X _ hX h143 (fun q2 => by omega) (fun D2 q2 => by rw [if_pos c]; omega)) (fun c => ?_)
    rw [z_sub_e (by omega)]
    refine sp133 (d := d + 12) (fun h => z_ifn (by decide) (z_gp (by omega) (z_all (ref X _ hX h143 (fun q2 => by omega) (fun D2 q2 => ?_))))) (fun h => z_ifp rfl (ref X _ hX h143 (fun _ => rfl) (fun D2 q2 => by rw [if_neg c, if_neg (by omega)])))
    have : D2 = D := by omega
    subst this
    rw [if_neg c, if_pos (by omega), x2 i.toNat (by omega)]
end
