/-! more questions: best, built, counts, sorting, toes -/
theorem zR_m {V W : z_M} {Λ : Nat → (Nat → Int) → Int} (r1 : zT 37 (V 143) V Λ) (r3 : zRi V 0 54 0) (r4 : zRi V 1 70 5490) (r5 : zRm V) (h : ∀ a, zKc a → ¬ a = 119 → ¬ a = 120 → ¬ a = 123 → ¬ a = 124 → W a = V a) (hf : ∀ k, zKf k → W 141 k = V 141 k) (hc : zRc W Λ) : zR W := by
  have c : ∀ a, zKc a → ¬ a = 119 → ¬ a = 120 → ¬ a = 123 → ¬ a = 124 → W a = V a := h
  have e0 := c 0 (by unfold zKc; omega) (by omega) (by omega) (by omega) (by omega)
  refine ⟨⟨Λ, ?_, hc⟩, ?_, ?_, ?_⟩
  · rw [c 143 (by unfold zKc; omega) (by omega) (by omega) (by omega) (by omega)]
    exact zT_c r1 e0 (fun a x y => c a (by unfold zKc; omega) (by omega) (by omega) (by omega) (by omega)) (fun a x => c a (by unfold zKc; omega) (by omega) (by omega) (by omega) (by omega))
  · obtain ⟨i1, i2, i3⟩ := r3
    unfold zRi
    rw [c 86 (by unfold zKc; omega) (by omega) (by omega) (by omega) (by omega), c 145 (by unfold zKc; omega) (by omega) (by omega) (by omega) (by omega), c 144 (by unfold zKc; omega) (by omega) (by omega) (by omega) (by omega)]
    refine ⟨i1, i2, fun q => ?_⟩
    obtain ⟨Λ, hT⟩ := i3 q
    exact ⟨Λ, zT_c hT e0 (fun a x y => c a (by unfold zKc; omega) (by omega) (by omega) (by omega) (by omega)) (fun a x => c a (by unfold zKc; omega) (by omega) (by omega) (by omega) (by omega))⟩
  · obtain ⟨i1, i2, i3⟩ := r4
    unfold zRi
    rw [c 86 (by unfold zKc; omega) (by omega) (by omega) (by omega) (by omega), c 145 (by unfold zKc; omega) (by omega) (by omega) (by omega) (by omega), c 144 (by unfold zKc; omega) (by omega) (by omega) (by omega) (by omega)]
    refine ⟨i1, i2, fun q => ?_⟩
    obtain ⟨Λ, hT⟩ := i3 q
    exact ⟨Λ, zT_c hT e0 (fun a x y => c a (by unfold zKc; omega) (by omega) (by omega) (by omega) (by omega)) (fun a x => c a (by unfold zKc; omega) (by omega) (by omega) (by omega) (by omega))⟩
  · obtain ⟨m1, m2, m3, m4, m5, m6, m7, m8, m9⟩ := r5
    have c2 : ∀ a, (a = 36 ∨ a = 87 ∨ a = 88 ∨ a = 134 ∨ a = 140 ∨ a = 142 ∨ a = 146 ∨ a = 152 ∨ a = 168) → W a = V a := fun a x => c a (by unfold zKc; omega) (by omega) (by omega) (by omega) (by omega)
    unfold zRm
    rw [c2 87 (by omega), c2 88 (by omega), c2 36 (by omega), c2 140 (by omega), c2 142 (by omega), c2 134 (by omega), c2 146 (by omega), c2 168 (by omega), c2 152 (by omega), e0, hf 8 (by unfold zKf; omega), hf 6 (by unfold zKf; omega), hf 13 (by unfold zKf; omega), hf 1 (by unfold zKf; omega), hf 55 (by unfold zKf; omega)]
    refine ⟨fun a x y => by rw [c a (by unfold zKc; omega) (by omega) (by omega) (by omega) (by omega)]; exact m1 a x y, m2, m3, m4, m5, m6, ⟨m7.1, m7.2.1, m7.2.2.1, fun w i hw hi => ?_⟩, m8, m9⟩
    rw [c (136 + w) (by unfold zKc; omega) (by omega) (by omega) (by omega) (by omega)]
    exact m7.2.2.2 w i hw hi
section
variable {d : Nat} {Q : Int → z_M → Prop}
theorem cm_best {V : z_M} (hR : zR V) (a : Int) (ha : a < 2147483648) : zPr (d + 19) 115 233 [.inl a] V := by
  have hR2 := hR
  obtain ⟨⟨Λ, hT, hc⟩, r3, r4, r5⟩ := hR2
  obtain ⟨n, R, m, hn, hRr, hm, n12, R6, m7⟩ := zR_nat hT
  have a0 := zT_0 hT
  have a1 := zT_1 hT
  have a4 := zT_4 hT
  obtain ⟨k1, k2⟩ := hc n R m hn hRr hm
  refine sp115 (d := d + 1) r5.1 hT hn hRr hm ha k1 (fun W w1 w2 w3 => ?_)
  have e143 : W 143 = V 143 := w1 143 (by omega)
  have hRW : zR W := by
    refine zR_m hT r3 r4 r5 (fun b x _ _ _ _ => w1 b (by unfold zKc at x; omega)) (fun k _ => by rw [w1 141 (by omega)]) (fun n' R' m' p1 p2 p3 => ?_)
    rw [e143] at p1 p2 p3
    have : n' = n := by omega
    subst this
    have : R' = R := by omega
    subst this
    have : m' = m := by omega
    subst this
    rw [e143]
    refine ⟨Or.inr ⟨w2, w3⟩, ?_⟩
    unfold zSx at k2 ⊢
    rw [w1 123 (by omega), w1 124 (by omega)]
    exact k2
  refine sp233 (d := d + 10) hT e143 hn hRr hm (fun X x1 => ⟨?_, zR_k hRW (zKeep_t zKeep_0 (zKeep_m x1 (Or.inr (by omega)) (by omega)))⟩)
  exact zAn_e
theorem cm_built {V : z_M} (hR : zR V) (a : Int) (ha : a < 2147483648) : zPr (d + 19) 116 235 [.inl a] V := by
  have hR2 := hR
  obtain ⟨⟨Λ, hT, hc⟩, r3, r4, r5⟩ := hR2
  obtain ⟨n, R, m, hn, hRr, hm, n12, R6, m7⟩ := zR_nat hT
  have a0 := zT_0 hT
  have a1 := zT_1 hT
  have a4 := zT_4 hT
  obtain ⟨k1, k2⟩ := hc n R m hn hRr hm
  refine sp116 (d := d + 2) hT hn hRr hm ha k2 (fun W w1 w2 => ?_)
  have e143 : W 143 = V 143 := w1 143 (by omega) (by omega)
  have hRW : zR W := by
    refine zR_m hT r3 r4 r5 (fun b x _ _ _ _ => w1 b (by unfold zKc at x; omega) (by unfold zKc at x; omega)) (fun k _ => by rw [w1 141 (by omega) (by omega)]) (fun n' R' m' p1 p2 p3 => ?_)
    rw [e143] at p1 p2 p3
    have : n' = n := by omega
    subst this
    have : R' = R := by omega
    subst this
    have : m' = m := by omega
    subst this
    rw [e143]
    refine ⟨?_, w2⟩
    unfold zSx at k1 ⊢
    rw [w1 119 (by omega) (by omega), w1 120 (by omega) (by omega)]
    exact k1
  exact sp235 (d := d + 9) hT e143 hn hRr hm (fun X x1 => ⟨rfl, zR_k hRW (zKeep_t zKeep_0 (zKeep_m x1 (Or.inr (by omega)) (by omega)))⟩)
theorem cm_torn {V : z_M} (hR : zR V) : zPr (d + 2) 101 169 [] V := by
  have hR2 := hR
  obtain ⟨⟨Λ, hT, hc⟩, r3, r4, r5⟩ := hR2
  obtain ⟨n, R, m, hn, hRr, hm, n12, R6, m7⟩ := zR_nat hT
  have a0 := zT_0 hT
  have a1 := zT_1 hT
  have a4 := zT_4 hT
  refine zb101_36 (zb169_141 (z_all ⟨?_, zR_k hR zKeep_0⟩))
  exact r5.2.2.1.symm
theorem cm_fault {V : z_M} (hR : zR V) : zPr (d + 2) 103 180 [] V := by
  have hR2 := hR
  obtain ⟨⟨Λ, hT, hc⟩, r3, r4, r5⟩ := hR2
  obtain ⟨n, R, m, hn, hRr, hm, n12, R6, m7⟩ := zR_nat hT
  have a0 := zT_0 hT
  have a1 := zT_1 hT
  have a4 := zT_4 hT
  refine zb103_36 (zb180_141 (z_all ⟨?_, zR_k hR zKeep_0⟩))
  exact r5.2.2.2.1.symm
theorem cm_status {V : z_M} (hR : zR V) : zPr (d + 2) 129 248 [] V := by
  have hR2 := hR
  obtain ⟨⟨Λ, hT, hc⟩, r3, r4, r5⟩ := hR2
  obtain ⟨n, R, m, hn, hRr, hm, n12, R6, m7⟩ := zR_nat hT
  have a0 := zT_0 hT
  have a1 := zT_1 hT
  have a4 := zT_4 hT
  refine zb129_36 (zb248_141 (z_all ⟨?_, zR_k hR zKeep_0⟩))
  exact r5.2.2.2.2.1.symm
theorem cm_drawn {V : z_M} (hR : zR V) (i w : Int) : zPr (d + 4) 125 246 [.inl i, .inl w] V := by
  have hR2 := hR
  obtain ⟨⟨Λ, hT, hc⟩, r3, r4, r5⟩ := hR2
  obtain ⟨n, R, m, hn, hRr, hm, n12, R6, m7⟩ := zR_nat hT
  have a0 := zT_0 hT
  have a1 := zT_1 hT
  have a4 := zT_4 hT
  obtain ⟨m1, m2, m3, m4, m5, m6, ⟨q1, q2, q3, q4⟩, m8, m9⟩ := r5
  have no : ¬ ((0 ≤ i ∧ i < V 134 1) ∧ 0 ≤ w ∧ w ≤ 2) → z_MS (d + 4) 246 true [.inr (.inr 141), .inl i, .inl w] V (fun z2 X => z2 = -1 ∧ zR X) := by
    intro hno
    refine zb246_141 _ _ (z_all ?_)
    rw [show z_up V 141 0 0 141 55 = V 141 55 from rfl, z_lsub_e (by omega)]
    exact sp145 (d := d + 2) (fun h1 => z_ifn (by decide) (sp145 (d := d + 2) (fun h2 => absurd ⟨by omega, h2⟩ hno) (fun _ => z_ifp rfl ⟨rfl, zR_k hR zKeep_0⟩))) (fun _ => z_ifp rfl ⟨rfl, zR_k hR zKeep_0⟩)
  refine zb125_36 _ _ ?_
  rw [z_sub_e (by omega)]
  refine sp133 (d := d + 2) (fun h1 => z_ifn (by decide) (sp133 (d := d + 2) (fun h2 => z_ifn (by decide) ?_) (fun _ => z_ifp rfl (no (by omega))))) (fun _ => z_ifp rfl (no (by omega)))
  obtain ⟨i, rfl⟩ := Int.eq_ofNat_of_zero_le h1.1
  obtain ⟨w, rfl⟩ := Int.eq_ofNat_of_zero_le h2.1
  refine z_gp (by omega) (z_all ?_)
  rw [Int.toNat_natCast, zr135 (by omega), (zk135 (V := V) (r := w) (by omega)).2.2]
  refine z_gp (zk135 (V := V) (r := w) (by omega)).1 (z_gp (by omega) (z_all ?_))
  rw [Int.toNat_natCast, q4 w i (by omega) (by omega)]
  refine zb246_141 _ _ (z_all ?_)
  rw [show z_up V 141 0 0 141 55 = V 141 55 from rfl, z_lsub_e (by omega)]
  have e : z_add (z_mul 3 (i : Int)) (w : Int) = ((3 * i + w : Nat) : Int) := by simp (disch := omega) only [z_mul_e, z_add_e, z_sub_e]; omega
  rw [e]
  refine sp145 (d := d + 2) (fun _ => z_ifn (by decide) (sp145 (d := d + 2) (fun _ => z_ifn (by decide) (z_gp (by omega) (z_all ⟨?_, zR_k hR zKeep_0⟩))) (fun h => absurd h2 h))) (fun h => absurd (by omega) h)
  rw [Int.toNat_natCast, z_up_cell (by decide)]
theorem cm_of {V : z_M} (hR : zR V) (t w : Int) : zPr (d + 10) 94 163 [.inl t, .inl w] V := by
  have hR2 := hR
  obtain ⟨⟨Λ, hT, hc⟩, r3, r4, r5⟩ := hR2
  obtain ⟨n, R, m, hn, hRr, hm, n12, R6, m7⟩ := zR_nat hT
  have a0 := zT_0 hT
  have a1 := zT_1 hT
  have a4 := zT_4 hT
  have no : ¬ ((0 ≤ t ∧ t < (n : Int)) ∧ 0 ≤ w ∧ w ≤ 4) → z_MS (d + 10) 163 true [.inr (.inr 141), .inl t, .inl w] V (fun z2 X => z2 = -1 ∧ zR X) := by
    intro hno
    refine zb163_141 _ _ (z_all ?_)
    exact sp155 (d := d + 7) (n := n) (by rw [z_up_cell (by decide)]; exact hn) n12 (fun h1 => z_ifn (by decide) (sp145 (d := d + 8) (fun h2 => absurd ⟨h1, h2⟩ hno) (fun _ => z_ifp rfl ⟨rfl, zR_k hR zKeep_0⟩))) (fun _ => z_ifp rfl ⟨rfl, zR_k hR zKeep_0⟩)
  have yes : ∀ (t : Nat) (zz : Int), t < n → (0 ≤ w ∧ w ≤ 4) → (w = 4 → zz = zLE (V 143) (fun t => t) (t + 1)) → (¬ w = 4 → zz = V 143 (8 + 4 * t + w.toNat)) → z_MS (d + 10) 163 true [.inr (.inr 141), .inl (t : Int), .inl w] V (fun z2 X => z2 = zz ∧ zR X) := by
    intro t zz ht hw z4 z5
    have e143 : z_up V 141 0 0 143 = V 143 := z_up_cell (by decide)
    refine zb163_141 _ _ (z_all ?_)
    refine sp155 (d := d + 7) (n := n) (by rw [e143]; exact hn) n12 (fun _ => z_ifn (by decide) (sp145 (d := d + 8) (fun _ => z_ifn (by decide) ?_) (fun h => absurd hw h))) (fun h => absurd (by omega) h)
    refine sp201 (d := d + 2) hT e143 hn hRr hm (fun X x1 x2 => ?_)
    have hX := zR_k hR (zKeep_t zKeep_0 (zKeep_m x1 (Or.inr (by omega)) (by omega)))
    refine z_ifc (fun c => z_gp (by omega) (z_all ⟨?_, hX⟩)) (fun c => ?_)
    · rw [Int.toNat_natCast, x2.2.2.2.2.1 t ht, z4 c]
    · obtain ⟨w', rfl⟩ := Int.eq_ofNat_of_zero_le hw.1
      refine sp157 (d := d + 8) (by omega) (by omega) ⟨?_, hX⟩
      rw [x2.1, z5 c, Int.toNat_natCast]
  refine zb94_36 _ _ (sp75 (d := d + 7) (by omega) (fun h1 => z_ifn (by decide) (sp133 (d := d + 8) (fun h2 => z_ifn (by decide) ?_) (fun _ => z_ifp rfl (no (by omega))))) (fun _ => z_ifp rfl (no (by omega))))
  obtain ⟨t, rfl⟩ := Int.eq_ofNat_of_zero_le h1.1
  refine z_ifc (fun c => sp83 (d := d + 8) hT hn (by omega) (yes t _ (by omega) h2 (fun _ => rfl) (fun q => absurd c q))) (fun c => ?_)
  obtain ⟨w, rfl⟩ := Int.eq_ofNat_of_zero_le h2.1
  have pt := zT_t hT (t := t) (by omega)
  refine z_gp (by omega) (z_all ?_)
  rw [Int.toNat_natCast, zr38 (by omega), (zk38 (V := V) (r := w) (by omega)).2.2]
  refine z_gp (zk38 (V := V) (r := w) (by omega)).1 (z_gp (by omega) (z_all ?_))
  rw [Int.toNat_natCast]
  refine yes t _ (by omega) h2 (fun q => absurd q c) (fun _ => ?_)
  rw [Int.toNat_natCast]
  have hw : w = 0 ∨ w = 1 ∨ w = 2 ∨ w = 3 := by omega
  rcases hw with rfl | rfl | rfl | rfl
  · exact pt.1
  · rw [show 8 + 4 * t + 1 = 9 + 4 * t by omega]; exact pt.2.1
  · rw [show 8 + 4 * t + 2 = 10 + 4 * t by omega]; exact pt.2.2.1
  · rw [show 8 + 4 * t + 3 = 11 + 4 * t by omega]; exact pt.2.2.2.1
end
