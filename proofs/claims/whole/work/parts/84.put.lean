/-! put, turn, terms, force -/
section
variable {d : Nat} {Q : Int → z_M → Prop}
theorem sp136v {V : z_M} {c a N : Nat} {v : Int} (h1 : z_kd c = 101) (h2 : 36 ≤ c) (h3 : ∀ V, z_len' V c = (N : Int)) (ha : a < N) (h : Q (V c a) (z_up V c a v)) : z_MS (d + 1) 136 true [.inr (.inr c), .inl (a : Int), .inl v] V Q := by
  refine zb136_v _ _ _ (z_gp h1 (z_gp (by rw [h3]; omega) (z_all (z_gp ⟨h1, h2⟩ (z_gp (by rw [h3]; omega) (z_all ?_))))))
  rw [Int.toNat_natCast]
  exact h
theorem cm_put {V : z_M} (hR : zR V) (t w v : Int) : zPr (d + 6) 93 162 [.inl t, .inl w, .inl v] V := by
  have hR2 := hR
  obtain ⟨⟨Λ, hT, hc⟩, r3, r4, r5⟩ := hR2
  obtain ⟨n, R, m, hn, hRr, hm, n12, R6, m7⟩ := zR_nat hT
  have a0 := zT_0 hT
  have a1 := zT_1 hT
  have a4 := zT_4 hT
  have b2 := zT_2 hT
  have b3 := zT_3 hT
  have b5 := zT_5 hT
  have b6 := zT_6 hT
  have b7 := zT_7 hT
  have e7 : V 37 7 = (n : Int) := by omega
  have rj : ∀ e : Int, -6 ≤ e ∧ e ≤ -1 → (¬ zBk w v ∧ e = -1) ∨ (zBk w v ∧ ¬ (0 ≤ t ∧ t < (n : Int)) ∧ e = -2) → z_MS (d + 6) 162 true [.inr (.inr 141), .inl t, .inl w, .inl v] (zRf e V) (fun z2 X => z2 = e ∧ zR X) := by
    intro e he h
    have fin := zR_rf he hR
    refine zb162_141 _ _ _ (z_all (sp159 (d := d + 3) (fun h1 => z_ifn (by decide) (sp155 (d := d + 3) (n := n) (by rw [show z_up (zRf e V) 141 0 0 143 = V 143 from rfl]; exact hn) n12 (fun h2 => ?_) (fun h2 => z_ifp rfl ?_))) (fun h1 => z_ifp rfl ?_)))
    · rcases h with ⟨h3, _⟩ | ⟨_, h3, h4⟩
      · exact absurd h1 h3
      · exact absurd h2 h3
    · rcases h with ⟨h3, _⟩ | ⟨_, h3, h4⟩
      · exact absurd h1 h3
      · subst h4; exact sp149 (d := d + 4) he ⟨rfl, fin⟩
    · rcases h with ⟨_, h4⟩ | ⟨h3, _⟩
      · subst h4; exact sp149 (d := d + 4) he ⟨rfl, fin⟩
      · exact absurd h3 h1
  refine zb93_36 _ _ _ (sp134 (d := d + 3) r5.1 (fun h1 => z_ifn (by decide) (sp75 (d := d + 3) (by omega) (fun h2 => z_ifn (by decide) ?_) (fun h2 => z_ifp rfl (sp130 (d := d + 3) (by decide) (rj _ (by decide) (Or.inr ⟨h1, fun q => h2 (by omega), rfl⟩)))))) (fun h1 => z_ifp rfl (sp130 (d := d + 3) (by decide) (rj _ (by decide) (Or.inl ⟨h1, rfl⟩)))))
  rw [e7] at h2
  have hw : 0 ≤ w ∧ w < 4 := by unfold zBk at h1; omega
  obtain ⟨w, rfl⟩ := Int.eq_ofNat_of_zero_le hw.1
  obtain ⟨t, rfl⟩ := Int.eq_ofNat_of_zero_le h2.1
  have hw : w < 4 := by omega
  have ht : t < n := by omega
  refine z_gp (by omega) (z_all ?_)
  rw [Int.toNat_natCast, zr38 hw]
  refine sp136v (d := d + 4) (c := 39 + w) (N := 12) (zk38 (V := V) hw).1 (zk38 (V := V) hw).2.1 (fun V => (zk38 hw).2.2) (by omega) (sp131 (d := d + 4) ?_)
  have pt := zT_t hT (t := t) (by omega)
  have old : V (39 + w) t = V 143 (8 + 4 * t + w) := by
    have hw4 : w = 0 ∨ w = 1 ∨ w = 2 ∨ w = 3 := by omega
    rcases hw4 with rfl | rfl | rfl | rfl
    · exact pt.1
    · rw [show 8 + 4 * t + 1 = 9 + 4 * t by omega]; exact pt.2.1
    · rw [show 8 + 4 * t + 2 = 10 + 4 * t by omega]; exact pt.2.2.1
    · rw [show 8 + 4 * t + 3 = 11 + 4 * t by omega]; exact pt.2.2.2.1
  rw [old]
  have e143 : z_up (zDn (z_up V (39 + w) t v)) 141 0 0 143 = V 143 := by simp (disch := omega) only [zDn, z_up_cell]
  refine zb162_141 _ _ _ (z_all (sp159 (d := d + 3) (fun _ => z_ifn (by decide) (sp155 (d := d + 3) (n := n) (by rw [e143]; exact hn) n12 (fun _ => z_ifn (by decide) ?_) (fun q => absurd h2 q))) (fun q => absurd h1 q)))
  have i0 : z_add (z_add 8 (z_mul 4 (t : Int))) (w : Int) = ((8 + 4 * t + w : Nat) : Int) := by simp (disch := omega) only [z_mul_e, z_add_e, z_sub_e]; omega
  rw [i0]
  refine sp151 (d := d + 3) (by omega) ⟨by rw [e143], ?_⟩
  have r0 : ∀ k, ¬ k = 8 + 4 * t + w → z_up (z_up (z_up (zDn (z_up V (39 + w) t v)) 141 0 0) 143 (8 + 4 * t + w) v) 141 1 0 143 k = V 143 k := fun k p => by simp (disch := omega) only [zDn, zUp_o, zUp_s]
  have r1 : z_up (z_up (z_up (zDn (z_up V (39 + w) t v)) 141 0 0) 143 (8 + 4 * t + w) v) 141 1 0 143 (8 + 4 * t + w) = v := by simp (disch := omega) only [zDn, zUp_o, zUp_s]
  refine zR_dn hR (Λ := Λ) ?_ (fun x hx => by unfold zKd at hx; simp (disch := omega) only [zDn, z_up_cell]) (fun k hk hk1 => by unfold zKf at hk; simp (disch := omega) only [zDn, zUp_o, zUp_s]) (by simp (disch := omega) only [zDn, zUp_o, zUp_s]) (by simp (disch := omega) only [zDn, zUp_o, zUp_s]) (by simp (disch := omega) only [zDn, zUp_o, zUp_s]) (by simp (disch := omega) only [zDn, zUp_o, zUp_s]) (by simp (disch := omega) only [zDn, zUp_o, zUp_s])
  refine zT_mk hT (fun k hk => r0 k (by omega)) (r0 2 (by omega)) (by simp (disch := omega) only [zDn, z_up_cell]) (by simp (disch := omega) only [zDn, zUp_o, zUp_s]) (by simp (disch := omega) only [zDn, z_up_cell]) (fun x hx => by simp (disch := omega) only [zDn, z_up_cell]) ⟨by rw [r0 0 (by omega), ← a0.1]; simp (disch := omega) only [zDn, zUp_o, zUp_s], by rw [r0 0 (by omega)]; exact a0.2⟩ ⟨by rw [r0 1 (by omega), ← a1.1]; simp (disch := omega) only [zDn, zUp_o, zUp_s], by rw [r0 1 (by omega)]; exact a1.2⟩ ⟨by rw [r0 3 (by omega), ← b3.1]; simp (disch := omega) only [zDn, zUp_o, zUp_s], by rw [r0 3 (by omega), r0 2 (by omega)]; exact b3.2⟩ ⟨by rw [r0 4 (by omega), ← a4.1]; simp (disch := omega) only [zDn, zUp_o, zUp_s], by rw [r0 4 (by omega)]; exact a4.2⟩ ⟨by rw [r0 5 (by omega), ← b5.1]; simp (disch := omega) only [zDn, zUp_o, zUp_s], by rw [r0 5 (by omega)]; exact b5.2⟩ ⟨by rw [r0 6 (by omega), ← b6.1]; simp (disch := omega) only [zDn, zUp_o, zUp_s], by rw [r0 6 (by omega)]; exact b6.2⟩ ⟨by rw [r0 7 (by omega), ← b7.1]; simp (disch := omega) only [zDn, zUp_o, zUp_s], by rw [r0 7 (by omega)]; exact b7.2⟩
      (fun s hs => ?_)
      (zT_cr hT (r0 1 (by omega)) (fun k p q => r0 k (by omega)) (fun x p q => by simp (disch := omega) only [zDn, z_up_cell]))
      (zT_ca hT (r0 4 (by omega)) (by rw [r0 0 (by omega)]; omega) (by rw [r0 1 (by omega)]; omega) (fun k p q => r0 k (by omega)) (fun x p q => by simp (disch := omega) only [zDn, z_up_cell]))
      (zT_co hT (r0 5 (by omega)) (fun k p q => r0 k (by omega)) (by simp (disch := omega) only [zDn, z_up_cell]))
  rw [r0 0 (by omega)] at hs
  have ps := zT_t hT hs
  by_cases es : s = t
  · subst es
    unfold zBk at h1
    have hw4 : w = 0 ∨ w = 1 ∨ w = 2 ∨ w = 3 := by omega
    rcases hw4 with rfl | rfl | rfl | rfl
    · rw [r0 (9 + 4 * s) (by omega), r0 (10 + 4 * s) (by omega), r0 (11 + 4 * s) (by omega), show z_up (z_up (z_up (zDn (z_up V (39 + 0) s v)) 141 0 0) 143 (8 + 4 * s + 0) v) 141 1 0 143 (8 + 4 * s) = v from r1]
      exact ⟨by simp (disch := omega) only [zDn, zUp_o, zUp_s], by rw [← ps.2.1]; simp (disch := omega) only [zDn, zUp_o, zUp_s], by rw [← ps.2.2.1]; simp (disch := omega) only [zDn, zUp_o, zUp_s], by rw [← ps.2.2.2.1]; simp (disch := omega) only [zDn, zUp_o, zUp_s], by omega, by omega, ps.2.2.2.2.2.2⟩
    · rw [r0 (8 + 4 * s) (by omega), r0 (10 + 4 * s) (by omega), r0 (11 + 4 * s) (by omega), show z_up (z_up (z_up (zDn (z_up V (39 + 1) s v)) 141 0 0) 143 (8 + 4 * s + 1) v) 141 1 0 143 (9 + 4 * s) = v by rw [show 9 + 4 * s = 8 + 4 * s + 1 by omega]; exact r1]
      exact ⟨by rw [← ps.1]; simp (disch := omega) only [zDn, zUp_o, zUp_s], by simp (disch := omega) only [zDn, zUp_o, zUp_s], by rw [← ps.2.2.1]; simp (disch := omega) only [zDn, zUp_o, zUp_s], by rw [← ps.2.2.2.1]; simp (disch := omega) only [zDn, zUp_o, zUp_s], by omega, by omega, by omega, by omega, ps.2.2.2.2.2.2.2.2⟩
    · rw [r0 (8 + 4 * s) (by omega), r0 (9 + 4 * s) (by omega), r0 (11 + 4 * s) (by omega), show z_up (z_up (z_up (zDn (z_up V (39 + 2) s v)) 141 0 0) 143 (8 + 4 * s + 2) v) 141 1 0 143 (10 + 4 * s) = v by rw [show 10 + 4 * s = 8 + 4 * s + 2 by omega]; exact r1]
      exact ⟨by rw [← ps.1]; simp (disch := omega) only [zDn, zUp_o, zUp_s], by rw [← ps.2.1]; simp (disch := omega) only [zDn, zUp_o, zUp_s], by simp (disch := omega) only [zDn, zUp_o, zUp_s], by rw [← ps.2.2.2.1]; simp (disch := omega) only [zDn, zUp_o, zUp_s], by omega, by omega, by omega, by omega, by omega, by omega, ps.2.2.2.2.2.2.2.2.2.2⟩
    · rw [r0 (8 + 4 * s) (by omega), r0 (9 + 4 * s) (by omega), r0 (10 + 4 * s) (by omega), show z_up (z_up (z_up (zDn (z_up V (39 + 3) s v)) 141 0 0) 143 (8 + 4 * s + 3) v) 141 1 0 143 (11 + 4 * s) = v by rw [show 11 + 4 * s = 8 + 4 * s + 3 by omega]; exact r1]
      exact ⟨by rw [← ps.1]; simp (disch := omega) only [zDn, zUp_o, zUp_s], by rw [← ps.2.1]; simp (disch := omega) only [zDn, zUp_o, zUp_s], by rw [← ps.2.2.1]; simp (disch := omega) only [zDn, zUp_o, zUp_s], by simp (disch := omega) only [zDn, zUp_o, zUp_s], by omega, by omega, by omega, by omega, by omega, by omega, by omega, by omega⟩
  · rw [r0 (8 + 4 * s) (by omega), r0 (9 + 4 * s) (by omega), r0 (10 + 4 * s) (by omega), r0 (11 + 4 * s) (by omega)]
    exact ⟨by rw [← ps.1]; simp (disch := omega) only [zDn, zUp_o, zUp_s], by rw [← ps.2.1]; simp (disch := omega) only [zDn, zUp_o, zUp_s], by rw [← ps.2.2.1]; simp (disch := omega) only [zDn, zUp_o, zUp_s], by rw [← ps.2.2.2.1]; simp (disch := omega) only [zDn, zUp_o, zUp_s], ps.2.2.2.2⟩
theorem cm_turn {V : z_M} (hR : zR V) (t w v : Int) : zPr (d + 6) 96 166 [.inl t, .inl w, .inl v] V := by
  have hR2 := hR
  obtain ⟨⟨Λ, hT, hc⟩, r3, r4, r5⟩ := hR2
  obtain ⟨n, R, m, hn, hRr, hm, n12, R6, m7⟩ := zR_nat hT
  have a0 := zT_0 hT
  have a1 := zT_1 hT
  have a4 := zT_4 hT
  have b2 := zT_2 hT
  have b3 := zT_3 hT
  have b5 := zT_5 hT
  have b6 := zT_6 hT
  have b7 := zT_7 hT
  have e8 : V 37 8 = (R : Int) := by omega
  have rj : ∀ e : Int, -6 ≤ e ∧ e ≤ -1 → (¬ zBr w v ∧ e = -1) ∨ (zBr w v ∧ ¬ (0 ≤ t ∧ t < (R : Int)) ∧ e = -2) → z_MS (d + 6) 166 true [.inr (.inr 141), .inl t, .inl w, .inl v] (zRf e V) (fun z2 X => z2 = e ∧ zR X) := by
    intro e he h
    have fin := zR_rf he hR
    refine zb166_141 _ _ _ (z_all (sp164 (d := d + 3) (fun h1 => z_ifn (by decide) (sp156 (d := d + 3) (n := R) (by rw [show z_up (zRf e V) 141 0 0 143 = V 143 from rfl]; exact hRr) R6 (fun h2 => ?_) (fun h2 => z_ifp rfl ?_))) (fun h1 => z_ifp rfl ?_)))
    · rcases h with ⟨h3, _⟩ | ⟨_, h3, h4⟩
      · exact absurd h1 h3
      · exact absurd h2 h3
    · rcases h with ⟨h3, _⟩ | ⟨_, h3, h4⟩
      · exact absurd h1 h3
      · subst h4; exact sp149 (d := d + 4) he ⟨rfl, fin⟩
    · rcases h with ⟨_, h4⟩ | ⟨h3, _⟩
      · subst h4; exact sp149 (d := d + 4) he ⟨rfl, fin⟩
      · exact absurd h3 h1
  refine zb96_36 _ _ _ (sp135 (d := d + 3) r5.1 (fun h1 => z_ifn (by decide) (sp76 (d := d + 3) (by omega) (fun h2 => z_ifn (by decide) ?_) (fun h2 => z_ifp rfl (sp130 (d := d + 3) (by decide) (rj _ (by decide) (Or.inr ⟨h1, fun q => h2 (by omega), rfl⟩)))))) (fun h1 => z_ifp rfl (sp130 (d := d + 3) (by decide) (rj _ (by decide) (Or.inl ⟨h1, rfl⟩)))))
  rw [e8] at h2
  have hw : 0 ≤ w ∧ w < 2 := by unfold zBr at h1; omega
  obtain ⟨w, rfl⟩ := Int.eq_ofNat_of_zero_le hw.1
  obtain ⟨t, rfl⟩ := Int.eq_ofNat_of_zero_le h2.1
  have hw : w < 2 := by omega
  have ht : t < R := by omega
  refine z_gp (by omega) (z_all ?_)
  rw [Int.toNat_natCast, zr43 hw]
  refine sp136v (d := d + 4) (c := 44 + w) (N := 6) (zk43 (V := V) hw).1 (zk43 (V := V) hw).2.1 (fun V => (zk43 hw).2.2) (by omega) (sp131 (d := d + 4) ?_)
  have pt := zT_r hT (r := t) (by omega)
  have old : V (44 + w) t = V 143 (56 + 2 * t + w) := by
    have hw4 : w = 0 ∨ w = 1 := by omega
    rcases hw4 with rfl | rfl
    · exact pt.1
    · rw [show 56 + 2 * t + 1 = 57 + 2 * t by omega]; exact pt.2.1
  rw [old]
  have e143 : z_up (zDn (z_up V (44 + w) t v)) 141 0 0 143 = V 143 := by simp (disch := omega) only [zDn, z_up_cell]
  refine zb166_141 _ _ _ (z_all (sp164 (d := d + 3) (fun _ => z_ifn (by decide) (sp156 (d := d + 3) (n := R) (by rw [e143]; exact hRr) R6 (fun _ => z_ifn (by decide) ?_) (fun q => absurd h2 q))) (fun q => absurd h1 q)))
  have i0 : z_add (z_add 56 (z_mul 2 (t : Int))) (w : Int) = ((56 + 2 * t + w : Nat) : Int) := by simp (disch := omega) only [z_mul_e, z_add_e, z_sub_e]; omega
  rw [i0]
  refine sp151 (d := d + 3) (by omega) ⟨by rw [e143], ?_⟩
  have r0 : ∀ k, ¬ k = 56 + 2 * t + w → z_up (z_up (z_up (zDn (z_up V (44 + w) t v)) 141 0 0) 143 (56 + 2 * t + w) v) 141 1 0 143 k = V 143 k := fun k p => by simp (disch := omega) only [zDn, zUp_o, zUp_s]
  have r1 : z_up (z_up (z_up (zDn (z_up V (44 + w) t v)) 141 0 0) 143 (56 + 2 * t + w) v) 141 1 0 143 (56 + 2 * t + w) = v := by simp (disch := omega) only [zDn, zUp_o, zUp_s]
  refine zR_dn hR (Λ := Λ) ?_ (fun x hx => by unfold zKd at hx; simp (disch := omega) only [zDn, z_up_cell]) (fun k hk hk1 => by unfold zKf at hk; simp (disch := omega) only [zDn, zUp_o, zUp_s]) (by simp (disch := omega) only [zDn, zUp_o, zUp_s]) (by simp (disch := omega) only [zDn, zUp_o, zUp_s]) (by simp (disch := omega) only [zDn, zUp_o, zUp_s]) (by simp (disch := omega) only [zDn, zUp_o, zUp_s]) (by simp (disch := omega) only [zDn, zUp_o, zUp_s])
  refine zT_mk hT (fun k hk => r0 k (by omega)) (r0 2 (by omega)) (by simp (disch := omega) only [zDn, z_up_cell]) (by simp (disch := omega) only [zDn, zUp_o, zUp_s]) (by simp (disch := omega) only [zDn, z_up_cell]) (fun x hx => by simp (disch := omega) only [zDn, z_up_cell]) ⟨by rw [r0 0 (by omega), ← a0.1]; simp (disch := omega) only [zDn, zUp_o, zUp_s], by rw [r0 0 (by omega)]; exact a0.2⟩ ⟨by rw [r0 1 (by omega), ← a1.1]; simp (disch := omega) only [zDn, zUp_o, zUp_s], by rw [r0 1 (by omega)]; exact a1.2⟩ ⟨by rw [r0 3 (by omega), ← b3.1]; simp (disch := omega) only [zDn, zUp_o, zUp_s], by rw [r0 3 (by omega), r0 2 (by omega)]; exact b3.2⟩ ⟨by rw [r0 4 (by omega), ← a4.1]; simp (disch := omega) only [zDn, zUp_o, zUp_s], by rw [r0 4 (by omega)]; exact a4.2⟩ ⟨by rw [r0 5 (by omega), ← b5.1]; simp (disch := omega) only [zDn, zUp_o, zUp_s], by rw [r0 5 (by omega)]; exact b5.2⟩ ⟨by rw [r0 6 (by omega), ← b6.1]; simp (disch := omega) only [zDn, zUp_o, zUp_s], by rw [r0 6 (by omega)]; exact b6.2⟩ ⟨by rw [r0 7 (by omega), ← b7.1]; simp (disch := omega) only [zDn, zUp_o, zUp_s], by rw [r0 7 (by omega)]; exact b7.2⟩
      (zT_ct hT (r0 0 (by omega)) (fun k p q => r0 k (by omega)) (fun x p q => by simp (disch := omega) only [zDn, z_up_cell]))
      (fun s hs => ?_)
      (zT_ca hT (r0 4 (by omega)) (by rw [r0 0 (by omega)]; omega) (by rw [r0 1 (by omega)]; omega) (fun k p q => r0 k (by omega)) (fun x p q => by simp (disch := omega) only [zDn, z_up_cell]))
      (zT_co hT (r0 5 (by omega)) (fun k p q => r0 k (by omega)) (by simp (disch := omega) only [zDn, z_up_cell]))
  rw [r0 1 (by omega)] at hs
  have ps := zT_r hT hs
  by_cases es : s = t
  · subst es
    unfold zBr at h1
    have hw4 : w = 0 ∨ w = 1 := by omega
    rcases hw4 with rfl | rfl
    · rw [r0 (57 + 2 * s) (by omega), show z_up (z_up (z_up (zDn (z_up V (44 + 0) s v)) 141 0 0) 143 (56 + 2 * s + 0) v) 141 1 0 143 (56 + 2 * s) = v from r1]
      exact ⟨by simp (disch := omega) only [zDn, zUp_o, zUp_s], by rw [← ps.2.1]; simp (disch := omega) only [zDn, zUp_o, zUp_s], by omega, by omega, ps.2.2.2.2⟩
    · rw [r0 (56 + 2 * s) (by omega), show z_up (z_up (z_up (zDn (z_up V (44 + 1) s v)) 141 0 0) 143 (56 + 2 * s + 1) v) 141 1 0 143 (57 + 2 * s) = v by rw [show 57 + 2 * s = 56 + 2 * s + 1 by omega]; exact r1]
      exact ⟨by rw [← ps.1]; simp (disch := omega) only [zDn, zUp_o, zUp_s], by simp (disch := omega) only [zDn, zUp_o, zUp_s], by omega, by omega, by omega, by omega⟩
  · rw [r0 (56 + 2 * s) (by omega), r0 (57 + 2 * s) (by omega)]
    exact ⟨by rw [← ps.1]; simp (disch := omega) only [zDn, zUp_o, zUp_s], by rw [← ps.2.1]; simp (disch := omega) only [zDn, zUp_o, zUp_s], ps.2.2⟩
theorem cm_terms {V : z_M} (hR : zR V) (w v : Int) : zPr (d + 6) 97 167 [.inl w, .inl v] V := by
  have hR2 := hR
  obtain ⟨⟨Λ, hT, hc⟩, r3, r4, r5⟩ := hR2
  obtain ⟨n, R, m, hn, hRr, hm, n12, R6, m7⟩ := zR_nat hT
  have a0 := zT_0 hT
  have a1 := zT_1 hT
  have a4 := zT_4 hT
  have b2 := zT_2 hT
  have b3 := zT_3 hT
  have b5 := zT_5 hT
  have b6 := zT_6 hT
  have b7 := zT_7 hT
  have e5 := zSt_5 r5.1
  have rj : ¬ ((w = 0 ∧ 0 ≤ v ∧ v ≤ 23) ∨ (w = 1 ∧ 0 ≤ v ∧ v ≤ 9)) → z_MS (d + 6) 167 true [.inr (.inr 141), .inl w, .inl v] (zRf (-1) V) (fun z2 X => z2 = -1 ∧ zR X) := by
    intro h
    have fin := zR_rf (e := -1) (by decide) hR
    refine zb167_141 _ _ (z_all (z_ifc (fun c => sp145 (d := d + 4) (fun q => absurd (by omega) h) (fun q => z_ifp rfl (sp149 (d := d + 4) (by decide) ⟨rfl, fin⟩))) (fun c => z_ifc (fun c2 => sp145 (d := d + 4) (fun q => absurd (by omega) h) (fun q => z_ifp rfl (sp149 (d := d + 4) (by decide) ⟨rfl, fin⟩))) (fun c2 => z_ifp rfl (sp149 (d := d + 4) (by decide) ⟨rfl, fin⟩)))))
  refine zb97_36 _ _ (sp133 (d := d + 4) (fun h1 => z_ifn (by decide) (z_gp (by omega) (z_all ?_))) (fun h1 => z_ifp rfl (sp130 (d := d + 3) (by decide) (rj (by omega)))))
  obtain ⟨w, rfl⟩ := Int.eq_ofNat_of_zero_le h1.1
  have hw : w < 2 := by omega
  rw [Int.toNat_natCast]
  have hw4 : w = 0 ∨ w = 1 := by omega
  have lim : V 5 w = if w = 0 then 23 else 9 := by rcases hw4 with rfl | rfl; exact e5.1; exact e5.2
  rw [lim]
  have hs : (0 ≤ v ∧ v ≤ if w = 0 then 23 else 9) ↔ (((w : Int) = 0 ∧ 0 ≤ v ∧ v ≤ 23) ∨ ((w : Int) = 1 ∧ 0 ≤ v ∧ v ≤ 9)) := by split <;> omega
  refine sp133 (d := d + 4) (fun h2 => z_ifn (by decide) ?_) (fun h2 => z_ifp rfl (sp130 (d := d + 3) (by decide) (rj (fun q => h2 (hs.mpr q)))))
  have h2 := hs.mp h2
  clear hs lim rj
  refine zb136_46 _ _ (z_gp (by omega) (z_all (z_gp (by omega) (z_all (sp131 (d := d + 4) ?_)))))
  rw [Int.toNat_natCast]
  have old : V 46 w = V 143 (6 + w) := by rcases hw4 with rfl | rfl; exact b6.1; exact b7.1
  rw [old]
  have e143 : z_up (zDn (z_up V 46 w v)) 141 0 0 143 = V 143 := by simp (disch := omega) only [zDn, z_up_cell]
  have i0 : z_add 6 (w : Int) = ((6 + w : Nat) : Int) := by simp (disch := omega) only [z_mul_e, z_add_e, z_sub_e]; omega
  have fin : z_MS (d + 5) 151 true [.inr (.inr 141), .inl ((6 + w : Nat) : Int), .inl v] (z_up (zDn (z_up V 46 w v)) 141 0 0) (fun z2 X => z2 = V 143 (6 + w) ∧ zR X) := by
    refine sp151 (d := d + 3) (by omega) ⟨by rw [e143], ?_⟩
    have r0 : ∀ k, ¬ k = 6 + w → z_up (z_up (z_up (zDn (z_up V 46 w v)) 141 0 0) 143 (6 + w) v) 141 1 0 143 k = V 143 k := fun k p => by simp (disch := omega) only [zDn, zUp_o, zUp_s]
    have r1 : z_up (z_up (z_up (zDn (z_up V 46 w v)) 141 0 0) 143 (6 + w) v) 141 1 0 143 (6 + w) = v := by simp (disch := omega) only [zDn, zUp_o, zUp_s]
    refine zR_dn hR (Λ := Λ) ?_ (fun x hx => by unfold zKd at hx; simp (disch := omega) only [zDn, z_up_cell]) (fun k hk hk1 => by unfold zKf at hk; simp (disch := omega) only [zDn, zUp_o, zUp_s]) (by simp (disch := omega) only [zDn, zUp_o, zUp_s]) (by simp (disch := omega) only [zDn, zUp_o, zUp_s]) (by simp (disch := omega) only [zDn, zUp_o, zUp_s]) (by simp (disch := omega) only [zDn, zUp_o, zUp_s]) (by simp (disch := omega) only [zDn, zUp_o, zUp_s])
    have c67 : ((z_up (z_up (z_up (zDn (z_up V 46 w v)) 141 0 0) 143 (6 + w) v) 141 1 0 46 0 = z_up (z_up (z_up (zDn (z_up V 46 w v)) 141 0 0) 143 (6 + w) v) 141 1 0 143 6 ∧ 0 ≤ z_up (z_up (z_up (zDn (z_up V 46 w v)) 141 0 0) 143 (6 + w) v) 141 1 0 143 6 ∧ z_up (z_up (z_up (zDn (z_up V 46 w v)) 141 0 0) 143 (6 + w) v) 141 1 0 143 6 ≤ 23) ∧ (z_up (z_up (z_up (zDn (z_up V 46 w v)) 141 0 0) 143 (6 + w) v) 141 1 0 46 1 = z_up (z_up (z_up (zDn (z_up V 46 w v)) 141 0 0) 143 (6 + w) v) 141 1 0 143 7 ∧ 0 ≤ z_up (z_up (z_up (zDn (z_up V 46 w v)) 141 0 0) 143 (6 + w) v) 141 1 0 143 7 ∧ z_up (z_up (z_up (zDn (z_up V 46 w v)) 141 0 0) 143 (6 + w) v) 141 1 0 143 7 ≤ 9)) := by
      rcases hw4 with rfl | rfl
      · rw [r0 7 (by omega), show z_up (z_up (z_up (zDn (z_up V 46 0 v)) 141 0 0) 143 (6 + 0) v) 141 1 0 143 6 = v from r1]
        exact ⟨⟨by simp (disch := omega) only [zDn, zUp_o, zUp_s], by omega, by omega⟩, by rw [← b7.1]; simp (disch := omega) only [zDn, zUp_o, zUp_s], b7.2⟩
      · rw [r0 6 (by omega), show z_up (z_up (z_up (zDn (z_up V 46 1 v)) 141 0 0) 143 (6 + 1) v) 141 1 0 143 7 = v from r1]
        exact ⟨⟨by rw [← b6.1]; simp (disch := omega) only [zDn, zUp_o, zUp_s], b6.2⟩, by simp (disch := omega) only [zDn, zUp_o, zUp_s], by omega, by omega⟩
    exact zT_mk hT (fun k hk => r0 k (by omega)) (r0 2 (by omega)) (by simp (disch := omega) only [zDn, z_up_cell]) (by simp (disch := omega) only [zDn, zUp_o, zUp_s]) (by simp (disch := omega) only [zDn, z_up_cell]) (fun x hx => by simp (disch := omega) only [zDn, z_up_cell]) ⟨by rw [r0 0 (by omega), ← a0.1]; simp (disch := omega) only [zDn, zUp_o, zUp_s], by rw [r0 0 (by omega)]; exact a0.2⟩ ⟨by rw [r0 1 (by omega), ← a1.1]; simp (disch := omega) only [zDn, zUp_o, zUp_s], by rw [r0 1 (by omega)]; exact a1.2⟩ ⟨by rw [r0 3 (by omega), ← b3.1]; simp (disch := omega) only [zDn, zUp_o, zUp_s], by rw [r0 3 (by omega), r0 2 (by omega)]; exact b3.2⟩ ⟨by rw [r0 4 (by omega), ← a4.1]; simp (disch := omega) only [zDn, zUp_o, zUp_s], by rw [r0 4 (by omega)]; exact a4.2⟩ ⟨by rw [r0 5 (by omega), ← b5.1]; simp (disch := omega) only [zDn, zUp_o, zUp_s], by rw [r0 5 (by omega)]; exact b5.2⟩ c67.1 c67.2
      (zT_ct hT (r0 0 (by omega)) (fun k p q => r0 k (by omega)) (fun x p q => by simp (disch := omega) only [zDn, z_up_cell]))
      (zT_cr hT (r0 1 (by omega)) (fun k p q => r0 k (by omega)) (fun x p q => by simp (disch := omega) only [zDn, z_up_cell]))
      (zT_ca hT (r0 4 (by omega)) (by rw [r0 0 (by omega)]; omega) (by rw [r0 1 (by omega)]; omega) (fun k p q => r0 k (by omega)) (fun x p q => by simp (disch := omega) only [zDn, z_up_cell]))
      (zT_co hT (r0 5 (by omega)) (fun k p q => r0 k (by omega)) (by simp (disch := omega) only [zDn, z_up_cell]))
  refine zb167_141 _ _ (z_all ?_)
  rw [i0]
  exact z_ifc (fun c => sp145 (d := d + 4) (fun q => z_ifn (by decide) fin) (fun q => absurd (by omega) q)) (fun c => z_ifc (fun c2 => sp145 (d := d + 4) (fun q => z_ifn (by decide) fin) (fun q => absurd (by omega) q)) (fun c2 => absurd h2 (by omega)))
theorem cm_force {V : z_M} (hR : zR V) (v : Int) : zPr (d + 6) 104 197 [.inl v] V := by
  have hR2 := hR
  obtain ⟨⟨Λ, hT, hc⟩, r3, r4, r5⟩ := hR2
  obtain ⟨n, R, m, hn, hRr, hm, n12, R6, m7⟩ := zR_nat hT
  have a0 := zT_0 hT
  have a1 := zT_1 hT
  have a4 := zT_4 hT
  have b2 := zT_2 hT
  have b3 := zT_3 hT
  have b5 := zT_5 hT
  have b6 := zT_6 hT
  have b7 := zT_7 hT
  have ok : (v = -1 ∨ (0 ≤ v ∧ v < V 143 2)) → z_MS (d + 6) 197 true [.inr (.inr 141), .inl v] (zDn (z_up V 37 10 v)) (fun z2 X => z2 = V 37 10 ∧ zR X) := by
    intro hv
    have fin : z_MS (d + 5) 151 true [.inr (.inr 141), .inl 3, .inl v] (z_up (zDn (z_up V 37 10 v)) 141 0 0) (fun z2 X => z2 = V 37 10 ∧ zR X) := by
      refine sp151 (d := d + 3) (k := 3) (by omega) ⟨b3.1.symm, ?_⟩
      have r0 : ∀ k, ¬ k = 3 → z_up (z_up (z_up (zDn (z_up V 37 10 v)) 141 0 0) 143 3 v) 141 1 0 143 k = V 143 k := fun k p => by simp (disch := omega) only [zDn, zUp_o, zUp_s]
      have r1 : z_up (z_up (z_up (zDn (z_up V 37 10 v)) 141 0 0) 143 3 v) 141 1 0 143 3 = v := by simp (disch := omega) only [zDn, zUp_o, zUp_s]
      refine zR_dn hR (Λ := Λ) ?_ (fun x hx => by unfold zKd at hx; simp (disch := omega) only [zDn, z_up_cell]) (fun k hk hk1 => by unfold zKf at hk; simp (disch := omega) only [zDn, zUp_o, zUp_s]) (by simp (disch := omega) only [zDn, zUp_o, zUp_s]) (by simp (disch := omega) only [zDn, zUp_o, zUp_s]) (by simp (disch := omega) only [zDn, zUp_o, zUp_s]) (by simp (disch := omega) only [zDn, zUp_o, zUp_s]) (by simp (disch := omega) only [zDn, zUp_o, zUp_s])
      exact zT_mk hT (fun k hk => r0 k (by omega)) (r0 2 (by omega)) (by simp (disch := omega) only [zDn, z_up_cell]) (by simp (disch := omega) only [zDn, zUp_o, zUp_s]) (by simp (disch := omega) only [zDn, z_up_cell]) (fun x hx => by simp (disch := omega) only [zDn, z_up_cell]) ⟨by rw [r0 0 (by omega), ← a0.1]; simp (disch := omega) only [zDn, zUp_o, zUp_s], by rw [r0 0 (by omega)]; exact a0.2⟩ ⟨by rw [r0 1 (by omega), ← a1.1]; simp (disch := omega) only [zDn, zUp_o, zUp_s], by rw [r0 1 (by omega)]; exact a1.2⟩ ⟨by rw [r1]; simp (disch := omega) only [zDn, zUp_o, zUp_s], by rw [r1]; omega, by rw [r1, r0 2 (by omega)]; omega⟩ ⟨by rw [r0 4 (by omega), ← a4.1]; simp (disch := omega) only [zDn, zUp_o, zUp_s], by rw [r0 4 (by omega)]; exact a4.2⟩ ⟨by rw [r0 5 (by omega), ← b5.1]; simp (disch := omega) only [zDn, zUp_o, zUp_s], by rw [r0 5 (by omega)]; exact b5.2⟩ ⟨by rw [r0 6 (by omega), ← b6.1]; simp (disch := omega) only [zDn, zUp_o, zUp_s], by rw [r0 6 (by omega)]; exact b6.2⟩ ⟨by rw [r0 7 (by omega), ← b7.1]; simp (disch := omega) only [zDn, zUp_o, zUp_s], by rw [r0 7 (by omega)]; exact b7.2⟩
        (zT_ct hT (r0 0 (by omega)) (fun k p q => r0 k (by omega)) (fun x p q => by simp (disch := omega) only [zDn, z_up_cell]))
        (zT_cr hT (r0 1 (by omega)) (fun k p q => r0 k (by omega)) (fun x p q => by simp (disch := omega) only [zDn, z_up_cell]))
        (zT_ca hT (r0 4 (by omega)) (by rw [r0 0 (by omega)]; omega) (by rw [r0 1 (by omega)]; omega) (fun k p q => r0 k (by omega)) (fun x p q => by simp (disch := omega) only [zDn, z_up_cell]))
        (zT_co hT (r0 5 (by omega)) (fun k p q => r0 k (by omega)) (by simp (disch := omega) only [zDn, z_up_cell]))
    refine zb197_141 _ (z_all (z_ifc (fun c => fin) (fun c => ?_)))
    rw [show z_up (zDn (z_up V 37 10 v)) 141 0 0 143 2 = V 143 2 from rfl, z_lsub_e (by omega)]
    exact sp145 (d := d + 4) (fun q => z_ifn (by decide) fin) (fun q => absurd (by omega) q)
  refine zb104_36 _ (z_ifc (fun c => z_all (sp131 (d := d + 4) (ok (Or.inl c)))) (fun c => ?_))
  rw [z_sub_e (by omega)]
  refine sp133 (d := d + 4) (fun h2 => z_ifn (by decide) (z_all (sp131 (d := d + 4) (ok (Or.inr (by omega)))))) (fun h2 => z_ifp rfl (sp130 (d := d + 3) (by decide) ?_))
  have fin := zR_rf (e := -2) (by decide) hR
  refine zb197_141 _ (z_all (z_ifn c ?_))
  rw [show z_up (zRf (-2) V) 141 0 0 143 2 = V 143 2 from rfl, z_lsub_e (by omega)]
  exact sp145 (d := d + 4) (fun q => absurd (by omega) h2) (fun q => z_ifp rfl (sp149 (d := d + 4) (by decide) ⟨rfl, fin⟩))
end
