/-! ask, toe, lift -/
theorem zR_g {V X : z_M} {Λ : Nat → (Nat → Int) → Int} (hR : zR V) (hT : zT 37 (X 143) X Λ) (hc : zRc X Λ) (h : ∀ a, zKd a → X a = V a) (hf : ∀ k, zKf k → ¬ k = 1 → X 141 k = V 141 k) (h13 : X 36 13 = V 36 13) (h14 : X 36 14 = V 36 14) (h15 : X 36 15 = X 141 1) : zR X := by
  obtain ⟨_, r3, r4, r5⟩ := hR
  have c : ∀ a, zKd a → X a = V a := h
  have e0 := c 0 (by unfold zKd; omega)
  refine ⟨⟨Λ, hT, hc⟩, ?_, ?_, ?_⟩
  · exact zRi_c r3 e0 (c 86 (by unfold zKd; omega)) (c 145 (by unfold zKd; omega)) (c 144 (by unfold zKd; omega)) (fun a x y => c a (by unfold zKd; omega)) (fun a x => c a (by unfold zKd; omega))
  · exact zRi_c r4 e0 (c 86 (by unfold zKd; omega)) (c 145 (by unfold zKd; omega)) (c 144 (by unfold zKd; omega)) (fun a x y => c a (by unfold zKd; omega)) (fun a x => c a (by unfold zKd; omega))
  · obtain ⟨m1, m2, m3, m4, m5, m6, m7, m8, m9⟩ := r5
    unfold zRm
    rw [c 87 (by unfold zKd; omega), c 88 (by unfold zKd; omega), c 134 (by unfold zKd; omega), c 140 (by unfold zKd; omega), c 142 (by unfold zKd; omega), c 146 (by unfold zKd; omega), c 168 (by unfold zKd; omega), c 152 (by unfold zKd; omega), e0, hf 8 (by unfold zKf; omega) (by omega), hf 6 (by unfold zKf; omega) (by omega), hf 13 (by unfold zKf; omega) (by omega), hf 55 (by unfold zKf; omega) (by omega), h13, h14]
    refine ⟨fun a x y => by rw [c a (by unfold zKd; omega)]; exact m1 a x y, m2, m3, m4, h15, m6, ⟨m7.1, m7.2.1, m7.2.2.1, fun w i hw hi => ?_⟩, m8, m9⟩
    rw [c (136 + w) (by unfold zKd; omega)]
    exact m7.2.2.2 w i hw hi
/-- what is felt by toes is nothing to those who walk -/
theorem zToe_c {ρ ρ' : Nat → Int} {Λ : Nat → (Nat → Int) → Int} {n R m : Nat} (h : ∀ k, ¬ k = 5 → ρ' k = ρ k) : zBO ρ' Λ n R m = zBO ρ Λ n R m ∧ zBB ρ' Λ n R m = zBB ρ Λ n R m := by
  have e1 : zTH ρ' = zTH ρ := by funext b; exact h _ (by omega)
  have e2 : ∀ π, zLE ρ' π = zLE ρ π := fun π => by unfold zLE; rw [e1]
  have e3 : zSR ρ' = zSR ρ := by funext b; exact h _ (by omega)
  have e4 : ∀ π, zG0 ρ' π = zG0 ρ π := fun π => by
    unfold zG0
    funext t
    rw [h (11 + 4 * π t) (by omega)]
  have e5 : zRq ρ' = zRq ρ := by
    funext t
    unfold zRq
    rw [h (68 + 2 * t) (by omega)]
  have e6 : zAk ρ' = zAk ρ := by
    funext t
    unfold zAk
    rw [h (69 + 2 * t) (by omega)]
  have e7 : ∀ r b t lev, zFa ρ' r b t lev = zFa ρ r b t lev := fun r b t lev => by
    unfold zFa
    rw [h (8 + 4 * b) (by omega), h (57 + 2 * r) (by omega), h (56 + 2 * r) (by omega), h 6 (by omega), h (10 + 4 * b) (by omega), h (9 + 4 * b) (by omega)]
  have e8 : ∀ π, zCR ρ' Λ π = zCR ρ Λ π := fun π => by
    funext r t
    unfold zCR zHold
    rw [e2, e7, h (57 + 2 * r) (by omega), h 3 (by omega), h (9 + 4 * π t) (by omega)]
  have e9 : zEb ρ' Λ n R m = zEb ρ Λ n R m := by
    funext row
    unfold zEb
    rw [e2, e3, e4, e5, e6, e8, h 7 (by omega)]
  constructor
  · unfold zBO
    rw [e2, e3, e4, e5, e6, e8, h 7 (by omega)]
  · unfold zBB
    rw [e9]
section
variable {d : Nat} {Q : Int → z_M → Prop}
theorem cm_ask {V : z_M} (hR : zR V) (a b : Int) : zPr (d + 6) 111 219 [.inl a, .inl b] V := by
  have hR2 := hR
  obtain ⟨⟨Λ, hT, hc⟩, r3, r4, r5⟩ := hR2
  obtain ⟨n, R, m, hn, hRr, hm, n12, R6, m7⟩ := zR_nat hT
  have a0 := zT_0 hT
  have a1 := zT_1 hT
  have a4 := zT_4 hT
  have b2 := zT_2 hT
  have b3 := zT_3 hT
  have b5 := zT_5 hT
  have b6 := zT_6 hT
  have b7 := zT_7 hT
  have e7 : V 37 7 = (n : Int) := by omega
  have e8 : V 37 8 = (R : Int) := by omega
  have e11 : V 37 11 = (m : Int) := by omega
  have rj : ∀ e : Int, -6 ≤ e ∧ e ≤ -1 → (¬ ((0 ≤ a ∧ a < (R : Int)) ∧ (0 ≤ b ∧ b < (n : Int))) ∧ e = -2) ∨ (((0 ≤ a ∧ a < (R : Int)) ∧ (0 ≤ b ∧ b < (n : Int))) ∧ m = 7 ∧ e = -5) → z_MS (d + 6) 219 true [.inr (.inr 141), .inl a, .inl b] (zRf e V) (fun z2 X => z2 = e ∧ zR X) := by
    intro e he h
    have fin := zR_rf he hR
    have h1 : z_up (zRf e V) 141 0 0 143 = V 143 := rfl
    refine zb219_141 _ _ (z_all (sp156 (d := d + 3) (n := R) (by rw [h1]; exact hRr) R6 (fun h1 => z_ifn (by decide) (sp155 (d := d + 3) (n := n) (by rw [show z_up (zRf e V) 141 0 0 143 = V 143 from rfl]; exact hn) n12 (fun h2 => z_ifn (by decide) ?_) (fun h2 => z_ifp rfl ?_))) (fun h1 => z_ifp rfl ?_)))
    · rcases h with ⟨h3, _⟩ | ⟨_, h3, h4⟩
      · exact absurd ⟨h1, h2⟩ h3
      · subst h4
        exact z_ifp (by show V 143 4 = 7; omega) (sp149 (d := d + 4) he ⟨rfl, fin⟩)
    · rcases h with ⟨_, h4⟩ | ⟨h3, _⟩
      · subst h4; exact sp149 (d := d + 4) he ⟨rfl, fin⟩
      · exact absurd h3.2 h2
    · rcases h with ⟨_, h4⟩ | ⟨h3, _⟩
      · subst h4; exact sp149 (d := d + 4) he ⟨rfl, fin⟩
      · exact absurd h3.1 h1
  refine zb111_36 _ _ (sp76 (d := d + 3) (by omega) (fun h1 => z_ifn (by decide) (sp75 (d := d + 3) (by omega) (fun h2 => z_ifn (by decide) ?_) (fun h2 => z_ifp rfl (sp130 (d := d + 3) (by decide) (rj _ (by decide) (Or.inl ⟨fun q => h2 (by omega), rfl⟩)))))) (fun h1 => z_ifp rfl (sp130 (d := d + 3) (by decide) (rj _ (by decide) (Or.inl ⟨fun q => h1 (by omega), rfl⟩)))))
  rw [e8] at h1
  rw [e7] at h2
  by_cases c : m = 7
  · refine zb80_37 _ _ (z_ifn (by omega) (sp132n (d := d + 2) (rj _ (by decide) (Or.inr ⟨⟨h1, h2⟩, c, rfl⟩))))
  · refine zb80_37 _ _ (z_ifp (by omega) (z_gp (by omega) (z_all ?_)))
    rw [show z_up V 49 (V 37 11).toNat a 37 11 = V 37 11 from rfl, e11, Int.toNat_natCast]
    refine z_gp (by omega) (z_all ?_)
    rw [show z_up (z_up V 49 m a) 50 m b 37 11 = V 37 11 from rfl, e11, z_add_e (by omega)]
    refine z_all ?_
    rw [zUp_s, z_sub_e (by omega), show (m : Int) + 1 - 1 = (m : Int) by omega]
    refine sp132 (d := d + 3) (by omega) ?_
    have i0 : z_add 68 (z_mul 2 (m : Int)) = ((68 + 2 * m : Nat) : Int) := by simp (disch := omega) only [z_mul_e, z_add_e, z_sub_e]; omega
    have i1 : z_add ((68 + 2 * m : Nat) : Int) 1 = ((69 + 2 * m : Nat) : Int) := by simp (disch := omega) only [z_mul_e, z_add_e, z_sub_e]; omega
    generalize hW : zDn (z_up (z_up (z_up V 49 m a) 50 m b) 37 11 ((m : Int) + 1)) = W
    have e143 : z_up W 141 0 0 143 = V 143 := by subst hW; rfl
    refine zb219_141 _ _ (z_all (sp156 (d := d + 3) (n := R) (by rw [e143]; exact hRr) R6 (fun _ => z_ifn (by decide) (sp155 (d := d + 3) (n := n) (by rw [e143]; exact hn) n12 (fun _ => z_ifn (by decide) ?_) (fun q => absurd h2 q))) (fun q => absurd h1 q)))
    rw [e143, hm, i0, i1]
    refine z_ifn (by omega) (z_gp (by omega) (z_all (z_gp (by omega) (z_all ?_))))
    rw [Int.toNat_natCast, Int.toNat_natCast]
    have x1 : z_up (z_up (z_up W 141 0 0) 143 (68 + 2 * m) a) 143 (69 + 2 * m) b 143 4 = (m : Int) := by
      simp (disch := omega) only [zDn, zUp_o, zUp_s]
      rw [← hm]
      subst hW
      rfl
    rw [x1, z_add_e (by omega)]
    refine z_all (sp149p (d := d + 4) (by omega) ⟨rfl, ?_⟩)
    subst hW
    clear x1 e143 i0 i1
    have r0 : ∀ k, ¬ k = 4 → ¬ k = 68 + 2 * m → ¬ k = 69 + 2 * m → z_up (z_up (z_up (z_up (z_up (zDn (z_up (z_up (z_up V 49 m a) 50 m b) 37 11 ((m : Int) + 1))) 141 0 0) 143 (68 + 2 * m) a) 143 (69 + 2 * m) b) 143 4 ((m : Int) + 1)) 141 1 0 143 k = V 143 k := fun k p q r => by simp (disch := omega) only [zDn, zUp_o, zUp_s]
    have r1 : z_up (z_up (z_up (z_up (z_up (zDn (z_up (z_up (z_up V 49 m a) 50 m b) 37 11 ((m : Int) + 1))) 141 0 0) 143 (68 + 2 * m) a) 143 (69 + 2 * m) b) 143 4 ((m : Int) + 1)) 141 1 0 143 4 = (m : Int) + 1 := by simp (disch := omega) only [zDn, zUp_o, zUp_s]
    have r2 : z_up (z_up (z_up (z_up (z_up (zDn (z_up (z_up (z_up V 49 m a) 50 m b) 37 11 ((m : Int) + 1))) 141 0 0) 143 (68 + 2 * m) a) 143 (69 + 2 * m) b) 143 4 ((m : Int) + 1)) 141 1 0 143 (68 + 2 * m) = a := by simp (disch := omega) only [zDn, zUp_o, zUp_s]
    have r3 : z_up (z_up (z_up (z_up (z_up (zDn (z_up (z_up (z_up V 49 m a) 50 m b) 37 11 ((m : Int) + 1))) 141 0 0) 143 (68 + 2 * m) a) 143 (69 + 2 * m) b) 143 4 ((m : Int) + 1)) 141 1 0 143 (69 + 2 * m) = b := by simp (disch := omega) only [zDn, zUp_o, zUp_s]
    refine zR_dn hR (Λ := Λ) ?_ (fun x hx => by unfold zKd at hx; simp (disch := omega) only [zDn, z_up_cell]) (fun k hk hk1 => by unfold zKf at hk; simp (disch := omega) only [zDn, zUp_o, zUp_s]) rfl rfl rfl rfl rfl
    refine zT_mk hT (fun k hk => r0 k (by omega) (by omega) (by omega)) (r0 2 (by omega) (by omega) (by omega)) rfl rfl rfl (fun x hx => by simp (disch := omega) only [zDn, z_up_cell]) (by rw [r0 0 (by omega) (by omega) (by omega)]; exact a0) (by rw [r0 1 (by omega) (by omega) (by omega)]; exact a1) (by rw [r0 3 (by omega) (by omega) (by omega), r0 2 (by omega) (by omega) (by omega)]; exact b3) ⟨by rw [r1]; rfl, by omega, by omega⟩ (by rw [r0 5 (by omega) (by omega) (by omega)]; exact b5) (by rw [r0 6 (by omega) (by omega) (by omega)]; exact b6) (by rw [r0 7 (by omega) (by omega) (by omega)]; exact b7)
      (zT_ct hT (r0 0 (by omega) (by omega) (by omega)) (fun k p q => r0 k (by omega) (by omega) (by omega)) (fun x p q => by simp (disch := omega) only [zDn, z_up_cell]))
      (zT_cr hT (r0 1 (by omega) (by omega) (by omega)) (fun k p q => r0 k (by omega) (by omega) (by omega)) (fun x p q => by simp (disch := omega) only [zDn, z_up_cell]))
      (fun r hr => ?_)
      (zT_co hT (r0 5 (by omega) (by omega) (by omega)) (fun k p q => r0 k (by omega) (by omega) (by omega)) rfl)
    rw [r1] at hr
    rw [r0 0 (by omega) (by omega) (by omega), r0 1 (by omega) (by omega) (by omega), hn, hRr]
    by_cases er : r = m
    · subst er
      rw [r2, r3]
      exact ⟨by simp (disch := omega) only [zDn, zUp_o, zUp_s], by simp (disch := omega) only [zDn, zUp_o, zUp_s], h1.1, h1.2, h2.1, h2.2⟩
    · have pr := zT_a hT (a := r) (by omega)
      rw [hn, hRr] at pr
      rw [r0 (68 + 2 * r) (by omega) (by omega) (by omega), r0 (69 + 2 * r) (by omega) (by omega) (by omega)]
      refine ⟨?_, ?_, pr.2.2⟩
      · rw [← pr.1]; simp (disch := omega) only [zDn, zUp_o, zUp_s]
      · rw [← pr.2.1]; simp (disch := omega) only [zDn, zUp_o, zUp_s]
theorem cm_toe {V : z_M} (hR : zR V) (a : Int) : zPr (d + 6) 121 241 [.inl a] V := by
  have hR2 := hR
  obtain ⟨⟨Λ, hT, hc⟩, r3, r4, r5⟩ := hR2
  obtain ⟨n, R, m, hn, hRr, hm, n12, R6, m7⟩ := zR_nat hT
  have a0 := zT_0 hT
  have a1 := zT_1 hT
  have a4 := zT_4 hT
  have b2 := zT_2 hT
  have b3 := zT_3 hT
  have b5 := zT_5 hT
  have b6 := zT_6 hT
  have b7 := zT_7 hT
  obtain ⟨K, hK⟩ := Int.eq_ofNat_of_zero_le b5.2.1
  have e12 : V 37 12 = (K : Int) := by omega
  have rj : ∀ e : Int, -6 ≤ e ∧ e ≤ -1 → (¬ zBk 0 a ∧ e = -1) ∨ (zBk 0 a ∧ K = 8 ∧ e = -5) → z_MS (d + 6) 241 true [.inr (.inr 141), .inl a] (zRf e V) (fun z2 X => z2 = e ∧ zR X) := by
    intro e he h
    have fin := zR_rf he hR
    refine zb241_141 _ (z_all (sp159 (d := d + 3) (fun h1 => z_ifn (by decide) ?_) (fun h1 => z_ifp rfl ?_)))
    · rcases h with ⟨h3, _⟩ | ⟨_, h3, h4⟩
      · exact absurd h1 h3
      · subst h4
        exact z_ifp (by show V 143 5 = 8; omega) (sp149 (d := d + 4) he ⟨rfl, fin⟩)
    · rcases h with ⟨_, h4⟩ | ⟨h3, _⟩
      · subst h4; exact sp149 (d := d + 4) he ⟨rfl, fin⟩
      · exact absurd h3 h1
  refine zb121_36 _ (sp134 (d := d + 3) r5.1 (fun h1 => z_ifn (by decide) ?_) (fun h1 => z_ifp rfl (sp130 (d := d + 3) (by decide) (rj _ (by decide) (Or.inl ⟨h1, rfl⟩)))))
  by_cases c : K = 8
  · refine zb81_37 _ (z_ifn (by omega) (sp132n (d := d + 2) (rj _ (by decide) (Or.inr ⟨h1, c, rfl⟩))))
  · refine zb81_37 _ (z_ifp (by omega) (z_gp (by omega) (z_all ?_)))
    rw [show z_up V 51 (V 37 12).toNat a 37 12 = V 37 12 from rfl, e12, Int.toNat_natCast, z_add_e (by omega)]
    refine z_all ?_
    rw [zUp_s]
    refine sp132 (d := d + 3) (by omega) ?_
    have i0 : z_add 82 (K : Int) = ((82 + K : Nat) : Int) := by simp (disch := omega) only [z_mul_e, z_add_e, z_sub_e]; omega
    generalize hW : zDn (z_up (z_up V 51 K a) 37 12 ((K : Int) + 1)) = W
    have e143 : z_up W 141 0 0 143 = V 143 := by subst hW; rfl
    refine zb241_141 _ (z_all (sp159 (d := d + 3) (fun _ => z_ifn (by decide) ?_) (fun q => absurd h1 q)))
    rw [e143, hK, i0]
    refine z_ifn (by omega) (z_gp (by omega) (z_all ?_))
    rw [Int.toNat_natCast]
    have x1 : z_up (z_up W 141 0 0) 143 (82 + K) a 143 5 = (K : Int) := by
      simp (disch := omega) only [zDn, zUp_o, zUp_s]
      rw [← hK]
      subst hW
      rfl
    rw [x1, z_add_e (by omega)]
    refine z_all (sp149p (d := d + 4) (by omega) ⟨rfl, ?_⟩)
    subst hW
    clear x1 e143 i0
    have r0 : ∀ k, ¬ k = 5 → ¬ k = 82 + K → z_up (z_up (z_up (z_up (zDn (z_up (z_up V 51 K a) 37 12 ((K : Int) + 1))) 141 0 0) 143 (82 + K) a) 143 5 ((K : Int) + 1)) 141 1 0 143 k = V 143 k := fun k p q => by simp (disch := omega) only [zDn, zUp_o, zUp_s]
    have r1 : z_up (z_up (z_up (z_up (zDn (z_up (z_up V 51 K a) 37 12 ((K : Int) + 1))) 141 0 0) 143 (82 + K) a) 143 5 ((K : Int) + 1)) 141 1 0 143 5 = (K : Int) + 1 := by simp (disch := omega) only [zDn, zUp_o, zUp_s]
    have r2 : z_up (z_up (z_up (z_up (zDn (z_up (z_up V 51 K a) 37 12 ((K : Int) + 1))) 141 0 0) 143 (82 + K) a) 143 5 ((K : Int) + 1)) 141 1 0 143 (82 + K) = a := by simp (disch := omega) only [zDn, zUp_o, zUp_s]
    refine zR_dn hR (Λ := Λ) ?_ (fun x hx => by unfold zKd at hx; simp (disch := omega) only [zDn, z_up_cell]) (fun k hk hk1 => by unfold zKf at hk; simp (disch := omega) only [zDn, zUp_o, zUp_s]) rfl rfl rfl rfl rfl
    refine zT_mk hT (fun k hk => r0 k (by omega) (by omega)) (r0 2 (by omega) (by omega)) rfl rfl rfl (fun x hx => by simp (disch := omega) only [zDn, z_up_cell]) (by rw [r0 0 (by omega) (by omega)]; exact a0) (by rw [r0 1 (by omega) (by omega)]; exact a1) (by rw [r0 3 (by omega) (by omega), r0 2 (by omega) (by omega)]; exact b3) (by rw [r0 4 (by omega) (by omega)]; exact a4) ⟨by rw [r1]; rfl, by omega, by omega⟩ (by rw [r0 6 (by omega) (by omega)]; exact b6) (by rw [r0 7 (by omega) (by omega)]; exact b7)
      (zT_ct hT (r0 0 (by omega) (by omega)) (fun k p q => r0 k (by omega) (by omega)) (fun x p q => by simp (disch := omega) only [zDn, z_up_cell]))
      (zT_cr hT (r0 1 (by omega) (by omega)) (fun k p q => r0 k (by omega) (by omega)) (fun x p q => by simp (disch := omega) only [zDn, z_up_cell]))
      (zT_ca hT (r0 4 (by omega) (by omega)) (by rw [r0 0 (by omega) (by omega)]; omega) (by rw [r0 1 (by omega) (by omega)]; omega) (fun k p q => r0 k (by omega) (by omega)) (fun x p q => by simp (disch := omega) only [zDn, z_up_cell]))
      (fun r hr => ?_)
    rw [r1] at hr
    by_cases er : r = K
    · subst er
      rw [r2]
      unfold zBk at h1
      exact ⟨by simp (disch := omega) only [zDn, zUp_o, zUp_s], by omega, by omega⟩
    · have pr := zT_o hT (k := r) (by omega)
      rw [r0 (82 + r) (by omega) (by omega)]
      refine ⟨?_, pr.2⟩
      rw [← pr.1]; simp (disch := omega) only [zDn, zUp_o, zUp_s]
theorem cm_lift {V : z_M} (hR : zR V) : zPr (d + 1) 122 242 [] V := by
  have hR2 := hR
  obtain ⟨⟨Λ, hT, hc⟩, r3, r4, r5⟩ := hR2
  obtain ⟨n, R, m, hn, hRr, hm, n12, R6, m7⟩ := zR_nat hT
  have a0 := zT_0 hT
  have a1 := zT_1 hT
  have a4 := zT_4 hT
  have b2 := zT_2 hT
  have b3 := zT_3 hT
  have b5 := zT_5 hT
  have b6 := zT_6 hT
  have b7 := zT_7 hT
  refine zb122_36 (z_all (zb242_141 (z_all (z_all ⟨?_, ?_⟩))))
  · exact b5.1.symm
  have r0 : ∀ k, ¬ k = 5 → z_up (z_up (z_up V 37 12 0) 141 0 0) 143 5 0 143 k = V 143 k := fun k p => by simp (disch := omega) only [zDn, zUp_o, zUp_s]
  have r1 : z_up (z_up (z_up V 37 12 0) 141 0 0) 143 5 0 143 5 = 0 := by simp (disch := omega) only [zDn, zUp_o, zUp_s]
  have hz := zToe_c (Λ := Λ) (n := n) (R := R) (m := m) r0
  refine zR_g hR (Λ := Λ) ?_ ?_ (fun x hx => by unfold zKd at hx; simp (disch := omega) only [zDn, z_up_cell]) (fun k hk hk1 => by unfold zKf at hk; simp (disch := omega) only [zDn, zUp_o, zUp_s]) rfl rfl r5.2.2.2.2.1
  · refine zT_mk hT (fun k hk => r0 k (by omega)) (r0 2 (by omega)) rfl rfl rfl (fun x hx => by simp (disch := omega) only [zDn, z_up_cell]) (by rw [r0 0 (by omega)]; exact a0) (by rw [r0 1 (by omega)]; exact a1) (by rw [r0 3 (by omega), r0 2 (by omega)]; exact b3) (by rw [r0 4 (by omega)]; exact a4) (by rw [r1]; exact ⟨rfl, by omega, by omega⟩) (by rw [r0 6 (by omega)]; exact b6) (by rw [r0 7 (by omega)]; exact b7)
      (zT_ct hT (r0 0 (by omega)) (fun k p q => r0 k (by omega)) (fun x p q => by simp (disch := omega) only [zDn, z_up_cell]))
      (zT_cr hT (r0 1 (by omega)) (fun k p q => r0 k (by omega)) (fun x p q => by simp (disch := omega) only [zDn, z_up_cell]))
      (zT_ca hT (r0 4 (by omega)) (by rw [r0 0 (by omega)]; omega) (by rw [r0 1 (by omega)]; omega) (fun k p q => r0 k (by omega)) (fun x p q => by simp (disch := omega) only [zDn, z_up_cell]))
      (fun r hr => ?_)
    rw [r1] at hr
    omega
  · intro n' R' m' p1 p2 p3
    rw [r0 0 (by omega)] at p1
    rw [r0 1 (by omega)] at p2
    rw [r0 4 (by omega)] at p3
    have e1 : n' = n := by omega
    have e2 : R' = R := by omega
    have e3 : m' = m := by omega
    subst e1
    subst e2
    subst e3
    rw [hz.1, hz.2]
    exact hc n' R' m' hn hRr hm
end
