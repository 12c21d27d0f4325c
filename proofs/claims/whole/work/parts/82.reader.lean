/-! reader, ask, toe, lift -/
section
variable {b : Nat} {ρ ρ' : Nat → Int} {V W : z_M} {Λ : Nat → (Nat → Int) → Int}
theorem zT_ct (h : zT b ρ V Λ) (h0 : ρ' 0 = ρ 0) (hr : ∀ k, 8 ≤ k → k < 56 → ρ' k = ρ k) (hw : ∀ x, b + 2 ≤ x → x ≤ b + 5 → W x = V x) : ∀ t : Nat, (t : Int) < ρ' 0 → W (b + 2) t = ρ' (8 + 4 * t) ∧ W (b + 3) t = ρ' (9 + 4 * t) ∧ W (b + 4) t = ρ' (10 + 4 * t) ∧ W (b + 5) t = ρ' (11 + 4 * t) ∧ 1 ≤ ρ' (8 + 4 * t) ∧ ρ' (8 + 4 * t) ≤ 9 ∧ 1 ≤ ρ' (9 + 4 * t) ∧ ρ' (9 + 4 * t) ≤ 99 ∧ 0 ≤ ρ' (10 + 4 * t) ∧ ρ' (10 + 4 * t) ≤ 9 ∧ 0 ≤ ρ' (11 + 4 * t) ∧ ρ' (11 + 4 * t) ≤ 1 := by
  intro t ht
  rw [h0] at ht
  have a0 := zT_0 h
  rw [hw (b + 2) (by omega) (by omega), hw (b + 3) (by omega) (by omega), hw (b + 4) (by omega) (by omega), hw (b + 5) (by omega) (by omega), hr (8 + 4 * t) (by omega) (by omega), hr (9 + 4 * t) (by omega) (by omega), hr (10 + 4 * t) (by omega) (by omega), hr (11 + 4 * t) (by omega) (by omega)]
  exact zT_t h ht
theorem zT_cr (h : zT b ρ V Λ) (h0 : ρ' 1 = ρ 1) (hr : ∀ k, 56 ≤ k → k < 68 → ρ' k = ρ k) (hw : ∀ x, b + 7 ≤ x → x ≤ b + 8 → W x = V x) : ∀ r : Nat, (r : Int) < ρ' 1 → W (b + 7) r = ρ' (56 + 2 * r) ∧ W (b + 8) r = ρ' (57 + 2 * r) ∧ 1 ≤ ρ' (56 + 2 * r) ∧ ρ' (56 + 2 * r) ≤ 40 ∧ 1 ≤ ρ' (57 + 2 * r) ∧ ρ' (57 + 2 * r) ≤ 99 := by
  intro t ht
  rw [h0] at ht
  have a0 := zT_1 h
  rw [hw (b + 7) (by omega) (by omega), hw (b + 8) (by omega) (by omega), hr (56 + 2 * t) (by omega) (by omega), hr (57 + 2 * t) (by omega) (by omega)]
  exact zT_r h ht
theorem zT_ca (h : zT b ρ V Λ) (h4 : ρ' 4 = ρ 4) (h0 : ρ 0 ≤ ρ' 0) (h1 : ρ 1 ≤ ρ' 1) (hr : ∀ k, 68 ≤ k → k < 82 → ρ' k = ρ k) (hw : ∀ x, b + 12 ≤ x → x ≤ b + 13 → W x = V x) : ∀ a : Nat, (a : Int) < ρ' 4 → W (b + 12) a = ρ' (68 + 2 * a) ∧ W (b + 13) a = ρ' (69 + 2 * a) ∧ 0 ≤ ρ' (68 + 2 * a) ∧ ρ' (68 + 2 * a) < ρ' 1 ∧ 0 ≤ ρ' (69 + 2 * a) ∧ ρ' (69 + 2 * a) < ρ' 0 := by
  intro t ht
  rw [h4] at ht
  have a0 := zT_4 h
  have pa := zT_a h ht
  rw [hw (b + 12) (by omega) (by omega), hw (b + 13) (by omega) (by omega), hr (68 + 2 * t) (by omega) (by omega), hr (69 + 2 * t) (by omega) (by omega)]
  omega
theorem zT_co (h : zT b ρ V Λ) (h0 : ρ' 5 = ρ 5) (hr : ∀ k, 82 ≤ k → k < 90 → ρ' k = ρ k) (hw : W (b + 14) = V (b + 14)) : ∀ k : Nat, (k : Int) < ρ' 5 → W (b + 14) k = ρ' (82 + k) ∧ 1 ≤ ρ' (82 + k) ∧ ρ' (82 + k) ≤ 9 := by
  intro t ht
  rw [h0] at ht
  have a0 := zT_5 h
  rw [hw, hr (82 + t) (by omega) (by omega)]
  exact zT_o h ht
end
section
variable {d : Nat} {Q : Int → z_M → Prop}
theorem cm_reader {V : z_M} (hR : zR V) (a b : Int) : zPr (d + 5) 95 165 [.inl a, .inl b] V := by
  have hR2 := hR
  obtain ⟨⟨Λ, hT, hc⟩, r3, r4, r5⟩ := hR2
  obtain ⟨n, R, m, hn, hRr, hm, n12, R6, m7⟩ := zR_nat hT
  have a0 := zT_0 hT
  have a1 := zT_1 hT
  have a4 := zT_4 hT
  have b2 := zT_2 hT
  have b3 := zT_3 hT
  have b5 := zT_5 hT
  have b6 := zT_6 hT
  have b7 := zT_7 hT
  have rj : ∀ e : Int, -6 ≤ e ∧ e ≤ -1 → (¬ (zBr 0 a ∧ zBr 1 b) ∧ e = -1) ∨ ((zBr 0 a ∧ zBr 1 b) ∧ R = 6 ∧ e = -5) → z_MS (d + 5) 165 true [.inr (.inr 141), .inl a, .inl b] (zRf e V) (fun z2 X => z2 = e ∧ zR X) := by
    intro e he h
    have fin := zR_rf he hR
    refine zb165_141 _ _ (z_all (sp164 (d := d + 2) (fun h1 => z_ifn (by decide) (sp164 (d := d + 2) (fun h2 => z_ifn (by decide) ?_) (fun h2 => z_ifp rfl ?_))) (fun h1 => z_ifp rfl ?_)))
    · rcases h with ⟨h3, _⟩ | ⟨_, h3, h4⟩
      · exact absurd ⟨h1, h2⟩ h3
      · subst h4
        exact z_ifp (by show V 143 1 = 6; omega) (sp149 (d := d + 3) he ⟨rfl, fin⟩)
    · rcases h with ⟨_, h4⟩ | ⟨h3, _⟩
      · subst h4; exact sp149 (d := d + 3) he ⟨rfl, fin⟩
      · exact absurd h3.2 h2
    · rcases h with ⟨_, h4⟩ | ⟨h3, _⟩
      · subst h4; exact sp149 (d := d + 3) he ⟨rfl, fin⟩
      · exact absurd h3.1 h1
  refine zb95_36 _ _ (sp135 (d := d + 2) r5.1 (fun h1 => z_ifn (by decide) (sp135 (d := d + 2) r5.1 (fun h2 => z_ifn (by decide) ?_) (fun h2 => z_ifp rfl (sp130 (d := d + 2) (by decide) (rj _ (by decide) (Or.inl ⟨fun q => h2 q.2, rfl⟩)))))) (fun h1 => z_ifp rfl (sp130 (d := d + 2) (by decide) (rj _ (by decide) (Or.inl ⟨fun q => h1 q.1, rfl⟩)))))
  have e8 : V 37 8 = (R : Int) := by omega
  by_cases c : R = 6
  · refine zb78_37 _ _ (z_ifn (by omega) (sp132n (d := d + 1) (rj _ (by decide) (Or.inr ⟨⟨h1, h2⟩, c, rfl⟩))))
  · refine zb78_37 _ _ (z_ifp (by omega) (z_gp (by omega) (z_all ?_)))
    rw [show z_up V 44 (V 37 8).toNat a 37 8 = V 37 8 from rfl, e8, Int.toNat_natCast]
    refine z_gp (by omega) (z_all ?_)
    rw [show z_up (z_up V 44 R a) 45 R b 37 8 = V 37 8 from rfl, e8, z_add_e (by omega)]
    refine z_all ?_
    rw [zUp_s, z_sub_e (by omega), show (R : Int) + 1 - 1 = (R : Int) by omega]
    refine sp132 (d := d + 2) (by omega) ?_
    refine zb165_141 _ _ (z_all (sp164 (d := d + 2) (fun _ => z_ifn (by decide) (sp164 (d := d + 2) (fun _ => z_ifn (by decide) ?_) (fun q => absurd h2 q))) (fun q => absurd h1 q)))
    have i0 : z_add 56 (z_mul 2 (R : Int)) = ((56 + 2 * R : Nat) : Int) := by simp (disch := omega) only [z_mul_e, z_add_e, z_sub_e]; omega
    have i1 : z_add ((56 + 2 * R : Nat) : Int) 1 = ((57 + 2 * R : Nat) : Int) := by simp (disch := omega) only [z_mul_e, z_add_e, z_sub_e]; omega
    generalize hW : zDn (z_up (z_up (z_up V 44 R a) 45 R b) 37 8 ((R : Int) + 1)) = W
    have e143 : z_up W 141 0 0 143 = V 143 := by subst hW; rfl
    rw [e143, hRr, i0, i1]
    refine z_ifn (by omega) (z_gp (by omega) (z_all (z_gp (by omega) (z_all ?_))))
    rw [Int.toNat_natCast, Int.toNat_natCast]
    have x1 : z_up (z_up (z_up W 141 0 0) 143 (56 + 2 * R) a) 143 (57 + 2 * R) b 143 1 = (R : Int) := by
      simp (disch := omega) only [zDn, zUp_o, zUp_s]
      rw [← hRr]
      subst hW
      rfl
    rw [x1, z_add_e (by omega)]
    refine z_all (sp149p (d := d + 3) (by omega) ⟨rfl, ?_⟩)
    subst hW
    clear x1 e143 i0 i1
    have r0 : ∀ k, ¬ k = 1 → ¬ k = 56 + 2 * R → ¬ k = 57 + 2 * R → z_up (z_up (z_up (z_up (z_up (zDn (z_up (z_up (z_up V 44 R a) 45 R b) 37 8 ((R : Int) + 1))) 141 0 0) 143 (56 + 2 * R) a) 143 (57 + 2 * R) b) 143 1 ((R : Int) + 1)) 141 1 0 143 k = V 143 k := fun k p q r => by simp (disch := omega) only [zDn, zUp_o, zUp_s]
    have r1 : z_up (z_up (z_up (z_up (z_up (zDn (z_up (z_up (z_up V 44 R a) 45 R b) 37 8 ((R : Int) + 1))) 141 0 0) 143 (56 + 2 * R) a) 143 (57 + 2 * R) b) 143 1 ((R : Int) + 1)) 141 1 0 143 1 = (R : Int) + 1 := by simp (disch := omega) only [zDn, zUp_o, zUp_s]
    have r2 : z_up (z_up (z_up (z_up (z_up (zDn (z_up (z_up (z_up V 44 R a) 45 R b) 37 8 ((R : Int) + 1))) 141 0 0) 143 (56 + 2 * R) a) 143 (57 + 2 * R) b) 143 1 ((R : Int) + 1)) 141 1 0 143 (56 + 2 * R) = a := by simp (disch := omega) only [zDn, zUp_o, zUp_s]
    have r3 : z_up (z_up (z_up (z_up (z_up (zDn (z_up (z_up (z_up V 44 R a) 45 R b) 37 8 ((R : Int) + 1))) 141 0 0) 143 (56 + 2 * R) a) 143 (57 + 2 * R) b) 143 1 ((R : Int) + 1)) 141 1 0 143 (57 + 2 * R) = b := by simp (disch := omega) only [zDn, zUp_o, zUp_s]
    refine zR_dn hR (Λ := Λ) ?_ (fun x hx => by unfold zKd at hx; simp (disch := omega) only [zDn, z_up_cell]) (fun k hk hk1 => by unfold zKf at hk; simp (disch := omega) only [zDn, zUp_o, zUp_s]) rfl rfl rfl rfl rfl
    refine zT_mk hT (fun k hk => r0 k (by omega) (by omega) (by omega)) (r0 2 (by omega) (by omega) (by omega)) rfl rfl rfl (fun x hx => by simp (disch := omega) only [zDn, z_up_cell]) (by rw [r0 0 (by omega) (by omega) (by omega)]; exact a0) ⟨by rw [r1]; rfl, by omega, by omega⟩ (by rw [r0 3 (by omega) (by omega) (by omega), r0 2 (by omega) (by omega) (by omega)]; exact b3) (by rw [r0 4 (by omega) (by omega) (by omega)]; exact a4) (by rw [r0 5 (by omega) (by omega) (by omega)]; exact b5) (by rw [r0 6 (by omega) (by omega) (by omega)]; exact b6) (by rw [r0 7 (by omega) (by omega) (by omega)]; exact b7)
      (zT_ct hT (r0 0 (by omega) (by omega) (by omega)) (fun k p q => r0 k (by omega) (by omega) (by omega)) (fun x p q => by simp (disch := omega) only [zDn, z_up_cell])) (fun r hr => ?_)
      (zT_ca hT (r0 4 (by omega) (by omega) (by omega)) (by rw [r0 0 (by omega) (by omega) (by omega)]; omega) (by omega) (fun k p q => r0 k (by omega) (by omega) (by omega)) (fun x p q => by simp (disch := omega) only [zDn, z_up_cell]))
      (zT_co hT (r0 5 (by omega) (by omega) (by omega)) (fun k p q => r0 k (by omega) (by omega) (by omega)) rfl)
    rw [r1] at hr
    unfold zBr at h1 h2
    by_cases er : r = R
    · subst er
      rw [r2, r3]
      refine ⟨by simp (disch := omega) only [zDn, zUp_o, zUp_s], by simp (disch := omega) only [zDn, zUp_o, zUp_s], by omega, by omega, by omega, by omega⟩
    · have pr := zT_r hT (r := r) (by omega)
      rw [r0 (56 + 2 * r) (by omega) (by omega) (by omega), r0 (57 + 2 * r) (by omega) (by omega) (by omega)]
      refine ⟨?_, ?_, pr.2.2⟩
      · rw [← pr.1]; simp (disch := omega) only [zDn, zUp_o, zUp_s]
      · rw [← pr.2.1]; simp (disch := omega) only [zDn, zUp_o, zUp_s]
end
