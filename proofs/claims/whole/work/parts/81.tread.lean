/-! tread, reader, ask, toe, lift -/
section
variable {d : Nat} {Q : Int → z_M → Prop}
theorem sp77 {V : z_M} {n : Nat} {a b c : Int} (hn : V 37 7 = (n : Int)) (hn2 : n < 12) (h : Q (n : Int) (z_up (z_up (z_up (z_up (z_up V 39 n a) 40 n b) 41 n c) 42 n 0) 37 7 ((n : Int) + 1))) : z_MS (d + 1) 77 true [.inr (.inr 37), .inl a, .inl b, .inl c] V Q := by
  refine zb77_37 _ _ _ (z_ifp (by omega) ?_)
  refine z_gp (by omega) (z_all ?_)
  rw [show z_up V 39 (V 37 7).toNat a 37 7 = V 37 7 from rfl, hn, Int.toNat_natCast]
  refine z_gp (by omega) (z_all ?_)
  rw [show z_up (z_up V 39 n a) 40 n b 37 7 = V 37 7 from rfl, hn, Int.toNat_natCast]
  refine z_gp (by omega) (z_all ?_)
  rw [show z_up (z_up (z_up V 39 n a) 40 n b) 41 n c 37 7 = V 37 7 from rfl, hn, Int.toNat_natCast]
  refine z_gp (by omega) (z_all ?_)
  rw [show z_up (z_up (z_up (z_up V 39 n a) 40 n b) 41 n c) 42 n 0 37 7 = V 37 7 from rfl, hn]
  refine z_all ?_
  rw [z_add_e (by omega), zUp_s, z_sub_e (by omega), show (n : Int) + 1 - 1 = (n : Int) by omega]
  exact h
theorem cm_tread {V : z_M} (hR : zR V) (a b : Int) : zPr (d + 5) 92 161 [.inl a, .inl b] V := by
  have hR2 := hR
  obtain ⟨⟨Λ, hT, hc⟩, r3, r4, r5⟩ := hR2
  obtain ⟨n, R, m, hn, hRr, hm, n12, R6, m7⟩ := zR_nat hT
  have a0 := zT_0 hT
  have a1 := zT_1 hT
  have a4 := zT_4 hT
  have rj : ∀ e : Int, -6 ≤ e ∧ e ≤ -1 → (¬ (zBk 0 a ∧ zBk 1 b) ∧ e = -1) ∨ ((zBk 0 a ∧ zBk 1 b) ∧ n = 12 ∧ e = -5) → z_MS (d + 5) 161 true [.inr (.inr 141), .inl a, .inl b] (zRf e V) (fun z2 X => z2 = e ∧ zR X) := by
    intro e he h
    have fin := zR_rf he hR
    refine zb161_141 _ _ (z_all (sp159 (d := d + 2) (fun h1 => z_ifn (by decide) (sp159 (d := d + 2) (fun h2 => z_ifn (by decide) (sp154 (d := d + 3) ?_)) (fun h2 => z_ifp rfl ?_))) (fun h1 => z_ifp rfl ?_)))
    · rcases h with ⟨h3, _⟩ | ⟨_, h3, h4⟩
      · exact absurd ⟨h1, h2⟩ h3
      · subst h4
        exact z_ifp (by show V 143 0 = 12; omega) (sp149 (d := d + 3) he ⟨rfl, fin⟩)
    · rcases h with ⟨_, h4⟩ | ⟨h3, _⟩
      · subst h4; exact sp149 (d := d + 3) he ⟨rfl, fin⟩
      · exact absurd h3.2 h2
    · rcases h with ⟨_, h4⟩ | ⟨h3, _⟩
      · subst h4; exact sp149 (d := d + 3) he ⟨rfl, fin⟩
      · exact absurd h3.1 h1
  refine zb92_36 _ _ (sp134 (d := d + 2) r5.1 (fun h1 => z_ifn (by decide) (sp134 (d := d + 2) r5.1 (fun h2 => z_ifn (by decide) ?_) (fun h2 => z_ifp rfl (sp130 (d := d + 2) (by decide) (rj _ (by decide) (Or.inl ⟨fun q => h2 q.2, rfl⟩)))))) (fun h1 => z_ifp rfl (sp130 (d := d + 2) (by decide) (rj _ (by decide) (Or.inl ⟨fun q => h1 q.1, rfl⟩)))))
  by_cases c : n = 12
  · refine zb77_37 _ _ _ (z_ifn (by omega) (sp132n (d := d + 1) (rj _ (by decide) (Or.inr ⟨⟨h1, h2⟩, c, rfl⟩))))
  · refine sp77 (d := d + 3) (n := n) (by omega) (by omega) (sp132 (d := d + 2) (by omega) ?_)
    generalize hW : zDn (z_up (z_up (z_up (z_up (z_up V 39 n a) 40 n b) 41 n 0) 42 n 0) 37 7 ((n : Int) + 1)) = W
    have e143 : W 143 = V 143 := by subst hW; rfl
    have l1 : ∀ x, ¬ x = 36 → ¬ x = 37 → ¬ x = 39 → ¬ x = 40 → ¬ x = 41 → ¬ x = 42 → ¬ x = 119 → ¬ x = 123 → W x = V x := by
      intro x x1 x2 x3 x4 x5 x6 x7 x8
      subst hW
      unfold zDn
      simp (disch := omega) only [z_up_cell]
    refine zb161_141 _ _ (z_all (sp159 (d := d + 2) (fun _ => z_ifn (by decide) (sp159 (d := d + 2) (fun _ => z_ifn (by decide) (sp154 (d := d + 3) ?_)) (fun q => absurd h2 q))) (fun q => absurd h1 q)))
    rw [show z_up W 141 0 0 143 = V 143 from e143, hn]
    refine z_ifn (by omega) (zb160_141 _ _ _ (sp154 (d := d + 2) ?_))
    have i0 : z_add 8 (z_mul 4 (n : Int)) = ((8 + 4 * n : Nat) : Int) := by simp (disch := omega) only [z_mul_e, z_add_e, z_sub_e]; omega
    have i1 : z_add ((8 + 4 * n : Nat) : Int) 1 = ((9 + 4 * n : Nat) : Int) := by simp (disch := omega) only [z_mul_e, z_add_e, z_sub_e]; omega
    have i2 : z_add ((8 + 4 * n : Nat) : Int) 2 = ((10 + 4 * n : Nat) : Int) := by simp (disch := omega) only [z_mul_e, z_add_e, z_sub_e]; omega
    have i3 : z_add ((8 + 4 * n : Nat) : Int) 3 = ((11 + 4 * n : Nat) : Int) := by simp (disch := omega) only [z_mul_e, z_add_e, z_sub_e]; omega
    rw [show z_up W 141 0 0 143 = V 143 from e143, hn, i0, i1, i2, i3]
    refine z_gp (by omega) (z_all (z_gp (by omega) (z_all (z_gp (by omega) (z_all (z_gp (by omega) (z_all (z_all ?_))))))))
    rw [Int.toNat_natCast, Int.toNat_natCast, Int.toNat_natCast, Int.toNat_natCast]
    generalize hX : z_up (z_up (z_up (z_up (z_up W 141 0 0) 143 (8 + 4 * n) a) 143 (9 + 4 * n) b) 143 (10 + 4 * n) 0) 143 (11 + 4 * n) 0 = X
    have x0 : X 143 0 = (n : Int) := by
      subst hX
      simp (disch := omega) only [zUp_o]
      rw [e143, hn]
    rw [x0, z_add_e (by omega)]
    refine sp154 (d := d + 3) ?_
    rw [zUp_s, z_sub_e (by omega), show (n : Int) + 1 - 1 = (n : Int) by omega]
    refine sp149p (d := d + 3) (by omega) ⟨rfl, ?_⟩
    have xr : ∀ j, ¬ j = 0 → ¬ j = 8 + 4 * n → ¬ j = 9 + 4 * n → ¬ j = 10 + 4 * n → ¬ j = 11 + 4 * n → z_up (z_up X 143 0 ((n : Int) + 1)) 141 1 0 143 j = V 143 j := by
      intro j j0 j1 j2 j3 j4
      subst hX
      simp (disch := omega) only [zUp_o]
      rw [e143]
    have xn : z_up (z_up X 143 0 ((n : Int) + 1)) 141 1 0 143 0 = (n : Int) + 1 ∧ z_up (z_up X 143 0 ((n : Int) + 1)) 141 1 0 143 (8 + 4 * n) = a ∧ z_up (z_up X 143 0 ((n : Int) + 1)) 141 1 0 143 (9 + 4 * n) = b ∧ z_up (z_up X 143 0 ((n : Int) + 1)) 141 1 0 143 (10 + 4 * n) = 0 ∧ z_up (z_up X 143 0 ((n : Int) + 1)) 141 1 0 143 (11 + 4 * n) = 0 := by
      subst hX
      simp (disch := omega) only [zUp_o, zUp_s, and_self]
    have xc : ∀ x, ¬ x = 141 → ¬ x = 143 → z_up (z_up X 143 0 ((n : Int) + 1)) 141 1 0 x = W x := by
      intro x x1 x2
      subst hX
      simp (disch := omega) only [z_up_cell]
    have x141 : z_up (z_up X 143 0 ((n : Int) + 1)) 141 1 0 141 1 = 0 ∧ ∀ k, ¬ k = 0 → ¬ k = 1 → z_up (z_up X 143 0 ((n : Int) + 1)) 141 1 0 141 k = V 141 k := by
      subst hX
      refine ⟨zUp_s, fun k k1 k2 => ?_⟩
      simp (disch := omega) only [zUp_o]
      rw [l1 141 (by decide) (by decide) (by decide) (by decide) (by decide) (by decide) (by decide) (by decide)]
    generalize z_up (z_up X 143 0 ((n : Int) + 1)) 141 1 0 = Y at xr xn xc x141
    obtain ⟨y0, y1, y2, y3, y4⟩ := xn
    have wl : ∀ x, ¬ x = 36 → ¬ x = 37 → ¬ x = 39 → ¬ x = 40 → ¬ x = 41 → ¬ x = 42 → ¬ x = 119 → ¬ x = 123 → ¬ x = 141 → ¬ x = 143 → Y x = V x := fun x p1 p2 p3 p4 p5 p6 p7 p8 p9 p10 => by rw [xc x p9 p10, l1 x p1 p2 p3 p4 p5 p6 p7 p8]
    have wd : ∀ x k, ¬ (x = 36 ∧ k = 15) → ¬ (x = 37 ∧ k = 7) → ¬ (k = n ∧ 39 ≤ x ∧ x ≤ 42) → ¬ x = 119 → ¬ x = 123 → ¬ x = 141 → ¬ x = 143 → Y x k = V x k := by
      intro x k p1 p2 p3 p4 p5 p6 p7
      rw [xc x p6 p7]
      subst hW
      unfold zDn
      simp (disch := omega) only [zUp_o]
    have wn : Y 37 7 = (n : Int) + 1 ∧ Y 39 n = a ∧ Y 40 n = b ∧ Y 41 n = 0 ∧ Y 42 n = 0 ∧ Y 36 15 = 0 ∧ Y 119 1 = 0 ∧ Y 123 1 = 0 := by
      rw [xc 37 (by decide) (by decide), xc 39 (by decide) (by decide), xc 40 (by decide) (by decide), xc 41 (by decide) (by decide), xc 42 (by decide) (by decide), xc 36 (by decide) (by decide), xc 119 (by decide) (by decide), xc 123 (by decide) (by decide)]
      subst hW
      unfold zDn
      simp (disch := omega) only [zUp_o, zUp_s, and_self]
    obtain ⟨v0, v1, v2, v3, v4, v5, v6, v7⟩ := wn
    clear hX hW l1 e143 xc i0 i1 i2 i3 x0
    refine zR_dn hR (Λ := Λ) ?_ (fun x hx => by unfold zKd at hx; exact wl x (by omega) (by omega) (by omega) (by omega) (by omega) (by omega) (by omega) (by omega) (by omega) (by omega)) (fun k hk hk1 => by unfold zKf at hk; exact x141.2 k (by omega) hk1) (wd 36 13 (by omega) (by omega) (by omega) (by omega) (by omega) (by omega) (by omega)) (wd 36 14 (by omega) (by omega) (by omega) (by omega) (by omega) (by omega) (by omega)) (by rw [v5, x141.1]) v6 v7
    have r0 : ∀ j, ¬ j = 0 → j < 8 ∨ 56 ≤ j → Y 143 j = V 143 j := fun j j0 j1 => xr j j0 (by omega) (by omega) (by omega) (by omega)
    have u : ∀ x k, 43 ≤ x → x ≤ 60 → Y x k = V x k := fun x k p q => wd x k (by omega) (by omega) (by omega) (by omega) (by omega) (by omega) (by omega)
    have u2 : ∀ k, ¬ k = 7 → Y 37 k = V 37 k := fun k p => wd 37 k (by omega) (by omega) (by omega) (by omega) (by omega) (by omega) (by omega)
    have b2 := zT_2 hT
    have b3 := zT_3 hT
    have b5 := zT_5 hT
    have b6 := zT_6 hT
    have b7 := zT_7 hT
    refine zT_mk hT (fun k hk => r0 k (by omega) (by omega)) (r0 2 (by decide) (by omega)) (wl 0 (by decide) (by decide) (by decide) (by decide) (by decide) (by decide) (by decide) (by decide) (by decide) (by decide)) (u2 9 (by decide)) (wl 47 (by decide) (by decide) (by decide) (by decide) (by decide) (by decide) (by decide) (by decide) (by decide) (by decide)) (fun x hx => wl x (by omega) (by omega) (by omega) (by omega) (by omega) (by omega) (by omega) (by omega) (by omega) (by omega)) ⟨by rw [v0, y0], by omega, by omega⟩ (by rw [u2 8 (by decide), r0 1 (by decide) (by omega)]; exact a1) (by rw [u2 10 (by decide), r0 3 (by decide) (by omega), r0 2 (by decide) (by omega)]; exact b3) (by rw [u2 11 (by decide), r0 4 (by decide) (by omega)]; exact a4) (by rw [u2 12 (by decide), r0 5 (by decide) (by omega)]; exact b5) (by rw [u 46 0 (by decide) (by decide), r0 6 (by decide) (by omega)]; exact b6) (by rw [u 46 1 (by decide) (by decide), r0 7 (by decide) (by omega)]; exact b7) (fun t ht => ?_) (fun r hr => ?_) (fun k hk => ?_) (fun k hk => ?_)
    · rw [y0] at ht
      unfold zBk at h1 h2
      by_cases et : t = n
      · subst et
        rw [show Y (37 + 2) t = a from v1, show Y (37 + 3) t = b from v2, show Y (37 + 4) t = 0 from v3, show Y (37 + 5) t = 0 from v4, y1, y2, y3, y4]
        omega
      · have pt := zT_t hT (t := t) (by omega)
        rw [wd (37 + 2) t (by omega) (by omega) (by omega) (by omega) (by omega) (by omega) (by omega), wd (37 + 3) t (by omega) (by omega) (by omega) (by omega) (by omega) (by omega) (by omega), wd (37 + 4) t (by omega) (by omega) (by omega) (by omega) (by omega) (by omega) (by omega), wd (37 + 5) t (by omega) (by omega) (by omega) (by omega) (by omega) (by omega) (by omega), xr (8 + 4 * t) (by omega) (by omega) (by omega) (by omega) (by omega), xr (9 + 4 * t) (by omega) (by omega) (by omega) (by omega) (by omega), xr (10 + 4 * t) (by omega) (by omega) (by omega) (by omega) (by omega), xr (11 + 4 * t) (by omega) (by omega) (by omega) (by omega) (by omega)]
        exact pt
    · rw [r0 1 (by decide) (by omega)] at hr
      rw [u (37 + 7) r (by omega) (by omega), u (37 + 8) r (by omega) (by omega), r0 (56 + 2 * r) (by omega) (by omega), r0 (57 + 2 * r) (by omega) (by omega)]
      exact zT_r hT hr
    · rw [r0 4 (by decide) (by omega)] at hk
      have pa := zT_a hT hk
      rw [u (37 + 12) k (by omega) (by omega), u (37 + 13) k (by omega) (by omega), r0 (68 + 2 * k) (by omega) (by omega), r0 (69 + 2 * k) (by omega) (by omega), r0 1 (by decide) (by omega), y0]
      omega
    · rw [r0 5 (by decide) (by omega)] at hk
      rw [u (37 + 14) k (by omega) (by omega), r0 (82 + k) (by omega) (by omega)]
      exact zT_o hT hk
end
