/-! days: class and reference alike -/
theorem cm_days {d : Nat} {V : z_M} (hR : zR V) (a b : Int) : zPr (d + 20) 124 245 [.inl a, .inl b] V := by
  have hR2 := hR
  obtain ⟨⟨Λ, hT, hc⟩, r3, r4, r5⟩ := hR2
  obtain ⟨n, R, m, hn, hRr, hm, n12, R6, m7⟩ := zR_nat hT
  have a0 := zT_0 hT
  have a1 := zT_1 hT
  have a4 := zT_4 hT
  have hlb : ∀ p, p ≤ n → 0 ≤ zLE (V 143) (fun t => t) p ∧ zLE (V 143) (fun t => t) p ≤ 108 := fun p hp => zLE_b hT hn (fun t ht => ht) hp
  have fin := zR_rf (e := -1) (by decide) hR
  have rj : ¬ ((0 ≤ a ∧ a ≤ 1000000) ∧ 1 ≤ b ∧ b ≤ 20) → z_MS (d + 20) 245 true [.inr (.inr 141), .inl a, .inl b] (zRf (-1) V) (fun z2 X => z2 = -1 ∧ zR X) := fun hno => zb245_141 _ _ (z_all (sp145 (d := d + 18) (fun h1 => z_ifn (by decide) (sp145 (d := d + 18) (fun h2 => absurd ⟨h1, h2⟩ hno) (fun h2 => z_ifp rfl (sp149 (d := d + 18) (by decide) ⟨rfl, fin⟩)))) (fun h1 => z_ifp rfl (sp149 (d := d + 18) (by decide) ⟨rfl, fin⟩))))
  refine zb124_36 _ _ (sp133 (d := d + 18) (fun h1 => z_ifn (by decide) (sp133 (d := d + 18) (fun h2 => z_ifn (by decide) ?_) (fun h2 => z_ifp rfl (sp130 (d := d + 17) (by decide) (rj (fun x => h2 x.2)))))) (fun h1 => z_ifp rfl (sp130 (d := d + 17) (by decide) (rj (fun x => h1 x.1)))))
  obtain ⟨x, hx⟩ := Int.eq_ofNat_of_zero_le h1.1
  obtain ⟨k, hk⟩ := Int.eq_ofNat_of_zero_le (show 0 ≤ b by omega)
  subst hx
  subst hk
  refine sp139 (d := d + 13) r5.1 hT hn hRr (fun W w1 w2 w3 => ?_)
  have hTW : zT 37 (V 143) W Λ := zT_off hT w1 (by decide) (by decide) (by decide)
  refine sp12 (d := d + 14) (ρ := V 143) (fun i x y => by rw [w1 i (by omega)]; exact r5.1 i x y) hTW hn hRr w2 (by omega) (by omega) (fun X x1 x2 x3 => sp131 (d := d + 18) ?_)
  have xc : ∀ i, ¬ (94 ≤ i ∧ i ≤ 115) → ¬ i = 134 → ¬ (136 ≤ i ∧ i ≤ 138) → X i = V i := fun i p q r => (x1 i (by omega) (by omega) (by omega) q r).trans (w1 i (by omega))
  have yc : ∀ i, ¬ i = 36 → ¬ i = 119 → ¬ i = 123 → zDn X i = X i := fun i p q r => by unfold zDn; rw [z_up_cell r, z_up_cell q, z_up_cell p]
  have yv : zDn X 36 15 = 0 ∧ zDn X 36 13 = X 36 13 ∧ zDn X 36 14 = X 36 14 ∧ zDn X 119 1 = 0 ∧ zDn X 123 1 = 0 := by
    unfold zDn
    refine ⟨?_, ?_, ?_, ?_, ?_⟩ <;> simp (disch := omega) only [zUp_o, zUp_s]
  generalize zDn X = Y at yc yv ⊢
  have yV : ∀ i, ¬ (94 ≤ i ∧ i ≤ 115) → ¬ i = 134 → ¬ (136 ≤ i ∧ i ≤ 138) → ¬ i = 36 → ¬ i = 119 → ¬ i = 123 → Y i = V i := fun i p q r s t u => (yc i s t u).trans (xc i p q r)
  have e143 : z_up Y 141 0 0 143 = V 143 := by rw [z_up_cell (by decide), yV 143 (by omega) (by omega) (by omega) (by omega) (by omega) (by omega)]
  refine zb245_141 _ _ (z_all (sp145 (d := d + 18) (fun _ => z_ifn (by decide) (sp145 (d := d + 18) (fun _ => z_ifn (by decide) ?_) (fun q => absurd h2 q))) (fun q => absurd h1 q)))
  refine sp201 (d := d + 12) hT e143 hn hRr hm (fun Z z1 z2 => z_all (z_all ?_))
  have u0 : ∀ i, ¬ i = 141 → z_up (z_up Z 141 53 (x : Int)) 141 55 (k : Int) i = Z i := fun i hi => by rw [z_up_cell hi, z_up_cell hi]
  have u1 : ∀ i, ¬ i = 53 → ¬ i = 55 → z_up (z_up Z 141 53 (x : Int)) 141 55 (k : Int) 141 i = Z 141 i := fun i p q => by rw [zUp_o (by omega), zUp_o (by omega)]
  have u53 : z_up (z_up Z 141 53 (x : Int)) 141 55 (k : Int) 141 53 = (x : Int) := by rw [zUp_o (by omega), zUp_s]
  have u55 : z_up (z_up Z 141 53 (x : Int)) 141 55 (k : Int) 141 55 = (k : Int) := zUp_s
  have hC : zMC (z_up (z_up Z 141 53 (x : Int)) 141 55 (k : Int)) (V 143) n R m (zLE (V 143) (fun t => t)) (zCR (V 143) Λ (fun t => t)) (zAk (V 143)) (zG0 (V 143) (fun t => t)) := zMC_c z2 (u0 143 (by decide)) (u0 156 (by decide)) (u0 157 (by decide)) (u0 158 (by decide)) (u1 36 (by decide) (by decide))
  generalize z_up (z_up Z 141 53 (x : Int)) 141 55 (k : Int) = U at u0 u1 u53 u55 hC ⊢
  refine lp245b (d := d + 14) (lev := zLE (V 143) (fun t => t)) hT rfl hlb hC u53 (by omega) (by omega) (fun S s1 s2 s3 => ⟨rfl, ?_⟩)
  -- all that is kept
  have sV : ∀ i, ¬ (94 ≤ i ∧ i ≤ 115) → ¬ i = 134 → ¬ (136 ≤ i ∧ i ≤ 138) → ¬ i = 36 → ¬ i = 119 → ¬ i = 123 → ¬ i = 141 → ¬ (153 ≤ i ∧ i ≤ 162) → ¬ i = 168 → z_up S 141 1 0 i = V i := fun i p q r s t u v w y => by
    rw [z_up_cell v, s1 i v y (by omega), u0 i v, z1.1 i v (by omega), z_up_cell v]
    exact yV i p q r s t u
  have sX : ∀ i, ¬ i = 141 → ¬ (153 ≤ i ∧ i ≤ 162) → ¬ i = 168 → z_up S 141 1 0 i = Y i := fun i v w y => by
    rw [z_up_cell v, s1 i v y (by omega), u0 i v, z1.1 i v (by omega), z_up_cell v]
  have s141 : ∀ i, ¬ i = 0 → ¬ i = 1 → (i < 26 ∨ 53 < i) → ¬ i = 55 → z_up S 141 1 0 141 i = V 141 i := fun i p0 p q r => by
    rw [zUp_o (by omega), s2 i (by omega), u1 i (by omega) r, z1.2 i (by omega), zUp_o (by omega), yV 141 (by omega) (by omega) (by omega) (by omega) (by omega) (by omega)]
  have s55 : z_up S 141 1 0 141 55 = (k : Int) := by rw [zUp_o (by omega), s2 55 (by omega)]; exact u55
  have s168 : ∀ i, z_up S 141 1 0 168 i = S 168 i := fun i => by rw [z_up_cell (by decide)]
  have s134 : z_up S 141 1 0 134 1 = (k : Int) := by rw [sX 134 (by decide) (by decide) (by decide), yc 134 (by decide) (by decide) (by decide)]; exact x2
  have s36 : z_up S 141 1 0 36 = Y 36 := sX 36 (by decide) (by decide) (by decide)
  have sw : ∀ w i, w < 3 → z_up S 141 1 0 (136 + w) i = X (136 + w) i := fun w i hw => by rw [sX (136 + w) (by omega) (by omega) (by omega), yc (136 + w) (by omega) (by omega) (by omega)]
  have s1' : z_up S 141 1 0 141 1 = 0 := zUp_s
  generalize z_up S 141 1 0 = T at sV sX s141 s55 s168 s134 s36 sw s1' ⊢
  obtain ⟨m1, m2, m3, m4, m5, m6, m7, m8, m9⟩ := r5
  have v : ∀ i, (i < 94 ∧ ¬ i = 36) ∨ i = 140 ∨ (142 ≤ i ∧ i ≤ 152) ∨ 169 ≤ i → T i = V i := fun i hi => sV i (by omega) (by omega) (by omega) (by omega) (by omega) (by omega) (by omega) (by omega) (by omega)
  refine ⟨⟨Λ, ?_, fun n R m _ _ _ => ⟨Or.inl (by rw [sX 119 (by decide) (by decide) (by decide)]; exact yv.2.2.2.1), Or.inl (by rw [sX 123 (by decide) (by decide) (by decide)]; exact yv.2.2.2.2)⟩⟩, ?_, ?_, ?_⟩
  · rw [v 143 (by omega)]
    exact zT_c hT (v 0 (by omega)) (fun i p q => v i (by omega)) (fun i p => v i (by omega))
  · exact zRi_c r3 (v 0 (by omega)) (v 86 (by omega)) (v 145 (by omega)) (v 144 (by omega)) (fun i p q => v i (by omega)) (fun i p => v i (by omega))
  · exact zRi_c r4 (v 0 (by omega)) (v 86 (by omega)) (v 145 (by omega)) (v 144 (by omega)) (fun i p q => v i (by omega)) (fun i p => v i (by omega))
  · unfold zRm
    rw [v 87 (by omega), v 88 (by omega), v 146 (by omega), v 140 (by omega), v 142 (by omega), v 152 (by omega), v 0 (by omega), s36, yv.1, yv.2.1, yv.2.2.1, xc 36 (by omega) (by omega) (by omega), s1', s141 8 (by omega) (by omega) (by omega) (by omega), s141 6 (by omega) (by omega) (by omega) (by omega), s141 13 (by omega) (by omega) (by omega) (by omega), s55, s134]
    refine ⟨fun i p q => by rw [v i (by omega)]; exact m1 i p q, m2, m3, m4, rfl, m6, ⟨rfl, by omega, by omega, fun w i hw hi => ?_⟩, m8, m9⟩
    rw [sw w i hw, s168]
    have g1 := x3 i (by omega)
    have g2 := s3 i (by omega)
    rcases (by omega : w = 0 ∨ w = 1 ∨ w = 2) with rfl | rfl | rfl
    · exact g1.1.trans g2.1.symm
    · exact zBS_ext g1.2.1 g2.2.1 (fun _ => rfl)
    · exact zBS_ext g1.2.2 g2.2.2 (fun _ => rfl)
