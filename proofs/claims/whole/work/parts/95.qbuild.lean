/-! build of class and reference -/
section
variable {d : Nat} {Q : Int → z_M → Prop}
theorem cm_build {V : z_M} (hR : zR V) : zPr (d + 18) 117 236 [] V := by
  have hR2 := hR
  obtain ⟨⟨Λ, hT, hc⟩, r3, r4, r5⟩ := hR2
  obtain ⟨n, R, m, hn, hRr, hm, n12, R6, m7⟩ := zR_nat hT
  have a0 := zT_0 hT
  have a1 := zT_1 hT
  have a4 := zT_4 hT
  have e7 : V 37 7 = (n : Int) := by omega
  have e11 : V 37 11 = (m : Int) := by omega
  obtain ⟨k1, k2⟩ := hc n R m hn hRr hm
  refine zb117_36 (z_ifc (fun c => sp130 (d := d + 15) (by decide) ?_) (fun c => ?_))
  · have fin := zR_rf (e := -3) (by decide) hR
    refine zb236_141 (z_all (sp154 (d := d + 16) ?_))
    rw [show z_up (zRf (-3) V) 141 0 0 143 = V 143 from rfl, hn]
    exact z_ifp (by omega) (sp149 (d := d + 16) (by decide) ⟨rfl, fin⟩)
  have hn6 : n ≤ 6 := by omega
  refine sp2 (d := d + 1) hT hn hRr hm hn6 (k2.imp id (fun q => ⟨q.1, q.2.2⟩)) (fun W w1 w2 w3 => ?_)
  obtain ⟨hpos, row, hrow, hrow2⟩ := zBB_p (ρ := V 143) (Λ := Λ) (n := n) (R := R) (m := m) hn6
  have pp := zPm_2 hn6 hrow
  have w124 : ∀ t, t < n → W 124 t = (zLf row t : Int) := by
    rcases w3.2.2.2 with q | q
    · exact absurd q hpos
    · intro t ht
      have := q t ht
      rw [hrow2] at this
      exact this
  have hTT : ∀ s, s < m → V 50 s = (zAk (V 143) s : Int) ∧ zAk (V 143) s < n := fun s hs => by
    have pk := zAk_lt hT hn hm hs
    have pa := zT_a hT (a := s) (by omega)
    exact ⟨by rw [← pk.2]; exact pa.2.1, pk.1⟩
  have wv : ∀ a, (a < 94 ∨ 117 ≤ a) → (a < 123 ∨ 133 < a) → W a = V a := w1
  have lp : ∀ (k t : Nat), t + k = n → z_Ex (z_MS (d + 17)) 117 (fun z W => z_MS (d + 18) 236 true [.inr (.inr 141)] W (fun z2 X => z2 = z ∧ zR X)) true 42 [some (.inr (.inr 36)), some (.inl (zCt t (fun t => !decide (zLf row t = t)) : Int)), some (.inl (t : Int))] [] 0 0 W := by
    intro k
    induction k with
    | zero =>
      intro t e
      have e2 : t = n := by omega
      subst e2
      refine zb117_36_p42 _ _ (z_ifn (by rw [wv 37 (by omega) (by omega)]; omega) ?_)
      refine sp87_124 (d := d + 14) (V := W) (n := t) (m := m) (σ := zLf row) (τ := zIx row) (T := zAk (V 143)) (by rw [wv 37 (by omega) (by omega)]; exact e7) (by omega) (by rw [wv 37 (by omega) (by omega)]; exact e11) m7 w124 pp (fun s hs => by rw [wv 50 (by omega) (by omega)]; exact hTT s hs) (fun Z z1 z2 z3 => sp131 (d := d + 16) ?_)
      have zv : ∀ x, ¬ (39 ≤ x ∧ x ≤ 42) → ¬ x = 50 → ¬ x = 52 → (x < 94 ∨ 117 ≤ x) → (x < 123 ∨ 133 < x) → Z x = V x := fun x p q r s u => by rw [z1 x p q r, wv x s u]
      have e143 : z_up (zDn Z) 141 0 0 143 = V 143 := by simp (disch := omega) only [zDn, z_up_cell]; exact zv 143 (by omega) (by decide) (by decide) (by omega) (by omega)
      refine zb236_141 (z_all (sp154 (d := d + 16) ?_))
      rw [e143, hn]
      refine z_ifn (by omega) ?_
      refine sp234 (d := d + 8) hT e143 hn hRr hm hn6 (fun Y y1 y2 => ?_)
      have y143 : Y 143 = V 143 := by rw [y1.1 143 (by decide) (by omega)]; exact e143
      have y164 : ∀ s, s < t → Y 164 s = (zLf row s : Int) := by
        rcases y2.2.2.2 with q | q
        · exact absurd q hpos
        · intro s hs
          have := q s hs
          rw [hrow2] at this
          exact this
      refine lp236 (d := d + 15) (n := t) (m := m) (σ := zLf row) (τ := zIx row) (T := zAk (V 143)) hn6 m7 y143 hn hm pp y164 (fun s hs => ⟨(zAk_lt hT hn hm hs).2, (zAk_lt hT hn hm hs).1⟩) (fun X x1 x2 x3 x4 => ⟨rfl, ?_⟩)
      have zc : ∀ x, (x < 153 ∨ 168 ≤ x) → ¬ x = 141 → ¬ x = 143 → z_up X 141 1 0 x = zDn Z x := fun x p q r => by rw [z_up_cell q, x1 x r (by omega), y1.1 x q (by omega), z_up_cell q]
      have ww : ∀ x, ¬ (39 ≤ x ∧ x ≤ 42) → ¬ x = 36 → ¬ x = 50 → ¬ x = 52 → (x < 94 ∨ 134 ≤ x) → (x < 153 ∨ 168 ≤ x) → ¬ x = 141 → ¬ x = 143 → z_up X 141 1 0 x = V x := fun x p0 p1 p2 p3 p4 p5 p7 p8 => by
        rw [zc x p5 p7 p8]
        simp (disch := omega) only [zDn, z_up_cell]
        exact zv x p0 p2 p3 (by omega) (by omega)
      have z36 : ∀ k, ¬ k = 15 → z_up X 141 1 0 36 k = V 36 k := fun k hk => by
        rw [zc 36 (by omega) (by decide) (by decide)]; simp (disch := omega) only [zDn, zUp_o, zUp_s]; rw [zv 36 (by omega) (by decide) (by decide) (by omega) (by omega)]
      have z141 : ∀ k, zKf k → ¬ k = 1 → z_up X 141 1 0 141 k = V 141 k := fun k k0 k1 => by
        unfold zKf at k0
        rw [zUp_o (by omega), x1 141 (by decide) (by decide), y1.2 k (by omega)]; simp (disch := omega) only [zDn, zUp_o, zUp_s]; rw [zv 141 (by omega) (by decide) (by decide) (by omega) (by omega)]
      refine zR_dn hR (Λ := Λ) ?_ (fun x hx => by unfold zKd at hx; exact ww x (by omega) (by omega) (by omega) (by omega) (by omega) (by omega) (by omega) (by omega)) z141 (z36 13 (by decide)) (z36 14 (by decide)) (by rw [zc 36 (by omega) (by decide) (by decide)]; simp (disch := omega) only [zDn, zUp_o, zUp_s]) (by rw [zc 119 (by omega) (by decide) (by decide)]; simp (disch := omega) only [zDn, zUp_o, zUp_s]) (by rw [zc 123 (by omega) (by decide) (by decide)]; simp (disch := omega) only [zDn, zUp_o, zUp_s])
      rw [show z_up X 141 1 0 143 = X 143 from z_up_cell (by decide)]
      refine zT_re hT hn hm pp (fun x p q r => ?_) (by decide) (fun w s hw hs => ?_) (fun s hs => ?_) x2 x3 x4
      · exact ww x (by omega) (by omega) (by omega) (by omega) (by omega) (by omega) (by omega) (by omega)
      · rw [zc _ (by omega) (by omega) (by omega)]
        unfold zDn
        rw [z_up_cell (by omega), z_up_cell (by omega), z_up_cell (by omega), show 37 + 2 + w = 39 + w by omega, z2 w s hw hs, wv _ (by omega) (by omega)]
      · rw [zc _ (by omega) (by omega) (by omega)]
        exact z3 s hs
    | succ k ih =>
      intro t e
      have hle := zCt_le (n := t) (f := fun t => !decide (zLf row t = t))
      refine zb117_36_p42 _ _ (z_ifp (by rw [wv 37 (by omega) (by omega)]; omega) (z_gp (by omega) (z_all ?_)))
      rw [Int.toNat_natCast, w124 t (by omega), z_inc (i := t) (by omega), z_inc (i := zCt t _) (by omega)]
      have nx := ih (t + 1) (by omega)
      rw [zCt] at nx
      refine z_ifc (fun c => ?_) (fun c => ?_)
      · rw [show (!decide (zLf row t = t)) = false by simp; omega] at nx
        exact nx
      · rw [show (!decide (zLf row t = t)) = true by simp; omega] at nx
        exact nx
  exact lp n 0 (by omega)
end
