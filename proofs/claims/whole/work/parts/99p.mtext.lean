/-! the reference reads a law: all of its text -/
section
variable {b : Nat → Int} {L n : Nat}
theorem sq71 {D f k s m : Nat} {hd : Int} {V : z_M} {Q : Int → z_M → Prop} (hS : zqS0 V b L f k s) (hm : m < 12) (h15 : V 141 15 = (m : Int))
    (h : ∀ W, zq7 V W → W 141 15 = ((m + 1 : Nat) : Int) → W 147 (8 * m) = hd → W 147 (8 * m + 3) = (s : Int) → (∀ j, j < 8 * m → W 147 j = V 147 j) → zI (hd = 0) (z_MS D 194 true [.inr (.inr 141), .inl 0] W (fun _ V2 => z_Ex (z_MS D) 195 Q true 130 [some (.inr (.inr 141)), some (.inl hd), some (.inl ((8 * m : Nat) : Int)), some (.inl 8)] [] 0 0 V2)) (z_Ex (z_MS D) 195 Q true 130 [some (.inr (.inr 141)), some (.inl hd), some (.inl ((8 * m : Nat) : Int)), some (.inl 8)] [] 0 0 W)) : z_Ex (z_MS D) 195 Q true 71 [some (.inr (.inr 141)), some (.inl hd), some (.inl ((8 * m : Nat) : Int)), some (.inl 0)] [] 0 0 V := by
  have lp : ∀ (n j : Nat) (W : z_M), j + n = 8 → zq7 V W → W 141 15 = (m : Int) → (∀ i, i < 8 * m → W 147 i = V 147 i) → z_Ex (z_MS D) 195 Q true 71 [some (.inr (.inr 141)), some (.inl hd), some (.inl ((8 * m : Nat) : Int)), some (.inl (j : Int))] [] 0 0 W := by
    intro n
    induction n with
    | zero =>
      intro j W e w1 w2 w3
      have ej : j = 8 := by omega
      subst ej
      refine zb195_141_p71 _ _ _ (z_ifn (by decide) (z_gp (by omega) (z_all (z_all ?_))))
      rw [Int.toNat_natCast, z_up_cell (by decide), w2, z_inc (by omega), z_add_e (by omega), show (((8 * m : Nat) : Int) + 3).toNat = 8 * m + 3 by omega]
      have x17 : z_up (z_up W 147 (8 * m) hd) 141 15 ((m + 1 : Nat) : Int) 141 17 = (s : Int) := by rw [zUp_o (by omega), z_up_cell (by decide), w1.2 17 (by decide)]; exact hS.2.2.2.2.2
      rw [x17]
      refine z_gp (by omega) (z_all (h _ (zq7_u (zq7_n (zq7_u w1))) ?_ ?_ zUp_s (fun i hi => ?_)))
      · rw [z_up_cell (by decide), zUp_s]
      · rw [zUp_o (by omega), z_up_cell (by decide), zUp_s]
      · rw [zUp_o (by omega), z_up_cell (by decide), zUp_o (by omega)]
        exact w3 i hi
    | succ n ih =>
      intro j W e w1 w2 w3
      refine zb195_141_p71 _ _ _ (z_ifp (by omega) ?_)
      rw [z_add_e (by omega), z_inc (by omega), show (((8 * m : Nat) : Int) + (j : Int)).toNat = 8 * m + j by omega]
      exact z_gp (by omega) (z_all (ih (j + 1) _ (by omega) (zq7_u w1) (by rw [z_up_cell (by decide)]; exact w2) (fun i hi => by rw [zUp_o (by omega)]; exact w3 i hi)))
  exact lp 8 0 V rfl zq7_r h15 (fun _ _ => rfl)
theorem sq195 {D f k s m : Nat} {x : zpCR} {V : z_M} {Q : Int → z_M → Prop} (hD : 10 ≤ D) (hS : zqS0 V b L f k s) (hsf : s ≤ f) (hm : m < 12) (h15 : V 141 15 = (m : Int)) (e : zpCl b L n f k = some x)
    (h0 : ∀ q : Nat, x = .inl q → ∀ W, zqV V W → W 141 14 = 1 → W 141 13 = (q : Int) → Q 0 W)
    (h1 : ∀ f2 k2 c, x = .inr (f2, k2, c) → ∀ W s2, zqV V W → zqS0 W b L f2 k2 s2 → s2 ≤ f2 → s ≤ s2 → W 141 15 = ((m + 1 : Nat) : Int) → (∀ j, j < s → W 148 j = V 148 j ∧ W 149 j = V 149 j) → (∀ j, j < 8 * m → W 147 j = V 147 j) → zqQ W m s2 c → Q 0 W) : z_MS D 195 true [.inr (.inr 141)] V Q := by
  obtain ⟨D, rfl⟩ : ∃ D2, D = D2 + 10 := ⟨D - 10, by omega⟩
  have hf := hS.2.1.2.2.2.2
  have hL := hS.1.2.1
  have cd := zpCds
  have nx := zpNx_p (b := b) hf
  have mul : ∀ W : z_M, zqN V W → z_mul 8 (W 141 15) = ((8 * m : Nat) : Int) := fun W hW => by rw [hW.2 15 (by omega), h15, z_mul_e (by omega)]; omega
  -- behind the head
  have body : ∀ (hd : Int) (G : zpF), (hd = 0 ∨ hd = 1) → ∀ W, zqN V W → zqS0 W b L (zpNx b L f) k s → (hd = 0 → (∃ q, zpPa b L n 3 0 (zpNx b L f) k zpD0 = some (.inl q) ∧ x = .inl q) ∨ ∃ f2 k2 G, zpPa b L n 3 0 (zpNx b L f) k zpD0 = some (.inr (f2, k2, G)) ∧ zpIf b L n f2 k2 0 G = some x) → (hd = 1 → zpIf b L n (zpNx b L f) k 1 zpD0 = some x) → z_Ex (z_MS (D + 9)) 195 Q true 71 [some (.inr (.inr 141)), some (.inl hd), some (.inl (z_mul 8 (W 141 15))), some (.inl 0)] [] 0 0 W := by
    intro hd G hh W w1 w2 e0 e1
    rw [mul W w1]
    have wX := zqX_n w1
    refine sq71 w2 hm ((w1.2 15 (by omega)).trans h15) (fun U u1 u2 u3 u4 u5 => ?_)
    have SU := zqS0_7 w2 u1
    have fVU : zqV V U := zqV_t (zqV_x wX) (zqV_7 u1)
    have c148 : ∀ j, U 148 j = V 148 j ∧ U 149 j = V 149 j := fun j => by rw [u1.1 148 (by decide) (by decide), u1.1 149 (by decide) (by decide), w1.1 148 (by decide), w1.1 149 (by decide)]; exact ⟨rfl, rfl⟩
    have c147 : ∀ j, j < 8 * m → U 147 j = V 147 j := fun j hj => by rw [u5 j hj, w1.1 147 (by decide)]
    refine z_ifc (fun hz => ?_) (fun hz => ?_)
    · subst hz
      rcases e0 rfl with ⟨q, e2, rfl⟩ | ⟨f2, k2, G, e2, e3⟩
      · exact sq194_s (D := D + 9) (by omega) SU (by omega) e2 (fun q2 ep W3 x1 x2 x3 => sq130_bad hm x2 (fun W4 x4 => h0 q rfl W4 (zqV_t fVU (zqV_t (zqV_x x1) (zqV_7 x4))) ((x4.2 14 (by decide)).trans x2) ((x4.2 13 (by decide)).trans (by cases ep; exact x3)))) (fun _ _ _ ep => nomatch ep)
      · refine sq194_s (D := D + 9) (by omega) SU (by omega) e2 (fun _ ep => nomatch ep) (fun f3 k3 G3 ep W3 s3 x1 x2 x3 x4 x5 => ?_)
        cases ep
        have x7 : ∀ j, W3 147 j = U 147 j := fun j => by rw [x1.1.1 147 (by decide) (by decide) (by decide) (by decide) (by decide)]
        exact sq130 (D := D + 9) (by omega) (zqS_0 x2) (by omega) hm (by rw [x7]; exact u3) (fun _ => ⟨s, by rw [x7]; exact u4, x5⟩) e3 (fun q ep W4 y1 y2 y3 => h0 q ep W4 (zqV_t (zqV_t fVU (zqV_x x1.1)) y1) y2 y3) (fun f4 k4 c ep W4 s4 y1 y2 y3 y4 y5 y6 y7 y8 => h1 f4 k4 c ep W4 s4 (zqV_t (zqV_t fVU (zqV_x x1.1)) y1) y2 y3 (by omega) (by rw [y5, x1.1.2 15 (by unfold zqK; omega)]; exact u2) (fun j hj => ⟨(y6 j (by omega)).1.trans ((x1.2.1 j hj).1.trans (c148 j).1), (y6 j (by omega)).2.trans ((x1.2.1 j hj).2.trans (c148 j).2)⟩) (fun j hj => (y7 j hj).trans ((x7 j).trans (c147 j hj))) y8)
    · have h1' : hd = 1 := by omega
      subst h1'
      exact sq130 (D := D + 9) (by omega) SU (by omega) hm u3 (fun q => absurd q (by decide)) (e1 rfl) (fun q ep W4 y1 y2 y3 => h0 q ep W4 (zqV_t fVU y1) y2 y3) (fun f4 k4 c ep W4 s4 y1 y2 y3 y4 y5 y6 y7 y8 => h1 f4 k4 c ep W4 s4 (zqV_t fVU y1) y2 y3 y4 (y5.trans u2) (fun j hj => ⟨(y6 j hj).1.trans (c148 j).1, (y6 j hj).2.trans (c148 j).2⟩) (fun j hj => (y7 j hj).trans (c147 j hj)) y8)
  refine zb195_141 (sq177 (d := D + 8) hS.2.1 cd.1 (by decide) (by decide) (fun q => z_ifn (by decide) ?_) (fun q => z_ifp rfl (sq177 (d := D + 8) hS.2.1 cd.2.1 (by decide) (by decide) (fun q2 => ?_) (fun q2 => ?_))))
  · rw [if_neg (by decide), h15, if_pos (by omega)]
    refine sqy179 (d := D + 6) hS (fun _ W w1 w2 => z_ifp w2.2.2.1 (body 0 zpD0 (Or.inl rfl) W w1 w2 (fun _ => ?_) (fun q3 => absurd q3 (by decide)))) (fun q3 => absurd q3 (by decide))
    rcases zpCl_e e with ⟨q2, _, _⟩ | ⟨q2, _, _⟩ | ⟨_, e2⟩
    · rw [q] at q2; cases q2
    · rw [q] at q2; cases q2
    · exact e2
  · rw [if_neg (by decide), h15, if_pos (by omega)]
    refine sqy179 (d := D + 6) hS (fun _ W w1 w2 => z_ifp w2.2.2.1 (body 1 zpD0 (Or.inr rfl) W w1 w2 (fun q3 => absurd q3 (by decide)) (fun _ => ?_))) (fun q3 => absurd q3 (by decide))
    rcases zpCl_e e with ⟨_, q3, _⟩ | ⟨_, _, e2⟩ | ⟨q3, _⟩
    · rw [q2] at q3; cases q3
    · exact e2
    · rw [q] at q3; cases q3
  · rw [if_pos rfl, if_pos rfl]
    refine sqy179 (d := D + 6) hS (fun q3 => absurd rfl q3) (fun _ W w1 w2 w3 => z_ifn (by rw [w2]; decide) (h0 f ?_ W (zqV_x w1) w2 w3))
    rcases zpCl_e e with ⟨_, _, h⟩ | ⟨_, q3, _⟩ | ⟨q3, _⟩
    · exact h
    · rw [q2] at q3; cases q3
    · rw [q] at q3; cases q3
theorem sq195_12 {D f k s : Nat} {V : z_M} {Q : Int → z_M → Prop} (hD : 10 ≤ D) (hS : zqS0 V b L f k s) (h15 : V 141 15 = 12) (h0 : ∀ W, zqV V W → W 141 14 = 1 → W 141 13 = (f : Int) → Q 0 W) : z_MS D 195 true [.inr (.inr 141)] V Q := by
  obtain ⟨D, rfl⟩ : ∃ D2, D = D2 + 10 := ⟨D - 10, by omega⟩
  have cd := zpCds
  have go : z_MS (D + 9) 179 true [.inr (.inr 141), .inl 0] V (fun _ W => zI (W 141 14 = 0) False (Q 0 W)) := sqy179 (d := D + 6) hS (fun q => absurd rfl q) (fun _ W w1 w2 w3 => z_ifn (by rw [w2]; decide) (h0 W (zqV_x w1) w2 w3))
  have imp : ∀ (R : z_M → Prop), z_MS (D + 9) 179 true [.inr (.inr 141), .inl 0] V (fun _ W => zI (W 141 14 = 0) (R W) (Q 0 W)) := fun R => z_MS.mono _ _ _ _ _ _ _ (fun z W g => ⟨fun a => (g.1 a).elim, g.2⟩) go
  refine zb195_141 (sq177 (d := D + 8) hS.2.1 cd.1 (by decide) (by decide) (fun q => z_ifn (by decide) ?_) (fun q => z_ifp rfl (sq177 (d := D + 8) hS.2.1 cd.2.1 (by decide) (by decide) (fun q2 => ?_) (fun q2 => ?_))))
  · rw [if_neg (by decide), h15, if_neg (by decide)]
    exact imp _
  · rw [if_neg (by decide), h15, if_neg (by decide)]
    exact imp _
  · rw [if_pos rfl, if_pos rfl]
    exact imp _
abbrev zq97 (D : Nat) (Q : Int → z_M → Prop) (V : z_M) : Prop := z_Ex (z_MS D) 196 Q true 97 [some (.inr (.inr 141)), none, none] [] 0 0 V
theorem sq51_bad {D : Nat} {V : z_M} {Q : Int → z_M → Prop} (h14 : V 141 14 = 1) (h : zq97 D Q V) : z_Ex (z_MS D) 196 Q true 51 [some (.inr (.inr 141)), none, none] [] 0 0 V :=
  zb196_141_p51 (z_ifn (by rw [h14]; decide) (z_ifn (by rw [h14]; decide) h))
theorem zpSo_0 {f : Nat} : zpSo b L f = 0 ↔ ¬ f < L := by
  unfold zpSo
  constructor
  · intro h hf
    rw [if_pos hf] at h
    repeat' split at h
    all_goals omega
  · intro h
    rw [if_neg h]
theorem sq_text {D : Nat} {V0 : z_M} {Q : Int → z_M → Prop} {P : Nat → zpC} (hD : 10 ≤ D) : ∀ (r m f k : Nat) (x : zpTR) (V : z_M) (s : Nat), m + r = 12 → zpTx b L n r f k = some x → zqV V0 V → zqS0 V b L f k s → s ≤ f → V 141 15 = (m : Int) → ((∃ cs, x = .inr cs) → ∀ j, j < m → zqQ V j s (P j)) → (∀ cs, x = .inr cs → ∀ i, i < cs.length → P (m + i) = cs.getD i zpDc) →
    (∀ q : Nat, x = .inl q → ∀ W, zqV V0 W → W 141 14 = 1 → W 141 13 = (q : Int) → zq97 D Q W) → (∀ cs, x = .inr cs → ∀ (W : z_M) (s2 : Nat), zqV V0 W → W 141 14 = 0 → W 141 13 = -1 → W 141 15 = ((m + cs.length : Nat) : Int) → W 141 17 = (s2 : Int) → s2 ≤ 400 → (∀ j, j < m + cs.length → zqQ W j s2 (P j)) → zq97 D Q W) → z_MS D 195 true [.inr (.inr 141)] V (fun _ W => z_Ex (z_MS D) 196 Q true 51 [some (.inr (.inr 141)), none, none] [] 0 0 W)
  | 0, m, f, k, x, V, s, hm, e, hV, hS, hsf, h15, hK, hP, h0, h1 => by
    have hm2 : m = 12 := by omega
    subst hm2
    cases e
    exact sq195_12 hD hS h15 (fun W w1 w2 w3 => sq51_bad w2 (h0 f rfl W (zqV_t hV w1) w2 w3))
  | r + 1, m, f, k, x, V, s, hm, e, hV, hS, hsf, h15, hK, hP, h0, h1 => by
    have hL := hS.1.2.1
    rcases zpTx_e e with ⟨q, e1, rfl⟩ | ⟨f2, k2, c, e1, e2⟩
    · exact sq195 hD hS hsf (by omega) h15 e1 (fun q2 ep W w1 w2 w3 => sq51_bad w2 (h0 q rfl W (zqV_t hV w1) w2 (by cases ep; exact w3))) (fun _ _ _ ep => nomatch ep)
    · refine sq195 hD hS hsf (by omega) h15 e1 (fun _ ep => nomatch ep) (fun f3 k3 c3 ep W s2 w1 w2 w3 w4 w5 w6 w7 w8 => ?_)
      cases ep
      obtain ⟨D, rfl⟩ : ∃ D2, D = D2 + 10 := ⟨D - 10, by omega⟩
      have hf2 := w2.2.1.2.2.2.2
      have kk : P m = c → (∃ cs, x = .inr cs) → ∀ j, j < m + 1 → zqQ W j s2 (P j) := by
        intro hPm hx j hj
        by_cases ej : j = m
        · subst ej; rw [hPm]; exact w8
        · exact zqQ_f (hK hx j (by omega)) w4 (fun i i1 i2 => w7 i (by omega)) (fun i hi => w6 i hi)
      refine zb196_141_p51 (z_ifp w2.2.2.1 ?_)
      rcases e2 with ⟨q1, rfl⟩ | ⟨q1, q2, rfl⟩ | ⟨q1, q2, e3⟩
      · have hPm : P m = c := by have := hP [c] rfl 0 (by simp); exact this
        refine sq178 (d := D + 9) w2.2.1 (by decide) (by decide) (fun q => ?_) (fun _ => z_ifp rfl (z_ifp w2.2.2.1 (z_ifp ?_ ?_)))
        · rw [zpSg_e] at q; omega
        · rw [w2.2.1.2.2.1, zpSo_0]; omega
        · exact h1 [c] rfl W s2 (zqV_t hV w1) w2.2.2.1 w2.2.2.2.1 w5 w2.2.2.2.2.2 (by omega) (kk hPm ⟨_, rfl⟩)
      · refine sq178 (d := D + 9) w2.2.1 (by decide) (by decide) (fun q => absurd q (by rw [q2]; decide)) (fun _ => z_ifp rfl (z_ifp w2.2.2.1 (z_ifn ?_ ?_)))
        · rw [w2.2.1.2.2.1, zpSo_0]; omega
        · exact sqy179 (d := D + 7) w2 (fun q => absurd rfl q) (fun _ W3 x1 x2 x3 => h0 f2 rfl W3 (zqV_t (zqV_t hV w1) (zqV_x x1)) x2 x3)
      · refine sq178 (d := D + 9) w2.2.1 (by decide) (by decide) (fun _ => z_ifn (by decide) ?_) (fun q => absurd q2 (by rw [q]; decide))
        refine sqy176 (d := D + 8) w2 (fun W3 x1 x2 => ?_)
        have nx := zpNx_p (b := b) hf2
        have fV := zqV_t (zqV_t hV w1) (zqV_x (zqX_n x1))
        have x15 : W3 141 15 = ((m + 1 : Nat) : Int) := (x1.2 15 (by omega)).trans w5
        have cQ : ∀ {j c}, zqQ W j s2 c → zqQ W3 j s2 c := fun {j c} h => zqQ_f h (Nat.le_refl _) (fun i _ _ => by rw [x1.1 147 (by decide)]) (fun i _ => by rw [x1.1 148 (by decide), x1.1 149 (by decide)]; exact ⟨rfl, rfl⟩)
        rcases e3 with ⟨q, e4, rfl⟩ | ⟨cs, e4, rfl⟩
        · exact sq_text (P := P) hD r (m + 1) _ _ _ W3 s2 (by omega) e4 fV x2 (by omega) x15 (fun ⟨_, h⟩ => nomatch h) (fun _ ed => nomatch ed) (fun q' ed W w1 w2 w3 => h0 q' ed W w1 w2 w3) (fun _ ed => nomatch ed)
        · have hPm : P m = c := by have := hP (c :: cs) rfl 0 (by simp); exact this
          have kk2 := kk hPm ⟨_, rfl⟩
          exact sq_text hD r (m + 1) _ _ _ W3 s2 (by omega) e4 fV x2 (by omega) x15 (fun _ j hj => cQ (kk2 j hj)) (fun ds ed i hi => by
            cases ed
            have := hP (c :: cs) rfl (i + 1) (by simp; omega)
            rw [show m + 1 + i = m + (i + 1) by omega]
            exact this) (fun _ ed => nomatch ed) (fun ds ed W s4 y1 y2 y3 y4 y5 y6 y7 => by
            cases ed
            have el : m + (c :: cs).length = m + 1 + cs.length := by simp; omega
            exact h1 (c :: cs) rfl W s4 y1 y2 y3 (by rw [el]; exact y4) y5 y6 (by rw [el]; exact y7))
end
