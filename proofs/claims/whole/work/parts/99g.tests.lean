/-! the class's reader: tests -/
theorem zXc_n {V : z_M} {D s e : Nat} {F : zpF} (h1 : zXc V D s e F) (hb : zp01 F) : zXc (zXa V e 9 0) D s (e + 1) (zpNg F) := by
  have x := zXa_s (V := V) (s := e) (a := 9) (c := 0)
  have fr := zXf_a (V := V) (s := e) (s1 := e) (a := 9) (c := 0) (Nat.le_refl e)
  have g1 : zXc (zXa V e 9 0) D s e F := zXc_f h1 (Nat.le_refl _) (fun j hj => fr.2 j hj)
  exact zSeg_not g1 hb (by rw [x.1, x.2]; rfl)
theorem zXc_g {V : z_M} {D s m e : Nat} {a t : Int} {F G : zpF} (h1 : zXc V D s m F) (h2 : zXc V D (m + 1) e G) (ha : (a = 11 ∧ t = 0) ∨ (a = 10 ∧ t = 1)) (hm : V 90 m = a) : zXc (z_up V 91 m (e : Int)) D s e (zpLg t F G) := by
  have c90 : z_up V 91 m (e : Int) 90 = V 90 := z_up_cell (by decide)
  have cm : z_up V 91 m (e : Int) 91 m = (e : Int) := by rw [z_up_rd, if_pos rfl, if_pos rfl]
  have co : ∀ j, ¬ j = m → z_up V 91 m (e : Int) 91 j = V 91 j := fun j hj => by rw [z_up_rd, if_pos rfl, if_neg hj]
  have g1 : zXc (z_up V 91 m (e : Int)) D s m F := zSeg_congr (fun k _ h => by rw [c90, co k (by omega)]; exact ⟨rfl, rfl⟩) (Nat.le_refl D) h1
  have g2 : zXc (z_up V 91 m (e : Int)) D (m + 1) e G := zSeg_congr (fun k h _ => by rw [c90, co k (by omega)]; exact ⟨rfl, rfl⟩) (Nat.le_refl D) h2
  have ho : (zTr (z_up V 91 m (e : Int) 90 m) (z_up V 91 m (e : Int) 91 m) = 28 ∧ t = 0) ∨ (zTr (z_up V 91 m (e : Int) 90 m) (z_up V 91 m (e : Int) 91 m) = 29 ∧ t = 1) := by
    rw [c90, hm]
    rcases ha with ⟨rfl, rfl⟩ | ⟨rfl, rfl⟩
    · exact Or.inl ⟨rfl, rfl⟩
    · exact Or.inr ⟨rfl, rfl⟩
  exact zSeg_congr (fun _ _ _ => ⟨rfl, rfl⟩) (by omega) (zSeg_log g1 g2 ho cm)
section
variable {d : Nat} {b : Nat → Int} {L : Nat}
def zXp (b : Nat → Int) (L n : Nat) : Prop := ∀ (dd f k : Nat) (F : zpF) (x : zpR) (V : z_M) (s t r : Nat) (Q : Int → z_M → Prop) (D : Nat), zpPa b L n 5 dd f k F = some x → dd ≤ 8 → 40 * (8 - dd) + 19 + 4 ≤ D → zXs V b L f k s → s + t ≤ f → r ≤ f → t ≤ 1 → zX0 Q V s x →
  (∀ f2 k2 G, x = .inr (f2, k2, G) → ∀ W s2, zXf V W s → zXs W b L f2 k2 s2 → s ≤ s2 → s2 + f ≤ s + t + f2 → zXc W (20 - 2 * dd) s s2 (if t = 1 then zpNg G else G) → Q 1 W) → z_Ex (z_MS D) 29 Q true 4 [some (.inr (.inr 89)), some (.inl (dd : Int)), some (.inl (t : Int)), some (.inl (r : Int))] [] 0 0 V
theorem spx30 {n dd f k s D : Nat} {F : zpF} {x : zpR} {V : z_M} {Q : Int → z_M → Prop} (ih : zXm b L n 9 27 20 6) (e : (if 8 ≤ dd then some (.inl f) else zpBd (zpPa b L n 9 (dd + 1) (zpNx b L f) k F) fun f2 k2 G => if zpSg b L f2 41 then some (.inr (zpNx b L f2, k2, G)) else some (.inl f2)) = some x) (hdd : dd ≤ 8) (hD : 40 * (8 - dd) + 22 ≤ D) (hS : zXs V b L f k s) (hsf : s ≤ f) (hfl : f < L) (h0 : zX0 Q V s x) (h1 : zX1 Q V b L f s s (20 - 2 * dd) x) : z_MS D 30 true [.inr (.inr 89), .inl (dd : Int)] V Q := by
  obtain ⟨D, rfl⟩ : ∃ D2, D = D2 + 21 := ⟨D - 21, by omega⟩
  have hf := hS.2.2.2.2.2.1
  have nx := zpNx_p (b := b) hf
  have nx2 := nx.2.2.2 hfl
  refine zb30_89 _ ?_
  by_cases h8d : 8 ≤ dd
  · rw [if_pos h8d] at e
    cases e
    exact z_ifn (by omega) (spx38 (d := D + 19) hS (fun W w1 w2 => z_gp (by decide) (h0 f rfl W w1 w2)))
  · rw [if_neg h8d] at e
    refine z_ifp (by omega) (spx40 (d := D + 18) hS (fun W w1 w2 => ?_))
    rw [z_inc (by omega)]
    rcases zpBd_r e with ⟨p, e1, rfl⟩ | ⟨f2, k2, G, e1, e2⟩
    · exact ih _ _ _ _ _ _ _ _ _ e1 (by omega) (by omega) w2 (by omega) (fun p' ep W' w3 w4 => z_ifp rfl (h0 _ ep W' (zXf_t (zXf_n w1) w3 (Nat.le_refl s)) w4)) (fun _ _ _ ep => nomatch ep)
    · refine ih _ _ _ _ _ _ _ _ _ e1 (by omega) (by omega) w2 (by omega) (fun p' ep => nomatch ep) (fun f3 k3 G3 ep W' s2 w3 wS ws1 ws2 wc => ?_)
      cases ep
      refine z_ifn (by decide) (spx39 (d := D + 17) wS (fun q W3 n3 s3 => ?_) (fun q W3 n3 s3 => ?_))
      · rw [if_pos q] at e2
        cases e2
        have nx3 := zpNx_p (b := b) wS.2.2.2.2.2.1
        exact h1 _ _ _ rfl W3 s2 (zXf_t (zXf_t (zXf_n w1) w3 (Nat.le_refl s)) (zXf_n (s := s) n3) (Nat.le_refl s)) s3 ws1 (by omega) (zXc_f wc (by omega) (fun j _ => ⟨by rw [n3.1 90 (by decide)], by rw [n3.1 91 (by decide)]⟩))
      · rw [if_neg (by rw [q]; decide)] at e2
        cases e2
        exact h0 _ rfl W3 (zXf_t (zXf_t (zXf_n w1) w3 (Nat.le_refl s)) n3 ws1) s3
theorem spx31 {V : z_M} {Q : Int → z_M → Prop} {f k s : Nat} (hS : zXs V b L f k s) (h : Q (if zpCm b L f = -1 then -1 else zpCm b L f - 18) V) : z_MS (d + 2) 31 true [.inr (.inr 89)] V Q := by
  refine zb31_89 (sp42 (d := d) hS.1 hS.2.1 (fun q => z_ifn (by decide) ?_) (fun q => z_ifp rfl (sp42 (d := d) hS.1 hS.2.1 (fun q2 => z_ifn (by decide) ?_) (fun q2 => z_ifp rfl (sp42 (d := d) hS.1 hS.2.1 (fun q3 => ?_) (fun q3 => ?_))))))
  · have e : zpCm b L f = 24 := by unfold zpCm; rw [if_pos q]
    rw [e, if_neg (by decide)] at h
    exact h
  · have e : zpCm b L f = 25 := by unfold zpCm; rw [if_neg (by rw [q]; decide), if_pos q2]
    rw [e, if_neg (by decide)] at h
    exact h
  · have e : zpCm b L f = 26 := by unfold zpCm; rw [if_neg (by rw [q]; decide), if_neg (by rw [q2]; decide), if_pos q3]
    rw [e, if_neg (by decide)] at h
    rw [if_neg (by decide)]
    exact h
  · have e : zpCm b L f = -1 := by unfold zpCm; rw [if_neg (by rw [q]; decide), if_neg (by rw [q2]; decide), if_neg (by rw [q3]; decide)]
    rw [e, if_pos rfl] at h
    rw [if_pos rfl]
    exact h
theorem zX_plp {n : Nat} (ih3 : zXm b L n 3 32 19 3) (ih9 : zXm b L n 9 27 20 6) (ih : zXp b L n) : zXp b L (n + 1) := by
  intro dd f k F x V s t r Q D e hd hD hS hst hrf ht h0 h1
  obtain ⟨D, rfl⟩ : ∃ D2, D = D2 + 23 := ⟨D - 23, by omega⟩
  have hS0 := hS
  obtain ⟨hX, h7, h8, h4, h3, hf, h9⟩ := hS0
  have hL := hX.2.2.1
  have nx := zpNx_p (b := b) hf
  have kx := zpPa_k (b := b) (L := L) (n + 1) 5 dd f k F x (by unfold zpM; omega) hf (by omega) (by omega) (by omega) e
  rw [zpPa_5] at e
  -- behind the words "not"
  have fin : ∀ f2 k2 G, x = .inr (f2, k2, G) → ∀ W s2, zXf V W s → zXs W b L f2 k2 s2 → s ≤ s2 → s2 + f ≤ s + f2 → zXc W (20 - 2 * dd) s s2 G → zI ((t : Int) = 0) (Q 1 W) (z_MS (D + 23) 37 true [.inr (.inr 89), .inl 9, .inl 0] W (fun _ V7 => Q 1 V7)) := by
    intro f2 k2 G ep W s2 w1 w2 w3 w4 w5
    have q := kx f2 k2 G ep
    refine z_ifc (fun e0 => ?_) (fun e0 => ?_)
    · refine h1 f2 k2 G ep W s2 w1 w2 w3 (by omega) ?_
      rw [if_neg (by omega)]
      exact w5
    · have q3 := q.2.2.1 (by omega)
      refine sp37 (d := D + 22) w2.2.2.2.2.1 (by omega) ?_
      refine h1 f2 k2 G ep _ (s2 + 1) (zXf_t w1 (zXf_a (s := s) w3) (Nat.le_refl s)) (zXs_a w2) (by omega) (by omega) ?_
      rw [if_pos (by omega)]
      exact zXc_n w5 (q.2.2.2.2.2.1 (by omega))
  have p40 : ∀ o : Option z_V, zpWd b L f 13 = false → z_Ex (z_MS (D + 23)) 29 Q true 40 [some (.inr (.inr 89)), some (.inl (dd : Int)), some (.inl (t : Int)), o] [] 0 0 V := by
    intro o hw
    rw [if_neg (by rw [hw]; decide)] at e
    refine zb29_89_p40 _ _ _ (sp42 (d := D + 22) hX h7 (fun q => z_ifn (by decide) ?_) (fun q => z_ifp rfl ?_))
    · rw [if_pos q] at e
      rw [zpSg_e] at q
      exact spx30 ih9 e hd (by omega) hS (by omega) q.1 (fun p ep W w1 w2 => z_ifp rfl (h0 p ep W w1 w2)) (fun f2 k2 G ep W s2 w1 w2 w3 w4 w5 => z_ifn (by decide) (fin f2 k2 G ep W s2 w1 w2 w3 w4 w5))
    · rw [if_neg (by rw [q]; decide)] at e
      rcases zpBd_r e with ⟨p, e1, rfl⟩ | ⟨f2, k2, G, e1, e2⟩
      · exact ih3 _ _ _ _ _ _ _ _ _ e1 hd (by omega) hS (by omega) (fun p' ep W' w3 w4 => z_ifp rfl (h0 _ ep W' w3 w4)) (fun _ _ _ ep => nomatch ep)
      · refine ih3 _ _ _ _ _ _ _ _ _ e1 hd (by omega) hS (by omega) (fun p' ep => nomatch ep) (fun f3 k3 G3 ep W' s2 w3 wS ws1 ws2 wc => ?_)
        cases ep
        refine z_ifn (by decide) (spx31 (d := D + 21) wS ?_)
        by_cases hcm : zpCm b L f2 = -1
        · rw [if_pos hcm] at e2
          cases e2
          rw [if_pos hcm]
          exact z_ifp rfl (spx38 (d := D + 22) wS (fun W w1 w2 => z_gp (by decide) (h0 _ rfl W (zXf_t w3 w1 ws1) w2)))
        · rw [if_neg hcm] at e2
          rw [if_neg hcm]
          have cb := (zpCm_b (b := b) (L := L) (f := f2)).resolve_left hcm
          have n2 := zpNx_p (b := b) wS.2.2.2.2.2.1
          have n3 := n2.2.2.2 cb.1
          refine z_ifn (by omega) (spx40 (d := D + 21) wS (fun W5 w5 wS5 => ?_))
          rcases zpBd_r e2 with ⟨p, e3, rfl⟩ | ⟨f3, k3, H, e3, e4⟩
          · exact ih3 _ _ _ _ _ _ _ _ _ e3 hd (by omega) wS5 (by omega) (fun p' ep W' w6 w7 => z_ifp rfl (h0 _ ep W' (zXf_t (zXf_t w3 (zXf_n (s := s) w5) (Nat.le_refl s)) w6 ws1) w7)) (fun _ _ _ ep => nomatch ep)
          · refine ih3 _ _ _ _ _ _ _ _ _ e3 hd (by omega) wS5 (by omega) (fun p' ep => nomatch ep) (fun f4 k4 G4 ep W6 s3 w6 wS6 ws3 ws4 wc6 => ?_)
            cases ep
            cases e4
            have hf3 := wS6.2.2.2.2.2.1
            refine z_ifn (by decide) (sp37 (d := D + 22) wS6.2.2.2.2.1 (by omega) ?_)
            have hcW : zXc W6 (19 - 2 * dd) s s2 G := zXc_f wc (Nat.le_refl _) (fun j hj => ⟨by rw [(w6.2 j hj).1, w5.1 90 (by decide)], by rw [(w6.2 j hj).2, w5.1 91 (by decide)]⟩)
            refine fin _ _ _ rfl _ (s3 + 1) (zXf_t (zXf_t (zXf_t w3 (zXf_n (s := s) w5) (Nat.le_refl s)) w6 ws1) (zXf_a (s := s) (by omega)) (Nat.le_refl s)) (zXs_a wS6) (by omega) (by omega) ?_
            refine zXc_b (D1 := 19 - 2 * dd) (D2 := 19 - 2 * dd) hcW wc6 ?_ (by omega) ⟨by omega, by omega⟩ ws3
            rcases cb.2 with c | c | c <;> rw [c] <;> rfl
  by_cases hr : r < 400
  · refine zb29_89_p4 _ _ _ (z_ifp (by omega) (sp43_13 (d := D + 18) hX h7 h8 hf (fun q => z_ifn (by decide) ?_) (fun q => z_ifp rfl (p40 _ q))))
    rw [if_pos q] at e
    have hw := zpWd_f hf q
    have nx2 := nx.2.2.2 hw.1
    refine spx40 (d := D + 21) hS (fun W w1 w2 => ?_)
    rw [z_inc (by omega), show (if (t : Int) = 0 then (1 : Int) else 0) = ((1 - t : Nat) : Int) by split <;> omega]
    rcases zpBd_r e with ⟨p, e1, rfl⟩ | ⟨f2, k2, G, e1, e2⟩
    · exact ih dd _ _ _ _ W s (1 - t) (r + 1) Q _ e1 hd hD w2 (by omega) (by omega) (by omega) (fun p' ep W' w3 w4 => h0 _ ep W' (zXf_t (zXf_n w1) w3 (Nat.le_refl s)) w4) (fun _ _ _ ep => nomatch ep)
    · have kg := zpPa_k (b := b) (L := L) n 5 dd _ _ _ _ (by unfold zpM; omega) nx.2.2.1 (by omega) (by omega) (by omega) e1 f2 k2 G rfl
      refine ih dd _ _ _ _ W s (1 - t) (r + 1) Q _ e1 hd hD w2 (by omega) (by omega) (by omega) (fun p' ep => nomatch ep) (fun f3 k3 G3 ep W' s2 w3 wS ws1 ws2 wc => ?_)
      cases ep
      cases e2
      refine h1 _ _ _ rfl W' s2 (zXf_t (zXf_n w1) w3 (Nat.le_refl s)) wS ws1 (by omega) ?_
      by_cases ht1 : t = 1
      · rw [if_pos ht1, zpNg_n (kg.2.2.2.2.2.1 (by omega))]
        rw [if_neg (by omega)] at wc
        exact wc
      · rw [if_neg ht1]
        rw [if_pos (by omega)] at wc
        exact wc
  · refine zb29_89_p4 _ _ _ (z_ifn (by omega) (p40 _ ?_))
    rw [Bool.eq_false_iff, ne_eq]
    intro hw
    have := zpWd_f hf hw
    omega
theorem zX_plain {n : Nat} (ih : zXp b L n) : zXm b L n 5 29 20 4 := by
  intro dd f k F x V s Q D e hd hD hS hsf h0 h1
  obtain ⟨D, rfl⟩ : ∃ D2, D = D2 + 24 := ⟨D - 24, by omega⟩
  refine zb29_89 _ (ih dd f k F x V s 0 0 Q (D + 23) e hd (by omega) hS (by omega) (by omega) (by omega) h0 (fun f2 k2 G ep W s2 w1 w2 w3 w4 w5 => h1 f2 k2 G ep W s2 w1 w2 w3 (by omega) ?_))
  rw [if_neg (by decide)] at w5
  exact w5
theorem zX_bothl {n : Nat} (ih : zXm b L n 5 29 20 4) (ihl : zXl b L n 8 28 20 5) : zXl b L (n + 1) 8 28 20 5 := by
  intro dd f k F x V s s1 t o Q D e hd hD hS hs1 hsf htf hc h0 h1
  obtain ⟨D, rfl⟩ : ∃ D2, D = D2 + 23 := ⟨D - 23, by omega⟩
  rw [zpPa_8] at e
  have hS0 := hS
  obtain ⟨hX, h7, h8, h4, h3, hf, h9⟩ := hS0
  have hL := hX.2.2.1
  have nx := zpNx_p (b := b) hf
  have no : zpWd b L f 12 = false → Q 1 V := by
    intro q1
    rw [if_neg (by rw [q1]; decide)] at e
    cases e
    exact h1 _ _ _ rfl V s1 zXf_r hS (Nat.le_refl _) (by omega) hc
  by_cases ht : t < 400
  · refine zb28_89_p12 _ _ _ (z_ifp (by omega) (sp43_12 (d := D + 18) hX h7 h8 hf (fun q => z_ifn (by decide) ?_) (fun q => z_ifp rfl (no q))))
    rw [if_pos q] at e
    have hw := zpWd_f hf q
    have nx2 := nx.2.2.2 hw.1
    have nx3 := nx.2.1
    refine sp37 (d := D + 22) h3 (by omega) (spx40 (d := D + 21) (zXs_a hS) (fun W w1 w2 => ?_))
    have fW : zXf V W s := zXf_t (zXf_a (s := s) hs1) (zXf_n (s := s) w1) (Nat.le_refl s)
    rcases zpBd_r e with ⟨p, e1, rfl⟩ | ⟨f2, k2, G, e1, e2⟩
    · exact ih _ _ _ _ _ _ _ _ _ e1 hd (by omega) w2 (by omega) (fun p' ep W' w3 w4 => z_ifp rfl (h0 _ ep W' (zXf_t fW w3 (by omega)) w4)) (fun _ _ _ ep => nomatch ep)
    · refine ih _ _ _ _ _ _ _ _ _ e1 hd (by omega) w2 (by omega) (fun p' ep => nomatch ep) (fun f3 k3 G3 ep W' s2 w3 wS ws1 ws2 wc => ?_)
      cases ep
      have hf2 := wS.2.2.2.2.2.1
      refine z_ifn (by decide) (z_gp (by omega) ?_)
      rw [wS.2.2.2.2.1, z_inc (by omega), Int.toNat_natCast]
      refine z_all ?_
      have x1 := zXa_s (V := V) (s := s1) (a := 11) (c := 0)
      have hm : W' 90 s1 = 11 := by rw [(w3.2 s1 (by omega)).1, w1.1 90 (by decide)]; exact x1.1
      have fr := zXf_a (V := V) (s := s1) (s1 := s1) (a := 11) (c := 0) (Nat.le_refl s1)
      have hcW : zXc W' (20 - 2 * dd) s s1 F := zXc_f hc (Nat.le_refl _) (fun j hj => ⟨by rw [(w3.2 j (by omega)).1, w1.1 90 (by decide)]; exact (fr.2 j hj).1, by rw [(w3.2 j (by omega)).2, w1.1 91 (by decide)]; exact (fr.2 j hj).2⟩)
      have hcG : zXc (z_up W' 91 s1 (s2 : Int)) (20 - 2 * dd) s s2 (zpLg 0 F G) := zXc_g hcW wc (by omega) hm
      have cu : ∀ a, ¬ a = 91 → z_up W' 91 s1 (s2 : Int) a = W' a := fun a ha => z_up_cell ha
      have hS2 : zXs (z_up W' 91 s1 (s2 : Int)) b L f2 k2 s2 := by
        unfold zXs zXb zSt at wS ⊢
        rw [cu 89 (by decide), cu 88 (by decide)]
        exact ⟨⟨wS.1.1, wS.1.2.1, wS.1.2.2.1, wS.1.2.2.2.1, fun a y z => by rw [cu a (by omega)]; exact wS.1.2.2.2.2 a y z⟩, wS.2⟩
      have fW2 : zXf V (z_up W' 91 s1 (s2 : Int)) s := zXf_t (zXf_t fW w3 (by omega)) (s1 := s) ⟨fun a _ _ y => cu a y, fun j hj => ⟨by rw [cu 90 (by decide)], by rw [z_up_rd, if_pos rfl, if_neg (by omega)]⟩⟩ (Nat.le_refl s)
      exact ihl dd _ _ _ _ _ s s2 (t + 1) _ Q _ e2 hd hD hS2 (by omega) (by omega) (by omega) hcG (fun p ep W3 w5 w6 => h0 p ep W3 (zXf_t fW2 w5 (Nat.le_refl s)) w6) (fun f4 k4 G4 ep W3 s3 w5 wS3 h5 h6 wc3 => h1 _ _ _ ep W3 s3 (zXf_t fW2 w5 (Nat.le_refl s)) wS3 (by omega) (by omega) wc3)
  · refine zb28_89_p12 _ _ _ (z_ifn (by omega) (no ?_))
    rw [Bool.eq_false_iff, ne_eq]
    intro hw
    have := zpWd_f hf hw
    omega
theorem zX_both {n : Nat} (ih : zXm b L n 5 29 20 4) (ihl : zXl b L n 8 28 20 5) : zXm b L (n + 1) 7 28 20 5 := by
  intro dd f k F x V s Q D e hd hD hS hsf h0 h1
  obtain ⟨D, rfl⟩ : ∃ D2, D = D2 + 21 := ⟨D - 21, by omega⟩
  rw [zpPa_7] at e
  refine zb28_89 _ ?_
  rcases zpBd_r e with ⟨p, e1, rfl⟩ | ⟨f2, k2, G, e1, e2⟩
  · exact ih _ _ _ _ _ _ _ _ _ e1 hd (by omega) hS hsf (fun p' ep W' w3 w4 => z_ifp rfl (h0 _ ep W' w3 w4)) (fun _ _ _ ep => nomatch ep)
  · refine ih _ _ _ _ _ _ _ _ _ e1 hd (by omega) hS hsf (fun p' ep => nomatch ep) (fun f3 k3 G3 ep W' s2 w3 wS ws1 ws2 wc => ?_)
    cases ep
    have hff : s2 ≤ f2 := by omega
    exact z_ifn (by decide) (ihl dd _ _ _ _ _ s s2 0 _ Q _ e2 hd (by omega) wS ws1 hff (Nat.zero_le _) wc (fun p ep W3 w5 w6 => h0 p ep W3 (zXf_t w3 w5 (Nat.le_refl s)) w6) (fun f4 k4 G4 ep W3 s3 w5 wS3 h5 h6 wc3 => h1 _ _ _ ep W3 s3 (zXf_t w3 w5 (Nat.le_refl s)) wS3 (by omega) (by omega) wc3))
theorem zX_testl {n : Nat} (ih : zXm b L n 7 28 20 5) (ihl : zXl b L n 10 27 20 6) : zXl b L (n + 1) 10 27 20 6 := by
  intro dd f k F x V s s1 t o Q D e hd hD hS hs1 hsf htf hc h0 h1
  obtain ⟨D, rfl⟩ : ∃ D2, D = D2 + 23 := ⟨D - 23, by omega⟩
  rw [zpPa_10] at e
  have hS0 := hS
  obtain ⟨hX, h7, h8, h4, h3, hf, h9⟩ := hS0
  have hL := hX.2.2.1
  have nx := zpNx_p (b := b) hf
  have no : zpWd b L f 11 = false → Q 1 V := by
    intro q1
    rw [if_neg (by rw [q1]; decide)] at e
    cases e
    exact h1 _ _ _ rfl V s1 zXf_r hS (Nat.le_refl _) (by omega) hc
  by_cases ht : t < 400
  · refine zb27_89_p12 _ _ _ (z_ifp (by omega) (sp43_11 (d := D + 18) hX h7 h8 hf (fun q => z_ifn (by decide) ?_) (fun q => z_ifp rfl (no q))))
    rw [if_pos q] at e
    have hw := zpWd_f hf q
    have nx2 := nx.2.2.2 hw.1
    have nx3 := nx.2.1
    refine sp37 (d := D + 22) h3 (by omega) (spx40 (d := D + 21) (zXs_a hS) (fun W w1 w2 => ?_))
    have fW : zXf V W s := zXf_t (zXf_a (s := s) hs1) (zXf_n (s := s) w1) (Nat.le_refl s)
    rcases zpBd_r e with ⟨p, e1, rfl⟩ | ⟨f2, k2, G, e1, e2⟩
    · exact ih _ _ _ _ _ _ _ _ _ e1 hd (by omega) w2 (by omega) (fun p' ep W' w3 w4 => z_ifp rfl (h0 _ ep W' (zXf_t fW w3 (by omega)) w4)) (fun _ _ _ ep => nomatch ep)
    · refine ih _ _ _ _ _ _ _ _ _ e1 hd (by omega) w2 (by omega) (fun p' ep => nomatch ep) (fun f3 k3 G3 ep W' s2 w3 wS ws1 ws2 wc => ?_)
      cases ep
      have hf2 := wS.2.2.2.2.2.1
      refine z_ifn (by decide) (z_gp (by omega) ?_)
      rw [wS.2.2.2.2.1, z_inc (by omega), Int.toNat_natCast]
      refine z_all ?_
      have x1 := zXa_s (V := V) (s := s1) (a := 10) (c := 0)
      have hm : W' 90 s1 = 10 := by rw [(w3.2 s1 (by omega)).1, w1.1 90 (by decide)]; exact x1.1
      have fr := zXf_a (V := V) (s := s1) (s1 := s1) (a := 10) (c := 0) (Nat.le_refl s1)
      have hcW : zXc W' (20 - 2 * dd) s s1 F := zXc_f hc (Nat.le_refl _) (fun j hj => ⟨by rw [(w3.2 j (by omega)).1, w1.1 90 (by decide)]; exact (fr.2 j hj).1, by rw [(w3.2 j (by omega)).2, w1.1 91 (by decide)]; exact (fr.2 j hj).2⟩)
      have hcG : zXc (z_up W' 91 s1 (s2 : Int)) (20 - 2 * dd) s s2 (zpLg 1 F G) := zXc_g hcW wc (by omega) hm
      have cu : ∀ a, ¬ a = 91 → z_up W' 91 s1 (s2 : Int) a = W' a := fun a ha => z_up_cell ha
      have hS2 : zXs (z_up W' 91 s1 (s2 : Int)) b L f2 k2 s2 := by
        unfold zXs zXb zSt at wS ⊢
        rw [cu 89 (by decide), cu 88 (by decide)]
        exact ⟨⟨wS.1.1, wS.1.2.1, wS.1.2.2.1, wS.1.2.2.2.1, fun a y z => by rw [cu a (by omega)]; exact wS.1.2.2.2.2 a y z⟩, wS.2⟩
      have fW2 : zXf V (z_up W' 91 s1 (s2 : Int)) s := zXf_t (zXf_t fW w3 (by omega)) (s1 := s) ⟨fun a _ _ y => cu a y, fun j hj => ⟨by rw [cu 90 (by decide)], by rw [z_up_rd, if_pos rfl, if_neg (by omega)]⟩⟩ (Nat.le_refl s)
      exact ihl dd _ _ _ _ _ s s2 (t + 1) _ Q _ e2 hd hD hS2 (by omega) (by omega) (by omega) hcG (fun p ep W3 w5 w6 => h0 p ep W3 (zXf_t fW2 w5 (Nat.le_refl s)) w6) (fun f4 k4 G4 ep W3 s3 w5 wS3 h5 h6 wc3 => h1 _ _ _ ep W3 s3 (zXf_t fW2 w5 (Nat.le_refl s)) wS3 (by omega) (by omega) wc3)
  · refine zb27_89_p12 _ _ _ (z_ifn (by omega) (no ?_))
    rw [Bool.eq_false_iff, ne_eq]
    intro hw
    have := zpWd_f hf hw
    omega
theorem zX_test {n : Nat} (ih : zXm b L n 7 28 20 5) (ihl : zXl b L n 10 27 20 6) : zXm b L (n + 1) 9 27 20 6 := by
  intro dd f k F x V s Q D e hd hD hS hsf h0 h1
  obtain ⟨D, rfl⟩ : ∃ D2, D = D2 + 21 := ⟨D - 21, by omega⟩
  rw [zpPa_9] at e
  refine zb27_89 _ ?_
  rcases zpBd_r e with ⟨p, e1, rfl⟩ | ⟨f2, k2, G, e1, e2⟩
  · exact ih _ _ _ _ _ _ _ _ _ e1 hd (by omega) hS hsf (fun p' ep W' w3 w4 => z_ifp rfl (h0 _ ep W' w3 w4)) (fun _ _ _ ep => nomatch ep)
  · refine ih _ _ _ _ _ _ _ _ _ e1 hd (by omega) hS hsf (fun p' ep => nomatch ep) (fun f3 k3 G3 ep W' s2 w3 wS ws1 ws2 wc => ?_)
    cases ep
    have hff : s2 ≤ f2 := by omega
    exact z_ifn (by decide) (ihl dd _ _ _ _ _ s s2 0 _ Q _ e2 hd (by omega) wS ws1 hff (Nat.zero_le _) wc (fun p ep W3 w5 w6 => h0 p ep W3 (zXf_t w3 w5 (Nat.le_refl s)) w6) (fun f4 k4 G4 ep W3 s3 w5 wS3 h5 h6 wc3 => h1 _ _ _ ep W3 s3 (zXf_t w3 w5 (Nat.le_refl s)) wS3 (by omega) (by omega) wc3))
theorem zX_all : ∀ n, zXm b L n 0 34 17 1 ∧ zXm b L n 1 33 18 2 ∧ zXl b L n 2 33 18 2 ∧ zXm b L n 3 32 19 3 ∧ zXl b L n 4 32 19 3 ∧ zXp b L n ∧ zXm b L n 7 28 20 5 ∧ zXl b L n 8 28 20 5 ∧ zXm b L n 9 27 20 6 ∧ zXl b L n 10 27 20 6
  | 0 => ⟨fun _ _ _ _ _ _ _ _ _ e => absurd e (by simp [zpPa]), fun _ _ _ _ _ _ _ _ _ e => absurd e (by simp [zpPa]), fun _ _ _ _ _ _ _ _ _ _ _ _ e => absurd e (by simp [zpPa]), fun _ _ _ _ _ _ _ _ _ e => absurd e (by simp [zpPa]), fun _ _ _ _ _ _ _ _ _ _ _ _ e => absurd e (by simp [zpPa]), fun _ _ _ _ _ _ _ _ _ _ _ e => absurd e (by simp [zpPa]), fun _ _ _ _ _ _ _ _ _ e => absurd e (by simp [zpPa]), fun _ _ _ _ _ _ _ _ _ _ _ _ e => absurd e (by simp [zpPa]), fun _ _ _ _ _ _ _ _ _ e => absurd e (by simp [zpPa]), fun _ _ _ _ _ _ _ _ _ _ _ _ e => absurd e (by simp [zpPa])⟩
  | n + 1 => by
    obtain ⟨a0, a1, a2, a3, a4, a5, a7, a8, a9, a10⟩ := zX_all n
    have p5 := zX_plain a5
    exact ⟨zX_part a3, zX_term a0 a2, zX_terml a0 a2, zX_sum a1 a4, zX_suml a1 a4, zX_plp a3 a9 a5, zX_both p5 a8, zX_bothl p5 a8, zX_test a7 a10, zX_testl a7 a10⟩
end
