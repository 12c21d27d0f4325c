/-! texts: what a reading leaves, whatever the fuel -/
section
variable {b : Nat → Int} {L : Nat}
theorem zpBd_k {K : zpR → Prop} {P : zpR → Prop} {x : zpR} {r : Option zpR} {g : Nat → Nat → zpF → Option zpR} (h : zpBd r g = some x) (hK : ∀ y, r = some y → K y) (hf : ∀ p, P (.inl p)) (hg : ∀ f k F, K (.inr (f, k, F)) → g f k F = some x → P x) : P x := by
  rcases zpBd_r h with ⟨p, _, rfl⟩ | ⟨f, k, F, e1, e2⟩
  · exact hf p
  · exact hg f k F (hK _ e1) e2
theorem zpPa_k : ∀ (n m dd f k : Nat) (F : zpF) (x : zpR), zpM m → f ≤ L → (m = 4 → zpSg b L f 42 = false ∧ zpSg b L f 47 = false) → (m = 8 ∨ m = 10 → zp01 F) → (m = 10 → zpWd b L f 12 = false) → zpPa b L n m dd f k F = some x → zpK b L m f x
  | 0, _, _, _, _, _, _, _, _, _, _, _, h => nomatch h
  | n + 1, m, dd, f, k, F, x, hm, hf, p4, p8, p10, e => by
    have ih := zpPa_k n
    have nx := zpNx_p (b := b) hf
    rcases hm with rfl | rfl | rfl | rfl | rfl | rfl | rfl | rfl | rfl | rfl
    · rw [zpPa_0] at e
      split at e
      · rename_i hs
        rw [zpSg_e] at hs
        have := nx.2.2.2 hs.1
        split at e
        · cases e
          exact zpK_l
        · refine zpBd_k e (fun y ey => ih 3 (dd + 1) (zpNx b L f) k F y (by unfold zpM; omega) nx.2.2.1 (by omega) (by omega) (by omega) ey) (fun p => zpK_l) (fun f2 k2 G hK e => ?_)
          have q := hK f2 k2 G rfl
          split at e
          · have n2 := zpNx_p (b := b) q.2.1
            cases e
            exact zpK_r (by omega) n2.2.2.1 (by omega) (fun h => absurd h (by omega)) (fun h => absurd h (by omega)) (fun h => absurd h (by omega)) (fun h => absurd h (by omega)) (fun h => absurd h (by omega))
          · cases e
            exact zpK_l
      · split at e
        · cases e
          exact zpK_l
        · rename_i hq
          have hfl : f < L := by
            have a1 := zpNm_b (b := b) (L := L) (f := f)
            by_cases h1 : zpFa b L f = -1
            · omega
            · exact zpFa_f hf h1
          have := nx.2.2.2 hfl
          cases e
          exact zpK_r (by omega) nx.2.2.1 (by omega) (fun h => absurd h (by omega)) (fun h => absurd h (by omega)) (fun h => absurd h (by omega)) (fun h => absurd h (by omega)) (fun h => absurd h (by omega))
    · rw [zpPa_1] at e
      refine zpBd_k e (fun y ey => ih 0 dd f k F y (by unfold zpM; omega) hf (by omega) (by omega) (by omega) ey) (fun p => zpK_l) (fun f2 k2 G hK e => ?_)
      have q := hK f2 k2 G rfl
      have q3 := q.2.2.1 (by omega)
      have hx := ih 2 dd f2 k2 G x (by unfold zpM; omega) q.2.1 (by omega) (by omega) (by omega) e
      exact zpK_up hx (by omega) (by omega) (by omega) (by omega) (by omega) (by omega)
    · rw [zpPa_2] at e
      have go : ∀ c op, zpSg b L f c = true → (zpBd (zpPa b L n 0 dd (zpNx b L f) k F) fun f2 k2 G => zpPa b L n 2 dd f2 k2 (zpBi op F G)) = some x → zpK b L 2 f x := by
        intro c op hs e
        rw [zpSg_e] at hs
        have := nx.2.2.2 hs.1
        refine zpBd_k e (fun y ey => ih 0 dd (zpNx b L f) k F y (by unfold zpM; omega) nx.2.2.1 (by omega) (by omega) (by omega) ey) (fun p => zpK_l) (fun f2 k2 G hK e => ?_)
        have q := hK f2 k2 G rfl
        have hx := ih 2 dd f2 k2 (zpBi op F G) x (by unfold zpM; omega) q.2.1 (by omega) (by omega) (by omega) e
        exact zpK_up hx (by omega) (by omega) (by omega) (by omega) (by omega) (by omega)
      split at e
      · rename_i hs; exact go _ _ hs e
      · split at e
        · rename_i hs; exact go _ _ hs e
        · rename_i h1 h2
          cases e
          exact zpK_r (by omega) hf (fun h => absurd h (by omega)) (fun _ => ⟨Bool.eq_false_iff.mpr h1, Bool.eq_false_iff.mpr h2⟩) (fun h => absurd h (by omega)) (fun h => absurd h (by omega)) (fun h => absurd h (by omega)) (fun h => absurd h (by omega))
    · rw [zpPa_3] at e
      refine zpBd_k e (fun y ey => ih 1 dd f k F y (by unfold zpM; omega) hf (by omega) (by omega) (by omega) ey) (fun p => zpK_l) (fun f2 k2 G hK e => ?_)
      have q := hK f2 k2 G rfl
      have q3 := q.2.2.1 (by omega)
      have hx := ih 4 dd f2 k2 G x (by unfold zpM; omega) q.2.1 (fun _ => q.2.2.2.1 (by omega)) (by omega) (by omega) e
      exact zpK_up hx (by omega) (by omega) (by omega) (by omega) (by omega) (by omega)
    · rw [zpPa_4] at e
      have go : ∀ c op, zpSg b L f c = true → (zpBd (zpPa b L n 1 dd (zpNx b L f) k F) fun f2 k2 G => zpPa b L n 4 dd f2 k2 (zpBi op F G)) = some x → zpK b L 4 f x := by
        intro c op hs e
        rw [zpSg_e] at hs
        have := nx.2.2.2 hs.1
        refine zpBd_k e (fun y ey => ih 1 dd (zpNx b L f) k F y (by unfold zpM; omega) nx.2.2.1 (by omega) (by omega) (by omega) ey) (fun p => zpK_l) (fun f2 k2 G hK e => ?_)
        have q := hK f2 k2 G rfl
        have hx := ih 4 dd f2 k2 (zpBi op F G) x (by unfold zpM; omega) q.2.1 (fun _ => q.2.2.2.1 (by omega)) (by omega) (by omega) e
        exact zpK_up hx (by omega) (by omega) (by omega) (by omega) (by omega) (by omega)
      split at e
      · rename_i hs; exact go _ _ hs e
      · split at e
        · rename_i hs; exact go _ _ hs e
        · rename_i h1 h2
          cases e
          exact zpK_r (by omega) hf (fun h => absurd h (by omega)) (fun _ => p4 rfl) (fun _ => ⟨Bool.eq_false_iff.mpr h1, Bool.eq_false_iff.mpr h2⟩) (fun h => absurd h (by omega)) (fun h => absurd h (by omega)) (fun h => absurd h (by omega))
    · rw [zpPa_5] at e
      split at e
      · rename_i hw
        have hw2 := zpWd_f hf hw
        have := nx.2.2.2 hw2.1
        refine zpBd_k e (fun y ey => ih 5 dd (zpNx b L f) k F y (by unfold zpM; omega) nx.2.2.1 (by omega) (by omega) (by omega) ey) (fun p => zpK_l) (fun f2 k2 G hK e => ?_)
        have q := hK f2 k2 G rfl
        cases e
        exact zpK_r (by omega) q.2.1 (by omega) (fun h => absurd h (by omega)) (fun h => absurd h (by omega)) (fun _ => zp01_n (q.2.2.2.2.2.1 (by omega))) (fun h => absurd h (by omega)) (fun h => absurd h (by omega))
      · split at e
        · rename_i hs
          rw [zpSg_e] at hs
          have := nx.2.2.2 hs.1
          split at e
          · cases e
            exact zpK_l
          · refine zpBd_k e (fun y ey => ih 9 (dd + 1) (zpNx b L f) k F y (by unfold zpM; omega) nx.2.2.1 (by omega) (by omega) (by omega) ey) (fun p => zpK_l) (fun f2 k2 G hK e => ?_)
            have q := hK f2 k2 G rfl
            split at e
            · have n2 := zpNx_p (b := b) q.2.1
              cases e
              exact zpK_r (by omega) n2.2.2.1 (by omega) (fun h => absurd h (by omega)) (fun h => absurd h (by omega)) (fun _ => q.2.2.2.2.2.1 (by omega)) (fun h => absurd h (by omega)) (fun h => absurd h (by omega))
            · cases e
              exact zpK_l
        · refine zpBd_k e (fun y ey => ih 3 dd f k F y (by unfold zpM; omega) hf (by omega) (by omega) (by omega) ey) (fun p => zpK_l) (fun f2 k2 G hK e => ?_)
          have q := hK f2 k2 G rfl
          have q3 := q.2.2.1 (by omega)
          split at e
          · cases e
            exact zpK_l
          · rename_i hc
            have n2 := zpNx_p (b := b) q.2.1
            have c2 := (zpCm_b (b := b) (L := L) (f := f2)).resolve_left hc
            refine zpBd_k e (fun y ey => ih 3 dd (zpNx b L f2) k2 F y (by unfold zpM; omega) n2.2.2.1 (by omega) (by omega) (by omega) ey) (fun p => zpK_l) (fun f3 k3 H hK2 e => ?_)
            have q2 := hK2 f3 k3 H rfl
            cases e
            exact zpK_r (by omega) q2.2.1 (by omega) (fun h => absurd h (by omega)) (fun h => absurd h (by omega)) (fun _ => zp01_b c2.2) (fun h => absurd h (by omega)) (fun h => absurd h (by omega))
    · rw [zpPa_7] at e
      refine zpBd_k e (fun y ey => ih 5 dd f k F y (by unfold zpM; omega) hf (by omega) (by omega) (by omega) ey) (fun p => zpK_l) (fun f2 k2 G hK e => ?_)
      have q := hK f2 k2 G rfl
      have q3 := q.2.2.1 (by omega)
      have hx := ih 8 dd f2 k2 G x (by unfold zpM; omega) q.2.1 (by omega) (fun _ => q.2.2.2.2.2.1 (by omega)) (by omega) e
      exact zpK_up hx (by omega) (by omega) (by omega) (by omega) (by omega) (by omega)
    · rw [zpPa_8] at e
      split at e
      · rename_i hw
        have hw2 := zpWd_f hf hw
        have := nx.2.2.2 hw2.1
        refine zpBd_k e (fun y ey => ih 5 dd (zpNx b L f) k F y (by unfold zpM; omega) nx.2.2.1 (by omega) (by omega) (by omega) ey) (fun p => zpK_l) (fun f2 k2 G hK e => ?_)
        have q := hK f2 k2 G rfl
        have hx := ih 8 dd f2 k2 (zpLg 0 F G) x (by unfold zpM; omega) q.2.1 (by omega) (fun _ => zp01_l (Or.inl rfl) (q.2.2.2.2.2.1 (by omega))) (by omega) e
        exact zpK_up hx (by omega) (by omega) (by omega) (by omega) (by omega) (by omega)
      · rename_i hw
        cases e
        exact zpK_r (by omega) hf (fun h => absurd h (by omega)) (fun h => absurd h (by omega)) (fun h => absurd h (by omega)) (fun _ => p8 (by omega)) (fun _ => Bool.eq_false_iff.mpr hw) (fun h => absurd h (by omega))
    · rw [zpPa_9] at e
      refine zpBd_k e (fun y ey => ih 7 dd f k F y (by unfold zpM; omega) hf (by omega) (by omega) (by omega) ey) (fun p => zpK_l) (fun f2 k2 G hK e => ?_)
      have q := hK f2 k2 G rfl
      have q3 := q.2.2.1 (by omega)
      have hx := ih 10 dd f2 k2 G x (by unfold zpM; omega) q.2.1 (by omega) (fun _ => q.2.2.2.2.2.1 (by omega)) (fun _ => q.2.2.2.2.2.2.1 (by omega)) e
      exact zpK_up hx (by omega) (by omega) (by omega) (by omega) (by omega) (by omega)
    · rw [zpPa_10] at e
      split at e
      · rename_i hw
        have hw2 := zpWd_f hf hw
        have := nx.2.2.2 hw2.1
        refine zpBd_k e (fun y ey => ih 7 dd (zpNx b L f) k F y (by unfold zpM; omega) nx.2.2.1 (by omega) (by omega) (by omega) ey) (fun p => zpK_l) (fun f2 k2 G hK e => ?_)
        have q := hK f2 k2 G rfl
        have hx := ih 10 dd f2 k2 (zpLg 1 F G) x (by unfold zpM; omega) q.2.1 (by omega) (fun _ => zp01_l (Or.inr rfl) (q.2.2.2.2.2.1 (by omega))) (fun _ => q.2.2.2.2.2.2.1 (by omega)) e
        exact zpK_up hx (by omega) (by omega) (by omega) (by omega) (by omega) (by omega)
      · rename_i hw
        cases e
        exact zpK_r (by omega) hf (fun h => absurd h (by omega)) (fun h => absurd h (by omega)) (fun h => absurd h (by omega)) (fun _ => p8 (by omega)) (fun _ => p10 rfl) (fun _ => Bool.eq_false_iff.mpr hw)
end
