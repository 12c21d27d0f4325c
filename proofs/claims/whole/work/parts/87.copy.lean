/-! images: what is told is copied -/
theorem zrk_38 {V : z_M} {i : Nat} (h : i < 4) : z_rr true V 38 i = 38 + 1 + i ∧ z_kd (38 + 1 + i) = 101 ∧ 36 ≤ 38 + 1 + i ∧ z_len' V (38 + 1 + i) = 12 := by
  rcases (show i = 0 ∨ i = 1 ∨ i = 2 ∨ i = 3 by omega) with rfl | rfl | rfl | rfl <;> first | exact ⟨rfl, rfl, by decide, rfl⟩ | omega
theorem zrk_43 {V : z_M} {i : Nat} (h : i < 2) : z_rr true V 43 i = 43 + 1 + i ∧ z_kd (43 + 1 + i) = 101 ∧ 36 ≤ 43 + 1 + i ∧ z_len' V (43 + 1 + i) = 6 := by
  rcases (show i = 0 ∨ i = 1 ∨ i = 2 ∨ i = 3 by omega) with rfl | rfl | rfl | rfl <;> first | exact ⟨rfl, rfl, by decide, rfl⟩ | omega
theorem zrk_48 {V : z_M} {i : Nat} (h : i < 2) : z_rr true V 48 i = 48 + 1 + i ∧ z_kd (48 + 1 + i) = 101 ∧ 36 ≤ 48 + 1 + i ∧ z_len' V (48 + 1 + i) = 7 := by
  rcases (show i = 0 ∨ i = 1 ∨ i = 2 ∨ i = 3 by omega) with rfl | rfl | rfl | rfl <;> first | exact ⟨rfl, rfl, by decide, rfl⟩ | omega
theorem zrk_55 {V : z_M} {i : Nat} (h : i < 4) : z_rr true V 55 i = 55 + 1 + i ∧ z_kd (55 + 1 + i) = 101 ∧ 36 ≤ 55 + 1 + i ∧ z_len' V (55 + 1 + i) = 12 := by
  rcases (show i = 0 ∨ i = 1 ∨ i = 2 ∨ i = 3 by omega) with rfl | rfl | rfl | rfl <;> first | exact ⟨rfl, rfl, by decide, rfl⟩ | omega
theorem zrk_60 {V : z_M} {i : Nat} (h : i < 2) : z_rr true V 60 i = 60 + 1 + i ∧ z_kd (60 + 1 + i) = 101 ∧ 36 ≤ 60 + 1 + i ∧ z_len' V (60 + 1 + i) = 6 := by
  rcases (show i = 0 ∨ i = 1 ∨ i = 2 ∨ i = 3 by omega) with rfl | rfl | rfl | rfl <;> first | exact ⟨rfl, rfl, by decide, rfl⟩ | omega
theorem zrk_65 {V : z_M} {i : Nat} (h : i < 2) : z_rr true V 65 i = 65 + 1 + i ∧ z_kd (65 + 1 + i) = 101 ∧ 36 ≤ 65 + 1 + i ∧ z_len' V (65 + 1 + i) = 7 := by
  rcases (show i = 0 ∨ i = 1 ∨ i = 2 ∨ i = 3 by omega) with rfl | rfl | rfl | rfl <;> first | exact ⟨rfl, rfl, by decide, rfl⟩ | omega
theorem zrk_71 {V : z_M} {i : Nat} (h : i < 4) : z_rr true V 71 i = 71 + 1 + i ∧ z_kd (71 + 1 + i) = 101 ∧ 36 ≤ 71 + 1 + i ∧ z_len' V (71 + 1 + i) = 12 := by
  rcases (show i = 0 ∨ i = 1 ∨ i = 2 ∨ i = 3 by omega) with rfl | rfl | rfl | rfl <;> first | exact ⟨rfl, rfl, by decide, rfl⟩ | omega
theorem zrk_76 {V : z_M} {i : Nat} (h : i < 2) : z_rr true V 76 i = 76 + 1 + i ∧ z_kd (76 + 1 + i) = 101 ∧ 36 ≤ 76 + 1 + i ∧ z_len' V (76 + 1 + i) = 6 := by
  rcases (show i = 0 ∨ i = 1 ∨ i = 2 ∨ i = 3 by omega) with rfl | rfl | rfl | rfl <;> first | exact ⟨rfl, rfl, by decide, rfl⟩ | omega
theorem zrk_81 {V : z_M} {i : Nat} (h : i < 2) : z_rr true V 81 i = 81 + 1 + i ∧ z_kd (81 + 1 + i) = 101 ∧ 36 ≤ 81 + 1 + i ∧ z_len' V (81 + 1 + i) = 7 := by
  rcases (show i = 0 ∨ i = 1 ∨ i = 2 ∨ i = 3 by omega) with rfl | rfl | rfl | rfl <;> first | exact ⟨rfl, rfl, by decide, rfl⟩ | omega
section
variable {d : Nat} {Q : Int → z_M → Prop}
theorem sp74_38_55 {V : z_M} (h : ∀ W, (∀ x, (x ≤ 55 ∨ 55 + 4 < x) → W x = V x) → (∀ w k, w < 4 → k < 12 → W (55 + 1 + w) k = V (38 + 1 + w) k) → Q 0 W) : z_MS (d + 1) 74 true [.inr (.inr 38), .inr (.inr 55)] V Q := by
  have lp : ∀ (k i : Nat) (W : z_M), i + k = 4 → (∀ x, (x ≤ 55 ∨ 55 + 4 < x) → W x = V x) → (∀ w k, w < i → k < 12 → W (55 + 1 + w) k = V (38 + 1 + w) k) → z_Ex (z_MS d) 74 Q true 2 [some (.inr (.inr 38)), some (.inr (.inr 55)), some (.inl (i : Int))] [] 0 0 W := by
    intro k
    induction k with
    | zero =>
      intro i W e w1 w2
      have e2 : i = 4 := by omega
      subst e2
      exact zb74_38_55_p2 _ (z_ifn (by decide) (h W w1 w2))
    | succ k ih =>
      intro i W e w1 w2
      have ka := zrk_38 (V := W) (i := i) (by omega)
      have kb := zrk_55 (V := W) (i := i) (by omega)
      refine zb74_38_55_p2 _ (z_ifp (by omega) (z_ifp (by omega) ?_))
      rw [Int.toNat_natCast, ka.1, kb.1, z_inc (by omega)]
      refine z_gp (by omega) (z_all (z_gp (by omega) (z_all (z_gp (by omega) (z_all (z_gp (by have := ka.2.1; omega) (z_gp (by omega) (z_all (z_gp (by have := kb.2.1; omega) (z_gp ⟨ka.2.1, kb.2.1, kb.2.2.1, by decide⟩ ?_))))))))))
      rw [ka.2.2.2, kb.2.2.2, show z_min 12 12 = 12 by decide +kernel]
      refine z_gp (by omega) (z_all (ih (i + 1) _ (by omega) (fun x hx => by rw [z_cpy_cell (by omega)]; exact w1 x hx) (fun w s hw hs => ?_)))
      rw [z_cpy_rd]
      by_cases c : w = i
      · subst c
        rw [if_pos rfl, if_pos ⟨by omega, by show s < 0 + 12; omega⟩, show 0 + (s - 0) = s by omega, w1 _ (by omega)]
      · rw [if_neg (by omega)]
        exact w2 w s (by omega) hs
  exact zb74_38_55 (lp 4 0 V (by omega) (fun _ _ => rfl) (fun w k hw => absurd hw (Nat.not_lt_zero w)))
theorem sp74_43_60 {V : z_M} (h : ∀ W, (∀ x, (x ≤ 60 ∨ 60 + 2 < x) → W x = V x) → (∀ w k, w < 2 → k < 6 → W (60 + 1 + w) k = V (43 + 1 + w) k) → Q 0 W) : z_MS (d + 1) 74 true [.inr (.inr 43), .inr (.inr 60)] V Q := by
  have lp : ∀ (k i : Nat) (W : z_M), i + k = 2 → (∀ x, (x ≤ 60 ∨ 60 + 2 < x) → W x = V x) → (∀ w k, w < i → k < 6 → W (60 + 1 + w) k = V (43 + 1 + w) k) → z_Ex (z_MS d) 74 Q true 2 [some (.inr (.inr 43)), some (.inr (.inr 60)), some (.inl (i : Int))] [] 0 0 W := by
    intro k
    induction k with
    | zero =>
      intro i W e w1 w2
      have e2 : i = 2 := by omega
      subst e2
      exact zb74_43_60_p2 _ (z_ifn (by decide) (h W w1 w2))
    | succ k ih =>
      intro i W e w1 w2
      have ka := zrk_43 (V := W) (i := i) (by omega)
      have kb := zrk_60 (V := W) (i := i) (by omega)
      refine zb74_43_60_p2 _ (z_ifp (by omega) (z_ifp (by omega) ?_))
      rw [Int.toNat_natCast, ka.1, kb.1, z_inc (by omega)]
      refine z_gp (by omega) (z_all (z_gp (by omega) (z_all (z_gp (by omega) (z_all (z_gp (by have := ka.2.1; omega) (z_gp (by omega) (z_all (z_gp (by have := kb.2.1; omega) (z_gp ⟨ka.2.1, kb.2.1, kb.2.2.1, by decide⟩ ?_))))))))))
      rw [ka.2.2.2, kb.2.2.2, show z_min 6 6 = 6 by decide +kernel]
      refine z_gp (by omega) (z_all (ih (i + 1) _ (by omega) (fun x hx => by rw [z_cpy_cell (by omega)]; exact w1 x hx) (fun w s hw hs => ?_)))
      rw [z_cpy_rd]
      by_cases c : w = i
      · subst c
        rw [if_pos rfl, if_pos ⟨by omega, by show s < 0 + 6; omega⟩, show 0 + (s - 0) = s by omega, w1 _ (by omega)]
      · rw [if_neg (by omega)]
        exact w2 w s (by omega) hs
  exact zb74_43_60 (lp 2 0 V (by omega) (fun _ _ => rfl) (fun w k hw => absurd hw (Nat.not_lt_zero w)))
theorem sp74_48_65 {V : z_M} (h : ∀ W, (∀ x, (x ≤ 65 ∨ 65 + 2 < x) → W x = V x) → (∀ w k, w < 2 → k < 7 → W (65 + 1 + w) k = V (48 + 1 + w) k) → Q 0 W) : z_MS (d + 1) 74 true [.inr (.inr 48), .inr (.inr 65)] V Q := by
  have lp : ∀ (k i : Nat) (W : z_M), i + k = 2 → (∀ x, (x ≤ 65 ∨ 65 + 2 < x) → W x = V x) → (∀ w k, w < i → k < 7 → W (65 + 1 + w) k = V (48 + 1 + w) k) → z_Ex (z_MS d) 74 Q true 2 [some (.inr (.inr 48)), some (.inr (.inr 65)), some (.inl (i : Int))] [] 0 0 W := by
    intro k
    induction k with
    | zero =>
      intro i W e w1 w2
      have e2 : i = 2 := by omega
      subst e2
      exact zb74_48_65_p2 _ (z_ifn (by decide) (h W w1 w2))
    | succ k ih =>
      intro i W e w1 w2
      have ka := zrk_48 (V := W) (i := i) (by omega)
      have kb := zrk_65 (V := W) (i := i) (by omega)
      refine zb74_48_65_p2 _ (z_ifp (by omega) (z_ifp (by omega) ?_))
      rw [Int.toNat_natCast, ka.1, kb.1, z_inc (by omega)]
      refine z_gp (by omega) (z_all (z_gp (by omega) (z_all (z_gp (by omega) (z_all (z_gp (by have := ka.2.1; omega) (z_gp (by omega) (z_all (z_gp (by have := kb.2.1; omega) (z_gp ⟨ka.2.1, kb.2.1, kb.2.2.1, by decide⟩ ?_))))))))))
      rw [ka.2.2.2, kb.2.2.2, show z_min 7 7 = 7 by decide +kernel]
      refine z_gp (by omega) (z_all (ih (i + 1) _ (by omega) (fun x hx => by rw [z_cpy_cell (by omega)]; exact w1 x hx) (fun w s hw hs => ?_)))
      rw [z_cpy_rd]
      by_cases c : w = i
      · subst c
        rw [if_pos rfl, if_pos ⟨by omega, by show s < 0 + 7; omega⟩, show 0 + (s - 0) = s by omega, w1 _ (by omega)]
      · rw [if_neg (by omega)]
        exact w2 w s (by omega) hs
  exact zb74_48_65 (lp 2 0 V (by omega) (fun _ _ => rfl) (fun w k hw => absurd hw (Nat.not_lt_zero w)))
theorem sp74_38_71 {V : z_M} (h : ∀ W, (∀ x, (x ≤ 71 ∨ 71 + 4 < x) → W x = V x) → (∀ w k, w < 4 → k < 12 → W (71 + 1 + w) k = V (38 + 1 + w) k) → Q 0 W) : z_MS (d + 1) 74 true [.inr (.inr 38), .inr (.inr 71)] V Q := by
  have lp : ∀ (k i : Nat) (W : z_M), i + k = 4 → (∀ x, (x ≤ 71 ∨ 71 + 4 < x) → W x = V x) → (∀ w k, w < i → k < 12 → W (71 + 1 + w) k = V (38 + 1 + w) k) → z_Ex (z_MS d) 74 Q true 2 [some (.inr (.inr 38)), some (.inr (.inr 71)), some (.inl (i : Int))] [] 0 0 W := by
    intro k
    induction k with
    | zero =>
      intro i W e w1 w2
      have e2 : i = 4 := by omega
      subst e2
      exact zb74_38_71_p2 _ (z_ifn (by decide) (h W w1 w2))
    | succ k ih =>
      intro i W e w1 w2
      have ka := zrk_38 (V := W) (i := i) (by omega)
      have kb := zrk_71 (V := W) (i := i) (by omega)
      refine zb74_38_71_p2 _ (z_ifp (by omega) (z_ifp (by omega) ?_))
      rw [Int.toNat_natCast, ka.1, kb.1, z_inc (by omega)]
      refine z_gp (by omega) (z_all (z_gp (by omega) (z_all (z_gp (by omega) (z_all (z_gp (by have := ka.2.1; omega) (z_gp (by omega) (z_all (z_gp (by have := kb.2.1; omega) (z_gp ⟨ka.2.1, kb.2.1, kb.2.2.1, by decide⟩ ?_))))))))))
      rw [ka.2.2.2, kb.2.2.2, show z_min 12 12 = 12 by decide +kernel]
      refine z_gp (by omega) (z_all (ih (i + 1) _ (by omega) (fun x hx => by rw [z_cpy_cell (by omega)]; exact w1 x hx) (fun w s hw hs => ?_)))
      rw [z_cpy_rd]
      by_cases c : w = i
      · subst c
        rw [if_pos rfl, if_pos ⟨by omega, by show s < 0 + 12; omega⟩, show 0 + (s - 0) = s by omega, w1 _ (by omega)]
      · rw [if_neg (by omega)]
        exact w2 w s (by omega) hs
  exact zb74_38_71 (lp 4 0 V (by omega) (fun _ _ => rfl) (fun w k hw => absurd hw (Nat.not_lt_zero w)))
theorem sp74_43_76 {V : z_M} (h : ∀ W, (∀ x, (x ≤ 76 ∨ 76 + 2 < x) → W x = V x) → (∀ w k, w < 2 → k < 6 → W (76 + 1 + w) k = V (43 + 1 + w) k) → Q 0 W) : z_MS (d + 1) 74 true [.inr (.inr 43), .inr (.inr 76)] V Q := by
  have lp : ∀ (k i : Nat) (W : z_M), i + k = 2 → (∀ x, (x ≤ 76 ∨ 76 + 2 < x) → W x = V x) → (∀ w k, w < i → k < 6 → W (76 + 1 + w) k = V (43 + 1 + w) k) → z_Ex (z_MS d) 74 Q true 2 [some (.inr (.inr 43)), some (.inr (.inr 76)), some (.inl (i : Int))] [] 0 0 W := by
    intro k
    induction k with
    | zero =>
      intro i W e w1 w2
      have e2 : i = 2 := by omega
      subst e2
      exact zb74_43_76_p2 _ (z_ifn (by decide) (h W w1 w2))
    | succ k ih =>
      intro i W e w1 w2
      have ka := zrk_43 (V := W) (i := i) (by omega)
      have kb := zrk_76 (V := W) (i := i) (by omega)
      refine zb74_43_76_p2 _ (z_ifp (by omega) (z_ifp (by omega) ?_))
      rw [Int.toNat_natCast, ka.1, kb.1, z_inc (by omega)]
      refine z_gp (by omega) (z_all (z_gp (by omega) (z_all (z_gp (by omega) (z_all (z_gp (by have := ka.2.1; omega) (z_gp (by omega) (z_all (z_gp (by have := kb.2.1; omega) (z_gp ⟨ka.2.1, kb.2.1, kb.2.2.1, by decide⟩ ?_))))))))))
      rw [ka.2.2.2, kb.2.2.2, show z_min 6 6 = 6 by decide +kernel]
      refine z_gp (by omega) (z_all (ih (i + 1) _ (by omega) (fun x hx => by rw [z_cpy_cell (by omega)]; exact w1 x hx) (fun w s hw hs => ?_)))
      rw [z_cpy_rd]
      by_cases c : w = i
      · subst c
        rw [if_pos rfl, if_pos ⟨by omega, by show s < 0 + 6; omega⟩, show 0 + (s - 0) = s by omega, w1 _ (by omega)]
      · rw [if_neg (by omega)]
        exact w2 w s (by omega) hs
  exact zb74_43_76 (lp 2 0 V (by omega) (fun _ _ => rfl) (fun w k hw => absurd hw (Nat.not_lt_zero w)))
theorem sp74_48_81 {V : z_M} (h : ∀ W, (∀ x, (x ≤ 81 ∨ 81 + 2 < x) → W x = V x) → (∀ w k, w < 2 → k < 7 → W (81 + 1 + w) k = V (48 + 1 + w) k) → Q 0 W) : z_MS (d + 1) 74 true [.inr (.inr 48), .inr (.inr 81)] V Q := by
  have lp : ∀ (k i : Nat) (W : z_M), i + k = 2 → (∀ x, (x ≤ 81 ∨ 81 + 2 < x) → W x = V x) → (∀ w k, w < i → k < 7 → W (81 + 1 + w) k = V (48 + 1 + w) k) → z_Ex (z_MS d) 74 Q true 2 [some (.inr (.inr 48)), some (.inr (.inr 81)), some (.inl (i : Int))] [] 0 0 W := by
    intro k
    induction k with
    | zero =>
      intro i W e w1 w2
      have e2 : i = 2 := by omega
      subst e2
      exact zb74_48_81_p2 _ (z_ifn (by decide) (h W w1 w2))
    | succ k ih =>
      intro i W e w1 w2
      have ka := zrk_48 (V := W) (i := i) (by omega)
      have kb := zrk_81 (V := W) (i := i) (by omega)
      refine zb74_48_81_p2 _ (z_ifp (by omega) (z_ifp (by omega) ?_))
      rw [Int.toNat_natCast, ka.1, kb.1, z_inc (by omega)]
      refine z_gp (by omega) (z_all (z_gp (by omega) (z_all (z_gp (by omega) (z_all (z_gp (by have := ka.2.1; omega) (z_gp (by omega) (z_all (z_gp (by have := kb.2.1; omega) (z_gp ⟨ka.2.1, kb.2.1, kb.2.2.1, by decide⟩ ?_))))))))))
      rw [ka.2.2.2, kb.2.2.2, show z_min 7 7 = 7 by decide +kernel]
      refine z_gp (by omega) (z_all (ih (i + 1) _ (by omega) (fun x hx => by rw [z_cpy_cell (by omega)]; exact w1 x hx) (fun w s hw hs => ?_)))
      rw [z_cpy_rd]
      by_cases c : w = i
      · subst c
        rw [if_pos rfl, if_pos ⟨by omega, by show s < 0 + 7; omega⟩, show 0 + (s - 0) = s by omega, w1 _ (by omega)]
      · rw [if_neg (by omega)]
        exact w2 w s (by omega) hs
  exact zb74_48_81 (lp 2 0 V (by omega) (fun _ _ => rfl) (fun w k hw => absurd hw (Nat.not_lt_zero w)))
theorem sp74_55_38 {V : z_M} (h : ∀ W, (∀ x, (x ≤ 38 ∨ 38 + 4 < x) → W x = V x) → (∀ w k, w < 4 → k < 12 → W (38 + 1 + w) k = V (55 + 1 + w) k) → Q 0 W) : z_MS (d + 1) 74 true [.inr (.inr 55), .inr (.inr 38)] V Q := by
  have lp : ∀ (k i : Nat) (W : z_M), i + k = 4 → (∀ x, (x ≤ 38 ∨ 38 + 4 < x) → W x = V x) → (∀ w k, w < i → k < 12 → W (38 + 1 + w) k = V (55 + 1 + w) k) → z_Ex (z_MS d) 74 Q true 2 [some (.inr (.inr 55)), some (.inr (.inr 38)), some (.inl (i : Int))] [] 0 0 W := by
    intro k
    induction k with
    | zero =>
      intro i W e w1 w2
      have e2 : i = 4 := by omega
      subst e2
      exact zb74_55_38_p2 _ (z_ifn (by decide) (h W w1 w2))
    | succ k ih =>
      intro i W e w1 w2
      have ka := zrk_55 (V := W) (i := i) (by omega)
      have kb := zrk_38 (V := W) (i := i) (by omega)
      refine zb74_55_38_p2 _ (z_ifp (by omega) (z_ifp (by omega) ?_))
      rw [Int.toNat_natCast, ka.1, kb.1, z_inc (by omega)]
      refine z_gp (by omega) (z_all (z_gp (by omega) (z_all (z_gp (by omega) (z_all (z_gp (by have := ka.2.1; omega) (z_gp (by omega) (z_all (z_gp (by have := kb.2.1; omega) (z_gp ⟨ka.2.1, kb.2.1, kb.2.2.1, by decide⟩ ?_))))))))))
      rw [ka.2.2.2, kb.2.2.2, show z_min 12 12 = 12 by decide +kernel]
      refine z_gp (by omega) (z_all (ih (i + 1) _ (by omega) (fun x hx => by rw [z_cpy_cell (by omega)]; exact w1 x hx) (fun w s hw hs => ?_)))
      rw [z_cpy_rd]
      by_cases c : w = i
      · subst c
        rw [if_pos rfl, if_pos ⟨by omega, by show s < 0 + 12; omega⟩, show 0 + (s - 0) = s by omega, w1 _ (by omega)]
      · rw [if_neg (by omega)]
        exact w2 w s (by omega) hs
  exact zb74_55_38 (lp 4 0 V (by omega) (fun _ _ => rfl) (fun w k hw => absurd hw (Nat.not_lt_zero w)))
theorem sp74_60_43 {V : z_M} (h : ∀ W, (∀ x, (x ≤ 43 ∨ 43 + 2 < x) → W x = V x) → (∀ w k, w < 2 → k < 6 → W (43 + 1 + w) k = V (60 + 1 + w) k) → Q 0 W) : z_MS (d + 1) 74 true [.inr (.inr 60), .inr (.inr 43)] V Q := by
  have lp : ∀ (k i : Nat) (W : z_M), i + k = 2 → (∀ x, (x ≤ 43 ∨ 43 + 2 < x) → W x = V x) → (∀ w k, w < i → k < 6 → W (43 + 1 + w) k = V (60 + 1 + w) k) → z_Ex (z_MS d) 74 Q true 2 [some (.inr (.inr 60)), some (.inr (.inr 43)), some (.inl (i : Int))] [] 0 0 W := by
    intro k
    induction k with
    | zero =>
      intro i W e w1 w2
      have e2 : i = 2 := by omega
      subst e2
      exact zb74_60_43_p2 _ (z_ifn (by decide) (h W w1 w2))
    | succ k ih =>
      intro i W e w1 w2
      have ka := zrk_60 (V := W) (i := i) (by omega)
      have kb := zrk_43 (V := W) (i := i) (by omega)
      refine zb74_60_43_p2 _ (z_ifp (by omega) (z_ifp (by omega) ?_))
      rw [Int.toNat_natCast, ka.1, kb.1, z_inc (by omega)]
      refine z_gp (by omega) (z_all (z_gp (by omega) (z_all (z_gp (by omega) (z_all (z_gp (by have := ka.2.1; omega) (z_gp (by omega) (z_all (z_gp (by have := kb.2.1; omega) (z_gp ⟨ka.2.1, kb.2.1, kb.2.2.1, by decide⟩ ?_))))))))))
      rw [ka.2.2.2, kb.2.2.2, show z_min 6 6 = 6 by decide +kernel]
      refine z_gp (by omega) (z_all (ih (i + 1) _ (by omega) (fun x hx => by rw [z_cpy_cell (by omega)]; exact w1 x hx) (fun w s hw hs => ?_)))
      rw [z_cpy_rd]
      by_cases c : w = i
      · subst c
        rw [if_pos rfl, if_pos ⟨by omega, by show s < 0 + 6; omega⟩, show 0 + (s - 0) = s by omega, w1 _ (by omega)]
      · rw [if_neg (by omega)]
        exact w2 w s (by omega) hs
  exact zb74_60_43 (lp 2 0 V (by omega) (fun _ _ => rfl) (fun w k hw => absurd hw (Nat.not_lt_zero w)))
theorem sp74_65_48 {V : z_M} (h : ∀ W, (∀ x, (x ≤ 48 ∨ 48 + 2 < x) → W x = V x) → (∀ w k, w < 2 → k < 7 → W (48 + 1 + w) k = V (65 + 1 + w) k) → Q 0 W) : z_MS (d + 1) 74 true [.inr (.inr 65), .inr (.inr 48)] V Q := by
  have lp : ∀ (k i : Nat) (W : z_M), i + k = 2 → (∀ x, (x ≤ 48 ∨ 48 + 2 < x) → W x = V x) → (∀ w k, w < i → k < 7 → W (48 + 1 + w) k = V (65 + 1 + w) k) → z_Ex (z_MS d) 74 Q true 2 [some (.inr (.inr 65)), some (.inr (.inr 48)), some (.inl (i : Int))] [] 0 0 W := by
    intro k
    induction k with
    | zero =>
      intro i W e w1 w2
      have e2 : i = 2 := by omega
      subst e2
      exact zb74_65_48_p2 _ (z_ifn (by decide) (h W w1 w2))
    | succ k ih =>
      intro i W e w1 w2
      have ka := zrk_65 (V := W) (i := i) (by omega)
      have kb := zrk_48 (V := W) (i := i) (by omega)
      refine zb74_65_48_p2 _ (z_ifp (by omega) (z_ifp (by omega) ?_))
      rw [Int.toNat_natCast, ka.1, kb.1, z_inc (by omega)]
      refine z_gp (by omega) (z_all (z_gp (by omega) (z_all (z_gp (by omega) (z_all (z_gp (by have := ka.2.1; omega) (z_gp (by omega) (z_all (z_gp (by have := kb.2.1; omega) (z_gp ⟨ka.2.1, kb.2.1, kb.2.2.1, by decide⟩ ?_))))))))))
      rw [ka.2.2.2, kb.2.2.2, show z_min 7 7 = 7 by decide +kernel]
      refine z_gp (by omega) (z_all (ih (i + 1) _ (by omega) (fun x hx => by rw [z_cpy_cell (by omega)]; exact w1 x hx) (fun w s hw hs => ?_)))
      rw [z_cpy_rd]
      by_cases c : w = i
      · subst c
        rw [if_pos rfl, if_pos ⟨by omega, by show s < 0 + 7; omega⟩, show 0 + (s - 0) = s by omega, w1 _ (by omega)]
      · rw [if_neg (by omega)]
        exact w2 w s (by omega) hs
  exact zb74_65_48 (lp 2 0 V (by omega) (fun _ _ => rfl) (fun w k hw => absurd hw (Nat.not_lt_zero w)))
theorem sp74_71_38 {V : z_M} (h : ∀ W, (∀ x, (x ≤ 38 ∨ 38 + 4 < x) → W x = V x) → (∀ w k, w < 4 → k < 12 → W (38 + 1 + w) k = V (71 + 1 + w) k) → Q 0 W) : z_MS (d + 1) 74 true [.inr (.inr 71), .inr (.inr 38)] V Q := by
  have lp : ∀ (k i : Nat) (W : z_M), i + k = 4 → (∀ x, (x ≤ 38 ∨ 38 + 4 < x) → W x = V x) → (∀ w k, w < i → k < 12 → W (38 + 1 + w) k = V (71 + 1 + w) k) → z_Ex (z_MS d) 74 Q true 2 [some (.inr (.inr 71)), some (.inr (.inr 38)), some (.inl (i : Int))] [] 0 0 W := by
    intro k
    induction k with
    | zero =>
      intro i W e w1 w2
      have e2 : i = 4 := by omega
      subst e2
      exact zb74_71_38_p2 _ (z_ifn (by decide) (h W w1 w2))
    | succ k ih =>
      intro i W e w1 w2
      have ka := zrk_71 (V := W) (i := i) (by omega)
      have kb := zrk_38 (V := W) (i := i) (by omega)
      refine zb74_71_38_p2 _ (z_ifp (by omega) (z_ifp (by omega) ?_))
      rw [Int.toNat_natCast, ka.1, kb.1, z_inc (by omega)]
      refine z_gp (by omega) (z_all (z_gp (by omega) (z_all (z_gp (by omega) (z_all (z_gp (by have := ka.2.1; omega) (z_gp (by omega) (z_all (z_gp (by have := kb.2.1; omega) (z_gp ⟨ka.2.1, kb.2.1, kb.2.2.1, by decide⟩ ?_))))))))))
      rw [ka.2.2.2, kb.2.2.2, show z_min 12 12 = 12 by decide +kernel]
      refine z_gp (by omega) (z_all (ih (i + 1) _ (by omega) (fun x hx => by rw [z_cpy_cell (by omega)]; exact w1 x hx) (fun w s hw hs => ?_)))
      rw [z_cpy_rd]
      by_cases c : w = i
      · subst c
        rw [if_pos rfl, if_pos ⟨by omega, by show s < 0 + 12; omega⟩, show 0 + (s - 0) = s by omega, w1 _ (by omega)]
      · rw [if_neg (by omega)]
        exact w2 w s (by omega) hs
  exact zb74_71_38 (lp 4 0 V (by omega) (fun _ _ => rfl) (fun w k hw => absurd hw (Nat.not_lt_zero w)))
theorem sp74_76_43 {V : z_M} (h : ∀ W, (∀ x, (x ≤ 43 ∨ 43 + 2 < x) → W x = V x) → (∀ w k, w < 2 → k < 6 → W (43 + 1 + w) k = V (76 + 1 + w) k) → Q 0 W) : z_MS (d + 1) 74 true [.inr (.inr 76), .inr (.inr 43)] V Q := by
  have lp : ∀ (k i : Nat) (W : z_M), i + k = 2 → (∀ x, (x ≤ 43 ∨ 43 + 2 < x) → W x = V x) → (∀ w k, w < i → k < 6 → W (43 + 1 + w) k = V (76 + 1 + w) k) → z_Ex (z_MS d) 74 Q true 2 [some (.inr (.inr 76)), some (.inr (.inr 43)), some (.inl (i : Int))] [] 0 0 W := by
    intro k
    induction k with
    | zero =>
      intro i W e w1 w2
      have e2 : i = 2 := by omega
      subst e2
      exact zb74_76_43_p2 _ (z_ifn (by decide) (h W w1 w2))
    | succ k ih =>
      intro i W e w1 w2
      have ka := zrk_76 (V := W) (i := i) (by omega)
      have kb := zrk_43 (V := W) (i := i) (by omega)
      refine zb74_76_43_p2 _ (z_ifp (by omega) (z_ifp (by omega) ?_))
      rw [Int.toNat_natCast, ka.1, kb.1, z_inc (by omega)]
      refine z_gp (by omega) (z_all (z_gp (by omega) (z_all (z_gp (by omega) (z_all (z_gp (by have := ka.2.1; omega) (z_gp (by omega) (z_all (z_gp (by have := kb.2.1; omega) (z_gp ⟨ka.2.1, kb.2.1, kb.2.2.1, by decide⟩ ?_))))))))))
      rw [ka.2.2.2, kb.2.2.2, show z_min 6 6 = 6 by decide +kernel]
      refine z_gp (by omega) (z_all (ih (i + 1) _ (by omega) (fun x hx => by rw [z_cpy_cell (by omega)]; exact w1 x hx) (fun w s hw hs => ?_)))
      rw [z_cpy_rd]
      by_cases c : w = i
      · subst c
        rw [if_pos rfl, if_pos ⟨by omega, by show s < 0 + 6; omega⟩, show 0 + (s - 0) = s by omega, w1 _ (by omega)]
      · rw [if_neg (by omega)]
        exact w2 w s (by omega) hs
  exact zb74_76_43 (lp 2 0 V (by omega) (fun _ _ => rfl) (fun w k hw => absurd hw (Nat.not_lt_zero w)))
theorem sp74_81_48 {V : z_M} (h : ∀ W, (∀ x, (x ≤ 48 ∨ 48 + 2 < x) → W x = V x) → (∀ w k, w < 2 → k < 7 → W (48 + 1 + w) k = V (81 + 1 + w) k) → Q 0 W) : z_MS (d + 1) 74 true [.inr (.inr 81), .inr (.inr 48)] V Q := by
  have lp : ∀ (k i : Nat) (W : z_M), i + k = 2 → (∀ x, (x ≤ 48 ∨ 48 + 2 < x) → W x = V x) → (∀ w k, w < i → k < 7 → W (48 + 1 + w) k = V (81 + 1 + w) k) → z_Ex (z_MS d) 74 Q true 2 [some (.inr (.inr 81)), some (.inr (.inr 48)), some (.inl (i : Int))] [] 0 0 W := by
    intro k
    induction k with
    | zero =>
      intro i W e w1 w2
      have e2 : i = 2 := by omega
      subst e2
      exact zb74_81_48_p2 _ (z_ifn (by decide) (h W w1 w2))
    | succ k ih =>
      intro i W e w1 w2
      have ka := zrk_81 (V := W) (i := i) (by omega)
      have kb := zrk_48 (V := W) (i := i) (by omega)
      refine zb74_81_48_p2 _ (z_ifp (by omega) (z_ifp (by omega) ?_))
      rw [Int.toNat_natCast, ka.1, kb.1, z_inc (by omega)]
      refine z_gp (by omega) (z_all (z_gp (by omega) (z_all (z_gp (by omega) (z_all (z_gp (by have := ka.2.1; omega) (z_gp (by omega) (z_all (z_gp (by have := kb.2.1; omega) (z_gp ⟨ka.2.1, kb.2.1, kb.2.2.1, by decide⟩ ?_))))))))))
      rw [ka.2.2.2, kb.2.2.2, show z_min 7 7 = 7 by decide +kernel]
      refine z_gp (by omega) (z_all (ih (i + 1) _ (by omega) (fun x hx => by rw [z_cpy_cell (by omega)]; exact w1 x hx) (fun w s hw hs => ?_)))
      rw [z_cpy_rd]
      by_cases c : w = i
      · subst c
        rw [if_pos rfl, if_pos ⟨by omega, by show s < 0 + 7; omega⟩, show 0 + (s - 0) = s by omega, w1 _ (by omega)]
      · rw [if_neg (by omega)]
        exact w2 w s (by omega) hs
  exact zb74_81_48 (lp 2 0 V (by omega) (fun _ _ => rfl) (fun w k hw => absurd hw (Nat.not_lt_zero w)))
end
/-- what is told from b on is as what was told from a on -/
def zCy (a b : Nat) (V W : z_M) : Prop := (∀ x, (x < b ∨ b + 14 < x) → W x = V x) ∧ (∀ k, 7 ≤ k → k ≤ 12 → W b k = V a k) ∧ (∀ w k, w < 4 → k < 12 → W (b + 2 + w) k = V (a + 2 + w) k) ∧ (∀ w k, w < 2 → k < 6 → W (b + 7 + w) k = V (a + 7 + w) k) ∧ (∀ k, k < 2 → W (b + 9) k = V (a + 9) k) ∧ (∀ k, k < 6 → W (b + 10) k = V (a + 10) k) ∧ (∀ w k, w < 2 → k < 7 → W (b + 12 + w) k = V (a + 12 + w) k) ∧ (∀ k, k < 8 → W (b + 14) k = V (a + 14) k)
theorem zCy_T {a b : Nat} {ρ : Nat → Int} {V W : z_M} {Λ : Nat → (Nat → Int) → Int} (hT : zT a ρ V Λ) (hb : 0 < b) (hb2 : b + 14 < 169) (h : zCy a b V W) : zT b ρ W Λ := by
  obtain ⟨c1, c2, c3, c4, c5, c6, c7, c8⟩ := h
  have a0 := zT_0 hT
  have a1 := zT_1 hT
  have a2 := zT_2 hT
  have a3 := zT_3 hT
  have a4 := zT_4 hT
  have a5 := zT_5 hT
  have a6 := zT_6 hT
  have a7 := zT_7 hT
  have e0 := c1 0 (by omega)
  refine ⟨by rw [c2 7 (by decide) (by decide)]; exact a0, by rw [c2 8 (by decide) (by decide)]; exact a1, by rw [c2 9 (by decide) (by decide)]; exact a2, by rw [c2 10 (by decide) (by decide)]; exact a3, by rw [c2 11 (by decide) (by decide)]; exact a4, by rw [c2 12 (by decide) (by decide)]; exact a5, by rw [c5 0 (by decide)]; exact a6, by rw [c5 1 (by decide)]; exact a7, fun t ht => ?_, fun r hr => ?_, fun s hs => ?_, fun k hk => ?_, fun l hl => by rw [c6 l hl]; exact zT_ls hT l hl, fun l hl => ?_⟩
  · have pt := zT_t hT ht
    rw [show W (b + 2) t = V (a + 2) t from c3 0 t (by decide) (by omega), show W (b + 3) t = V (a + 3) t from c3 1 t (by decide) (by omega), show W (b + 4) t = V (a + 4) t from c3 2 t (by decide) (by omega), show W (b + 5) t = V (a + 5) t from c3 3 t (by decide) (by omega)]
    exact pt
  · have pt := zT_r hT hr
    rw [show W (b + 7) r = V (a + 7) r from c4 0 r (by decide) (by omega), show W (b + 8) r = V (a + 8) r from c4 1 r (by decide) (by omega)]
    exact pt
  · have pt := zT_a hT hs
    rw [show W (b + 12) s = V (a + 12) s from c7 0 s (by decide) (by omega), show W (b + 13) s = V (a + 13) s from c7 1 s (by decide) (by omega)]
    exact pt
  · rw [c8 k (by omega)]
    exact zT_o hT hk
  · obtain ⟨q, x1, x2, x3, x4⟩ := zT_l hT hl
    exact ⟨q, by rw [c6 l (by omega)]; exact x1, by rw [e0]; exact x2, zLx_c x3 (fun k _ => by rw [e0]) (c1 _ (by omega)) (c1 _ (by omega)) (c1 _ (by omega)) (c1 _ (by omega)), x4⟩
section
variable {d : Nat} {Q : Int → z_M → Prop}
theorem sp73_54_37 {V : z_M} (hl : ∀ l : Nat, l < 6 → V 47 l = 0 ∨ ∃ q : Nat, V 47 l = 169 + 4 * (q : Int)) (h : ∀ W, zCy 37 54 V W → Q 0 W) : z_MS (d + 2) 73 true [.inr (.inr 54), .inr (.inr 37)] V Q := by
  refine zb73_54_37 (sp74_38_55 (d := d) (fun W1 x1 y1 => sp74_43_60 (d := d) (fun W2 x2 y2 => sp74_48_65 (d := d) (fun W3 x3 y3 => z_gp (by decide) (z_all (z_gp (by decide) (z_all ?_)))))))
  generalize hU : z_cpy (z_cpy W3 46 0 63 0 2) 51 0 68 0 8 = U
  have uf : ∀ x, (x < 54 ∨ 54 + 14 < x ∨ x = 54 ∨ x = 64) → U x = V x := fun x hx => by
    rw [← hU, z_cpy_cell (by omega), z_cpy_cell (by omega), x3 x (by omega), x2 x (by omega), x1 x (by omega)]
  have u9 : ∀ k, k < 2 → U 63 k = V 46 k := fun k hk => by
    rw [← hU, z_cpy_cell (by decide), z_cpy_rd, if_pos rfl, if_pos ⟨by omega, by show k < 0 + 2; omega⟩, show 0 + (k - 0) = k by omega, x3 _ (by omega), x2 _ (by omega), x1 _ (by omega)]
  have u14 : ∀ k, k < 8 → U 68 k = V 51 k := fun k hk => by
    rw [← hU, z_cpy_rd, if_pos rfl, if_pos ⟨by omega, by show k < 0 + 8; omega⟩, show 0 + (k - 0) = k by omega, z_cpy_cell (by decide), x3 _ (by omega), x2 _ (by omega), x1 _ (by omega)]
  have u2 : ∀ w k, w < 4 → k < 12 → U (55 + 1 + w) k = V (38 + 1 + w) k := fun w k hw hk => by
    rw [← hU, z_cpy_cell (by omega), z_cpy_cell (by omega), x3 _ (by omega), x2 _ (by omega)]
    exact y1 w k hw hk
  have u7 : ∀ w k, w < 2 → k < 6 → U (60 + 1 + w) k = V (43 + 1 + w) k := fun w k hw hk => by
    rw [← hU, z_cpy_cell (by omega), z_cpy_cell (by omega), x3 _ (by omega), y2 w k hw hk, x1 _ (by omega)]
  have u12 : ∀ w k, w < 2 → k < 7 → U (65 + 1 + w) k = V (48 + 1 + w) k := fun w k hw hk => by
    rw [← hU, z_cpy_cell (by omega), z_cpy_cell (by omega), y3 w k hw hk, x2 _ (by omega), x1 _ (by omega)]
  clear hU x1 x2 x3 y1 y2 y3
  have lp : ∀ (k i : Nat) (X : z_M), i + k = 6 → (∀ x, ¬ x = 64 → X x = U x) → (∀ l, l < i → X 64 l = V 47 l) → z_Ex (z_MS (d + 1)) 73 Q true 71 [some (.inr (.inr 54)), some (.inr (.inr 37)), some (.inl (i : Int))] [] 0 0 X := by
    intro k
    induction k with
    | zero =>
      intro i X e w1 w2
      have e2 : i = 6 := by omega
      subst e2
      refine zb73_54_37_p71 _ (z_ifn (by decide) (z_all (z_all (z_all (z_all (z_all (z_all (h _ ⟨fun x hx => ?_, fun k k1 k2 => ?_, fun w k hw hk => ?_, fun w k hw hk => ?_, fun k hk => ?_, fun k hk => ?_, fun w k hw hk => ?_, fun k hk => ?_⟩))))))))
      · rw [z_up_cell (by omega), z_up_cell (by omega), z_up_cell (by omega), z_up_cell (by omega), z_up_cell (by omega), z_up_cell (by omega), w1 x (by omega), uf x (by omega)]
      · have ea : X 37 = V 37 := by rw [w1 _ (by decide), uf _ (by omega)]
        have hk : k = 7 ∨ k = 8 ∨ k = 9 ∨ k = 10 ∨ k = 11 ∨ k = 12 := by omega
        rcases hk with rfl | rfl | rfl | rfl | rfl | rfl <;> exact congrFun ea _
      · rw [z_up_cell (by omega), z_up_cell (by omega), z_up_cell (by omega), z_up_cell (by omega), z_up_cell (by omega), z_up_cell (by omega), w1 _ (by omega)]
        exact u2 w k hw hk
      · rw [z_up_cell (by omega), z_up_cell (by omega), z_up_cell (by omega), z_up_cell (by omega), z_up_cell (by omega), z_up_cell (by omega), w1 _ (by omega)]
        exact u7 w k hw hk
      · rw [z_up_cell (by omega), z_up_cell (by omega), z_up_cell (by omega), z_up_cell (by omega), z_up_cell (by omega), z_up_cell (by omega), w1 _ (by omega)]
        exact u9 k hk
      · rw [z_up_cell (by omega), z_up_cell (by omega), z_up_cell (by omega), z_up_cell (by omega), z_up_cell (by omega), z_up_cell (by omega)]
        exact w2 k hk
      · rw [z_up_cell (by omega), z_up_cell (by omega), z_up_cell (by omega), z_up_cell (by omega), z_up_cell (by omega), z_up_cell (by omega), w1 _ (by omega)]
        exact u12 w k hw hk
      · rw [z_up_cell (by omega), z_up_cell (by omega), z_up_cell (by omega), z_up_cell (by omega), z_up_cell (by omega), z_up_cell (by omega), w1 _ (by omega)]
        exact u14 k hk
    | succ k ih =>
      intro i X e w1 w2
      refine zb73_54_37_p71 _ (z_ifp (by omega) (z_gp (by omega) (z_all ?_)))
      have ex : X 47 = V 47 := by rw [w1 _ (by decide), uf _ (by omega)]
      rw [Int.toNat_natCast, show z_rr true X 47 i = (X 47 i).toNat from rfl, ex, z_inc (by omega)]
      have hz : V 47 i = (((V 47 i).toNat : Nat) : Int) := by
        rcases hl i (by omega) with q | ⟨q, q2⟩ <;> omega
      refine z_gp ?_ (z_gp (fun _ => rfl) (z_gp (by omega) (z_all (ih (i + 1) _ (by omega) (fun x hx => by rw [z_up_cell hx]; exact w1 x hx) (fun l hl2 => ?_)))))
      · rcases hl i (by omega) with q | ⟨q, q2⟩
        · left; omega
        · right
          have e5 : (V 47 i).toNat = 169 + 4 * q := by omega
          rw [e5]
          exact ⟨by omega, zl_k0 q⟩
      · by_cases c : l = i
        · subst c; rw [zUp_s]; exact hz.symm
        · rw [zUp_o (by omega)]; exact w2 l (by omega)
  exact lp 6 0 U (by omega) (fun _ _ => rfl) (fun l hl => absurd hl (Nat.not_lt_zero l))
theorem sp73_70_37 {V : z_M} (hl : ∀ l : Nat, l < 6 → V 47 l = 0 ∨ ∃ q : Nat, V 47 l = 169 + 4 * (q : Int)) (h : ∀ W, zCy 37 70 V W → Q 0 W) : z_MS (d + 2) 73 true [.inr (.inr 70), .inr (.inr 37)] V Q := by
  refine zb73_70_37 (sp74_38_71 (d := d) (fun W1 x1 y1 => sp74_43_76 (d := d) (fun W2 x2 y2 => sp74_48_81 (d := d) (fun W3 x3 y3 => z_gp (by decide) (z_all (z_gp (by decide) (z_all ?_)))))))
  generalize hU : z_cpy (z_cpy W3 46 0 79 0 2) 51 0 84 0 8 = U
  have uf : ∀ x, (x < 70 ∨ 70 + 14 < x ∨ x = 70 ∨ x = 80) → U x = V x := fun x hx => by
    rw [← hU, z_cpy_cell (by omega), z_cpy_cell (by omega), x3 x (by omega), x2 x (by omega), x1 x (by omega)]
  have u9 : ∀ k, k < 2 → U 79 k = V 46 k := fun k hk => by
    rw [← hU, z_cpy_cell (by decide), z_cpy_rd, if_pos rfl, if_pos ⟨by omega, by show k < 0 + 2; omega⟩, show 0 + (k - 0) = k by omega, x3 _ (by omega), x2 _ (by omega), x1 _ (by omega)]
  have u14 : ∀ k, k < 8 → U 84 k = V 51 k := fun k hk => by
    rw [← hU, z_cpy_rd, if_pos rfl, if_pos ⟨by omega, by show k < 0 + 8; omega⟩, show 0 + (k - 0) = k by omega, z_cpy_cell (by decide), x3 _ (by omega), x2 _ (by omega), x1 _ (by omega)]
  have u2 : ∀ w k, w < 4 → k < 12 → U (71 + 1 + w) k = V (38 + 1 + w) k := fun w k hw hk => by
    rw [← hU, z_cpy_cell (by omega), z_cpy_cell (by omega), x3 _ (by omega), x2 _ (by omega)]
    exact y1 w k hw hk
  have u7 : ∀ w k, w < 2 → k < 6 → U (76 + 1 + w) k = V (43 + 1 + w) k := fun w k hw hk => by
    rw [← hU, z_cpy_cell (by omega), z_cpy_cell (by omega), x3 _ (by omega), y2 w k hw hk, x1 _ (by omega)]
  have u12 : ∀ w k, w < 2 → k < 7 → U (81 + 1 + w) k = V (48 + 1 + w) k := fun w k hw hk => by
    rw [← hU, z_cpy_cell (by omega), z_cpy_cell (by omega), y3 w k hw hk, x2 _ (by omega), x1 _ (by omega)]
  clear hU x1 x2 x3 y1 y2 y3
  have lp : ∀ (k i : Nat) (X : z_M), i + k = 6 → (∀ x, ¬ x = 80 → X x = U x) → (∀ l, l < i → X 80 l = V 47 l) → z_Ex (z_MS (d + 1)) 73 Q true 71 [some (.inr (.inr 70)), some (.inr (.inr 37)), some (.inl (i : Int))] [] 0 0 X := by
    intro k
    induction k with
    | zero =>
      intro i X e w1 w2
      have e2 : i = 6 := by omega
      subst e2
      refine zb73_70_37_p71 _ (z_ifn (by decide) (z_all (z_all (z_all (z_all (z_all (z_all (h _ ⟨fun x hx => ?_, fun k k1 k2 => ?_, fun w k hw hk => ?_, fun w k hw hk => ?_, fun k hk => ?_, fun k hk => ?_, fun w k hw hk => ?_, fun k hk => ?_⟩))))))))
      · rw [z_up_cell (by omega), z_up_cell (by omega), z_up_cell (by omega), z_up_cell (by omega), z_up_cell (by omega), z_up_cell (by omega), w1 x (by omega), uf x (by omega)]
      · have ea : X 37 = V 37 := by rw [w1 _ (by decide), uf _ (by omega)]
        have hk : k = 7 ∨ k = 8 ∨ k = 9 ∨ k = 10 ∨ k = 11 ∨ k = 12 := by omega
        rcases hk with rfl | rfl | rfl | rfl | rfl | rfl <;> exact congrFun ea _
      · rw [z_up_cell (by omega), z_up_cell (by omega), z_up_cell (by omega), z_up_cell (by omega), z_up_cell (by omega), z_up_cell (by omega), w1 _ (by omega)]
        exact u2 w k hw hk
      · rw [z_up_cell (by omega), z_up_cell (by omega), z_up_cell (by omega), z_up_cell (by omega), z_up_cell (by omega), z_up_cell (by omega), w1 _ (by omega)]
        exact u7 w k hw hk
      · rw [z_up_cell (by omega), z_up_cell (by omega), z_up_cell (by omega), z_up_cell (by omega), z_up_cell (by omega), z_up_cell (by omega), w1 _ (by omega)]
        exact u9 k hk
      · rw [z_up_cell (by omega), z_up_cell (by omega), z_up_cell (by omega), z_up_cell (by omega), z_up_cell (by omega), z_up_cell (by omega)]
        exact w2 k hk
      · rw [z_up_cell (by omega), z_up_cell (by omega), z_up_cell (by omega), z_up_cell (by omega), z_up_cell (by omega), z_up_cell (by omega), w1 _ (by omega)]
        exact u12 w k hw hk
      · rw [z_up_cell (by omega), z_up_cell (by omega), z_up_cell (by omega), z_up_cell (by omega), z_up_cell (by omega), z_up_cell (by omega), w1 _ (by omega)]
        exact u14 k hk
    | succ k ih =>
      intro i X e w1 w2
      refine zb73_70_37_p71 _ (z_ifp (by omega) (z_gp (by omega) (z_all ?_)))
      have ex : X 47 = V 47 := by rw [w1 _ (by decide), uf _ (by omega)]
      rw [Int.toNat_natCast, show z_rr true X 47 i = (X 47 i).toNat from rfl, ex, z_inc (by omega)]
      have hz : V 47 i = (((V 47 i).toNat : Nat) : Int) := by
        rcases hl i (by omega) with q | ⟨q, q2⟩ <;> omega
      refine z_gp ?_ (z_gp (fun _ => rfl) (z_gp (by omega) (z_all (ih (i + 1) _ (by omega) (fun x hx => by rw [z_up_cell hx]; exact w1 x hx) (fun l hl2 => ?_)))))
      · rcases hl i (by omega) with q | ⟨q, q2⟩
        · left; omega
        · right
          have e5 : (V 47 i).toNat = 169 + 4 * q := by omega
          rw [e5]
          exact ⟨by omega, zl_k0 q⟩
      · by_cases c : l = i
        · subst c; rw [zUp_s]; exact hz.symm
        · rw [zUp_o (by omega)]; exact w2 l (by omega)
  exact lp 6 0 U (by omega) (fun _ _ => rfl) (fun l hl => absurd hl (Nat.not_lt_zero l))
theorem sp73_37_54 {V : z_M} (hl : ∀ l : Nat, l < 6 → V 64 l = 0 ∨ ∃ q : Nat, V 64 l = 169 + 4 * (q : Int)) (h : ∀ W, zCy 54 37 V W → Q 0 W) : z_MS (d + 2) 73 true [.inr (.inr 37), .inr (.inr 54)] V Q := by
  refine zb73_37_54 (sp74_55_38 (d := d) (fun W1 x1 y1 => sp74_60_43 (d := d) (fun W2 x2 y2 => sp74_65_48 (d := d) (fun W3 x3 y3 => z_gp (by decide) (z_all (z_gp (by decide) (z_all ?_)))))))
  generalize hU : z_cpy (z_cpy W3 63 0 46 0 2) 68 0 51 0 8 = U
  have uf : ∀ x, (x < 37 ∨ 37 + 14 < x ∨ x = 37 ∨ x = 47) → U x = V x := fun x hx => by
    rw [← hU, z_cpy_cell (by omega), z_cpy_cell (by omega), x3 x (by omega), x2 x (by omega), x1 x (by omega)]
  have u9 : ∀ k, k < 2 → U 46 k = V 63 k := fun k hk => by
    rw [← hU, z_cpy_cell (by decide), z_cpy_rd, if_pos rfl, if_pos ⟨by omega, by show k < 0 + 2; omega⟩, show 0 + (k - 0) = k by omega, x3 _ (by omega), x2 _ (by omega), x1 _ (by omega)]
  have u14 : ∀ k, k < 8 → U 51 k = V 68 k := fun k hk => by
    rw [← hU, z_cpy_rd, if_pos rfl, if_pos ⟨by omega, by show k < 0 + 8; omega⟩, show 0 + (k - 0) = k by omega, z_cpy_cell (by decide), x3 _ (by omega), x2 _ (by omega), x1 _ (by omega)]
  have u2 : ∀ w k, w < 4 → k < 12 → U (38 + 1 + w) k = V (55 + 1 + w) k := fun w k hw hk => by
    rw [← hU, z_cpy_cell (by omega), z_cpy_cell (by omega), x3 _ (by omega), x2 _ (by omega)]
    exact y1 w k hw hk
  have u7 : ∀ w k, w < 2 → k < 6 → U (43 + 1 + w) k = V (60 + 1 + w) k := fun w k hw hk => by
    rw [← hU, z_cpy_cell (by omega), z_cpy_cell (by omega), x3 _ (by omega), y2 w k hw hk, x1 _ (by omega)]
  have u12 : ∀ w k, w < 2 → k < 7 → U (48 + 1 + w) k = V (65 + 1 + w) k := fun w k hw hk => by
    rw [← hU, z_cpy_cell (by omega), z_cpy_cell (by omega), y3 w k hw hk, x2 _ (by omega), x1 _ (by omega)]
  clear hU x1 x2 x3 y1 y2 y3
  have lp : ∀ (k i : Nat) (X : z_M), i + k = 6 → (∀ x, ¬ x = 47 → X x = U x) → (∀ l, l < i → X 47 l = V 64 l) → z_Ex (z_MS (d + 1)) 73 Q true 71 [some (.inr (.inr 37)), some (.inr (.inr 54)), some (.inl (i : Int))] [] 0 0 X := by
    intro k
    induction k with
    | zero =>
      intro i X e w1 w2
      have e2 : i = 6 := by omega
      subst e2
      refine zb73_37_54_p71 _ (z_ifn (by decide) (z_all (z_all (z_all (z_all (z_all (z_all (h _ ⟨fun x hx => ?_, fun k k1 k2 => ?_, fun w k hw hk => ?_, fun w k hw hk => ?_, fun k hk => ?_, fun k hk => ?_, fun w k hw hk => ?_, fun k hk => ?_⟩))))))))
      · rw [z_up_cell (by omega), z_up_cell (by omega), z_up_cell (by omega), z_up_cell (by omega), z_up_cell (by omega), z_up_cell (by omega), w1 x (by omega), uf x (by omega)]
      · have ea : X 54 = V 54 := by rw [w1 _ (by decide), uf _ (by omega)]
        have hk : k = 7 ∨ k = 8 ∨ k = 9 ∨ k = 10 ∨ k = 11 ∨ k = 12 := by omega
        rcases hk with rfl | rfl | rfl | rfl | rfl | rfl <;> exact congrFun ea _
      · rw [z_up_cell (by omega), z_up_cell (by omega), z_up_cell (by omega), z_up_cell (by omega), z_up_cell (by omega), z_up_cell (by omega), w1 _ (by omega)]
        exact u2 w k hw hk
      · rw [z_up_cell (by omega), z_up_cell (by omega), z_up_cell (by omega), z_up_cell (by omega), z_up_cell (by omega), z_up_cell (by omega), w1 _ (by omega)]
        exact u7 w k hw hk
      · rw [z_up_cell (by omega), z_up_cell (by omega), z_up_cell (by omega), z_up_cell (by omega), z_up_cell (by omega), z_up_cell (by omega), w1 _ (by omega)]
        exact u9 k hk
      · rw [z_up_cell (by omega), z_up_cell (by omega), z_up_cell (by omega), z_up_cell (by omega), z_up_cell (by omega), z_up_cell (by omega)]
        exact w2 k hk
      · rw [z_up_cell (by omega), z_up_cell (by omega), z_up_cell (by omega), z_up_cell (by omega), z_up_cell (by omega), z_up_cell (by omega), w1 _ (by omega)]
        exact u12 w k hw hk
      · rw [z_up_cell (by omega), z_up_cell (by omega), z_up_cell (by omega), z_up_cell (by omega), z_up_cell (by omega), z_up_cell (by omega), w1 _ (by omega)]
        exact u14 k hk
    | succ k ih =>
      intro i X e w1 w2
      refine zb73_37_54_p71 _ (z_ifp (by omega) (z_gp (by omega) (z_all ?_)))
      have ex : X 64 = V 64 := by rw [w1 _ (by decide), uf _ (by omega)]
      rw [Int.toNat_natCast, show z_rr true X 64 i = (X 64 i).toNat from rfl, ex, z_inc (by omega)]
      have hz : V 64 i = (((V 64 i).toNat : Nat) : Int) := by
        rcases hl i (by omega) with q | ⟨q, q2⟩ <;> omega
      refine z_gp ?_ (z_gp (fun _ => rfl) (z_gp (by omega) (z_all (ih (i + 1) _ (by omega) (fun x hx => by rw [z_up_cell hx]; exact w1 x hx) (fun l hl2 => ?_)))))
      · rcases hl i (by omega) with q | ⟨q, q2⟩
        · left; omega
        · right
          have e5 : (V 64 i).toNat = 169 + 4 * q := by omega
          rw [e5]
          exact ⟨by omega, zl_k0 q⟩
      · by_cases c : l = i
        · subst c; rw [zUp_s]; exact hz.symm
        · rw [zUp_o (by omega)]; exact w2 l (by omega)
  exact lp 6 0 U (by omega) (fun _ _ => rfl) (fun l hl => absurd hl (Nat.not_lt_zero l))
theorem sp73_37_70 {V : z_M} (hl : ∀ l : Nat, l < 6 → V 80 l = 0 ∨ ∃ q : Nat, V 80 l = 169 + 4 * (q : Int)) (h : ∀ W, zCy 70 37 V W → Q 0 W) : z_MS (d + 2) 73 true [.inr (.inr 37), .inr (.inr 70)] V Q := by
  refine zb73_37_70 (sp74_71_38 (d := d) (fun W1 x1 y1 => sp74_76_43 (d := d) (fun W2 x2 y2 => sp74_81_48 (d := d) (fun W3 x3 y3 => z_gp (by decide) (z_all (z_gp (by decide) (z_all ?_)))))))
  generalize hU : z_cpy (z_cpy W3 79 0 46 0 2) 84 0 51 0 8 = U
  have uf : ∀ x, (x < 37 ∨ 37 + 14 < x ∨ x = 37 ∨ x = 47) → U x = V x := fun x hx => by
    rw [← hU, z_cpy_cell (by omega), z_cpy_cell (by omega), x3 x (by omega), x2 x (by omega), x1 x (by omega)]
  have u9 : ∀ k, k < 2 → U 46 k = V 79 k := fun k hk => by
    rw [← hU, z_cpy_cell (by decide), z_cpy_rd, if_pos rfl, if_pos ⟨by omega, by show k < 0 + 2; omega⟩, show 0 + (k - 0) = k by omega, x3 _ (by omega), x2 _ (by omega), x1 _ (by omega)]
  have u14 : ∀ k, k < 8 → U 51 k = V 84 k := fun k hk => by
    rw [← hU, z_cpy_rd, if_pos rfl, if_pos ⟨by omega, by show k < 0 + 8; omega⟩, show 0 + (k - 0) = k by omega, z_cpy_cell (by decide), x3 _ (by omega), x2 _ (by omega), x1 _ (by omega)]
  have u2 : ∀ w k, w < 4 → k < 12 → U (38 + 1 + w) k = V (71 + 1 + w) k := fun w k hw hk => by
    rw [← hU, z_cpy_cell (by omega), z_cpy_cell (by omega), x3 _ (by omega), x2 _ (by omega)]
    exact y1 w k hw hk
  have u7 : ∀ w k, w < 2 → k < 6 → U (43 + 1 + w) k = V (76 + 1 + w) k := fun w k hw hk => by
    rw [← hU, z_cpy_cell (by omega), z_cpy_cell (by omega), x3 _ (by omega), y2 w k hw hk, x1 _ (by omega)]
  have u12 : ∀ w k, w < 2 → k < 7 → U (48 + 1 + w) k = V (81 + 1 + w) k := fun w k hw hk => by
    rw [← hU, z_cpy_cell (by omega), z_cpy_cell (by omega), y3 w k hw hk, x2 _ (by omega), x1 _ (by omega)]
  clear hU x1 x2 x3 y1 y2 y3
  have lp : ∀ (k i : Nat) (X : z_M), i + k = 6 → (∀ x, ¬ x = 47 → X x = U x) → (∀ l, l < i → X 47 l = V 80 l) → z_Ex (z_MS (d + 1)) 73 Q true 71 [some (.inr (.inr 37)), some (.inr (.inr 70)), some (.inl (i : Int))] [] 0 0 X := by
    intro k
    induction k with
    | zero =>
      intro i X e w1 w2
      have e2 : i = 6 := by omega
      subst e2
      refine zb73_37_70_p71 _ (z_ifn (by decide) (z_all (z_all (z_all (z_all (z_all (z_all (h _ ⟨fun x hx => ?_, fun k k1 k2 => ?_, fun w k hw hk => ?_, fun w k hw hk => ?_, fun k hk => ?_, fun k hk => ?_, fun w k hw hk => ?_, fun k hk => ?_⟩))))))))
      · rw [z_up_cell (by omega), z_up_cell (by omega), z_up_cell (by omega), z_up_cell (by omega), z_up_cell (by omega), z_up_cell (by omega), w1 x (by omega), uf x (by omega)]
      · have ea : X 70 = V 70 := by rw [w1 _ (by decide), uf _ (by omega)]
        have hk : k = 7 ∨ k = 8 ∨ k = 9 ∨ k = 10 ∨ k = 11 ∨ k = 12 := by omega
        rcases hk with rfl | rfl | rfl | rfl | rfl | rfl <;> exact congrFun ea _
      · rw [z_up_cell (by omega), z_up_cell (by omega), z_up_cell (by omega), z_up_cell (by omega), z_up_cell (by omega), z_up_cell (by omega), w1 _ (by omega)]
        exact u2 w k hw hk
      · rw [z_up_cell (by omega), z_up_cell (by omega), z_up_cell (by omega), z_up_cell (by omega), z_up_cell (by omega), z_up_cell (by omega), w1 _ (by omega)]
        exact u7 w k hw hk
      · rw [z_up_cell (by omega), z_up_cell (by omega), z_up_cell (by omega), z_up_cell (by omega), z_up_cell (by omega), z_up_cell (by omega), w1 _ (by omega)]
        exact u9 k hk
      · rw [z_up_cell (by omega), z_up_cell (by omega), z_up_cell (by omega), z_up_cell (by omega), z_up_cell (by omega), z_up_cell (by omega)]
        exact w2 k hk
      · rw [z_up_cell (by omega), z_up_cell (by omega), z_up_cell (by omega), z_up_cell (by omega), z_up_cell (by omega), z_up_cell (by omega), w1 _ (by omega)]
        exact u12 w k hw hk
      · rw [z_up_cell (by omega), z_up_cell (by omega), z_up_cell (by omega), z_up_cell (by omega), z_up_cell (by omega), z_up_cell (by omega), w1 _ (by omega)]
        exact u14 k hk
    | succ k ih =>
      intro i X e w1 w2
      refine zb73_37_70_p71 _ (z_ifp (by omega) (z_gp (by omega) (z_all ?_)))
      have ex : X 80 = V 80 := by rw [w1 _ (by decide), uf _ (by omega)]
      rw [Int.toNat_natCast, show z_rr true X 80 i = (X 80 i).toNat from rfl, ex, z_inc (by omega)]
      have hz : V 80 i = (((V 80 i).toNat : Nat) : Int) := by
        rcases hl i (by omega) with q | ⟨q, q2⟩ <;> omega
      refine z_gp ?_ (z_gp (fun _ => rfl) (z_gp (by omega) (z_all (ih (i + 1) _ (by omega) (fun x hx => by rw [z_up_cell hx]; exact w1 x hx) (fun l hl2 => ?_)))))
      · rcases hl i (by omega) with q | ⟨q, q2⟩
        · left; omega
        · right
          have e5 : (V 80 i).toNat = 169 + 4 * q := by omega
          rw [e5]
          exact ⟨by omega, zl_k0 q⟩
      · by_cases c : l = i
        · subst c; rw [zUp_s]; exact hz.symm
        · rw [zUp_o (by omega)]; exact w2 l (by omega)
  exact lp 6 0 U (by omega) (fun _ _ => rfl) (fun l hl => absurd hl (Nat.not_lt_zero l))
end
