/-! what the makers leave -/
def xA : Option (Nat × Nat × Nat × List xOp) := xrun 400 91 0 (z_ent [.inr (.inr 36)] (z_ml 91)) [] 0 0 37 [(0, 0, 0, 37)]
def xL1 : List xOp := match xA with
  | some (_, _, _, l) => l
  | none => []
def xB : Option (Nat × Nat × Nat × List xOp) := xrun 400 144 0 (z_ent [.inr (.inr 141)] (z_ml 144)) [] 0 0 142 ((0, 0, 0, 142) :: xL1)
def xL : List xOp := match xB with
  | some (_, _, _, l) => l
  | none => []
theorem xA_1 : xA.map (fun w => w.2.2.1) = some 141 := by decide +kernel
theorem xB_1 : xB.map (fun w => w.2.2.1) = some 169 := by decide +kernel
theorem xA_e : ∃ k s, xA = some (k, s, 141, xL1) := by
  have h := xA_1
  unfold xL1
  cases hx : xA with
  | none => rw [hx] at h; cases h
  | some w =>
    obtain ⟨k, s, nx, l⟩ := w
    rw [hx] at h
    cases h
    exact ⟨k, s, rfl⟩
theorem xB_e : ∃ k s, xB = some (k, s, 169, xL) := by
  have h := xB_1
  unfold xL
  cases hx : xB with
  | none => rw [hx] at h; cases h
  | some w =>
    obtain ⟨k, s, nx, l⟩ := w
    rw [hx] at h
    cases h
    exact ⟨k, s, rfl⟩
def xok : xOp → Bool
  | (0, a, k, _) => (Nat.beq a 0 && (Nat.beq k 0 || Nat.ble 36 k)) || Nat.ble 36 a
  | (_ + 1, nx, _, _) => Nat.ble 36 nx
theorem xL_ok : xL.all xok = true := by decide +kernel
theorem xU_low {V0 : z_M} : ∀ {l : List xOp}, l.all xok = true → (∀ a, 0 < a → a < 36 → xU V0 l a = V0 a) ∧ ∀ k, 0 < k → k < 36 → xU V0 l 0 k = V0 0 k
  | [], _ => ⟨fun _ _ _ => rfl, fun _ _ _ => rfl⟩
  | (0, a, k, v) :: t, h => by
    rw [List.all_cons, Bool.and_eq_true] at h
    obtain ⟨h1, h2⟩ := xU_low (V0 := V0) h.2
    have ha : (a = 0 ∧ (k = 0 ∨ 36 ≤ k)) ∨ 36 ≤ a := by
      have q := h.1
      unfold xok at q
      rw [Bool.or_eq_true, Bool.and_eq_true, Bool.or_eq_true] at q
      rcases q with ⟨q1, q2 | q2⟩ | q
      · exact Or.inl ⟨Nat.eq_of_beq_eq_true q1, Or.inl (Nat.eq_of_beq_eq_true q2)⟩
      · exact Or.inl ⟨Nat.eq_of_beq_eq_true q1, Or.inr (Nat.le_of_ble_eq_true q2)⟩
      · exact Or.inr (Nat.le_of_ble_eq_true q)
    refine ⟨fun b b1 b2 => ?_, fun j j1 j2 => ?_⟩
    · show z_up (xU V0 t) a k v b = _
      rw [z_up_cell (by omega)]
      exact h1 b b1 b2
    · show z_up (xU V0 t) a k v 0 j = _
      rw [zUp_o (by omega)]
      exact h2 j j1 j2
  | (m + 1, nx, n, v) :: t, h => by
    rw [List.all_cons, Bool.and_eq_true] at h
    obtain ⟨h1, h2⟩ := xU_low (V0 := V0) h.2
    have ha : 36 ≤ nx := Nat.le_of_ble_eq_true h.1
    refine ⟨fun b b1 b2 => ?_, fun j j1 j2 => ?_⟩
    · funext j
      show (if b = 0 then _ else if b = nx then _ else xU V0 t b j) = _
      rw [if_neg (by omega), if_neg (by omega), h1 b b1 b2]
    · show (if j = 0 then _ else if j = nx then _ else if nx < j ∧ j ≤ nx + n then _ else xU V0 t 0 j) = _
      rw [if_neg (by omega), if_neg (by omega), if_neg (by omega)]
      exact h2 j j1 j2
def xG (l : List xOp) : Bool := (List.range 169).all fun a => (List.range 60).all fun k => Nat.beq (z_rf a k) 0 || (Nat.ble 2 a && decide ((xrd l a k).getD (z_VS a k) = ((z_rf a k : Nat) : Int)))
set_option maxRecDepth 100000 in
theorem xG_1 : xG xL = true := by decide +kernel
def xFa : List (Nat × Nat × Int) := [(37, 7, 0), (37, 8, 0), (37, 9, 0), (37, 10, -1), (37, 11, 0), (37, 12, 0), (46, 0, 9), (46, 1, 0), (143, 0, 0), (143, 1, 0), (143, 2, 0), (143, 3, -1), (143, 4, 0), (143, 5, 0), (143, 6, 9), (143, 7, 0), (47, 0, 0), (47, 1, 0), (47, 2, 0), (47, 3, 0), (47, 4, 0), (47, 5, 0), (119, 1, 0), (123, 1, 0), (86, 0, 0), (86, 1, 0), (145, 0, 0), (145, 1, 0), (87, 1, 0), (141, 8, 0), (36, 13, 0), (141, 6, 0), (36, 14, -1), (141, 13, -1), (36, 15, 0), (141, 1, 0), (134, 1, 0), (141, 55, 0), (140, 0, 0), (140, 1, 0), (140, 2, 0), (140, 3, 0), (140, 4, 0), (140, 5, 0), (140, 6, 0), (142, 0, 0), (142, 1, 0), (142, 2, 0), (142, 3, 0), (142, 4, 0), (142, 5, 0), (142, 6, 0), (152, 0, zWo 0), (152, 1, zWo 1), (152, 2, zWo 2), (152, 3, zWo 3), (152, 4, zWo 4), (152, 5, zWo 5), (152, 6, zWo 6), (152, 7, zWo 7), (152, 8, zWo 8)]
theorem xFa_1 : xFa.all (fun w => Nat.ble 2 w.1 && decide ((xrd xL w.1 w.2.1).getD (z_VS w.1 w.2.1) = w.2.2)) = true := by decide +kernel
section
variable {L : Nat} {xs : Nat → Int32}
theorem z_V0_2 {a k : Nat} (h : 2 ≤ a) : z_V0 L xs a k = z_VS a k := by
  unfold z_V0
  rw [if_neg (by omega), if_neg (by omega)]
theorem xFa_e {a k : Nat} {v : Int} (h : (a, k, v) ∈ xFa) : xU (z_V0 L xs) xL a k = v := by
  have q := List.all_eq_true.mp xFa_1 _ h
  rw [Bool.and_eq_true] at q
  rw [xU_rd, z_V0_2 (Nat.le_of_ble_eq_true q.1)]
  exact of_decide_eq_true q.2
theorem z_cf {b : Bool} {f g : Nat → Nat} {k : Nat} (h1 : f k = 0) (h2 : g k = 0) : (cond b f g) k = 0 := by cases b; exact h2; exact h1
theorem z_cc {b : Bool} {f g : Nat → Nat → Nat} {a k : Nat} (h1 : f a k = 0) (h2 : g a k = 0) : (cond b f g) a k = 0 := by cases b; exact h2; exact h1
theorem z_rf_60 (a j : Nat) : z_rf a (j + 60) = 0 := by
  unfold z_rf
  refine z_cf ?_ rfl
  unfold z_rf0
  repeat' (first
    | exact rfl
    | refine z_cf ?_ ?_)
theorem xGr : z_Gr (xU (z_V0 L xs) xL) := by
  intro a k hk
  have ha : a < 169 := by
    by_cases h : a < 169
    · exact h
    · exact absurd (z_rf_n (by omega)) hk
  have hk2 : k < 60 := by
    by_cases h : k < 60
    · exact h
    · obtain ⟨j, rfl⟩ : ∃ j, k = j + 60 := ⟨k - 60, by omega⟩
      exact absurd (z_rf_60 a j) hk
  have q := List.all_eq_true.mp xG_1 a (List.mem_range.mpr ha)
  have q2 := List.all_eq_true.mp q k (List.mem_range.mpr hk2)
  rw [Bool.or_eq_true] at q2
  rcases q2 with q2 | q2
  · exact absurd (Nat.eq_of_beq_eq_true q2) hk
  · rw [Bool.and_eq_true] at q2
    rw [xU_rd, z_V0_2 (Nat.le_of_ble_eq_true q2.1)]
    exact of_decide_eq_true q2.2
theorem xR (h0 : xU (z_V0 L xs) xL 0 0 = 169) : zR (xU (z_V0 L xs) xL) := by
  have f : ∀ {a k : Nat} {v : Int}, (a, k, v) ∈ xFa → xU (z_V0 L xs) xL a k = v := fun h => xFa_e h
  have low := xU_low (V0 := z_V0 L xs) xL_ok
  generalize xU (z_V0 L xs) xL = M at h0 f low ⊢
  have g : ∀ {a k : Nat} (v : Int), (a, k, v) ∈ xFa → M a k = v := fun v h => f h
  refine ⟨⟨fun _ _ => 0, ?_, fun n R m _ _ _ => ⟨Or.inl (g 0 (by decide)), Or.inl (g 0 (by decide))⟩⟩, ?_, ?_, ?_⟩
  · have z0 : M 143 0 = 0 := g 0 (by decide)
    have z1 : M 143 1 = 0 := g 0 (by decide)
    have z2 : M 143 2 = 0 := g 0 (by decide)
    have z3 : M 143 3 = -1 := g (-1) (by decide)
    have z4 : M 143 4 = 0 := g 0 (by decide)
    have z5 : M 143 5 = 0 := g 0 (by decide)
    have z6 : M 143 6 = 9 := g 9 (by decide)
    have z7 : M 143 7 = 0 := g 0 (by decide)
    have w7 : M 37 7 = 0 := g 0 (by decide)
    have w8 : M 37 8 = 0 := g 0 (by decide)
    have w9 : M 37 9 = 0 := g 0 (by decide)
    have w10 : M 37 10 = -1 := g (-1) (by decide)
    have w11 : M 37 11 = 0 := g 0 (by decide)
    have w12 : M 37 12 = 0 := g 0 (by decide)
    have t0 : M 46 0 = 9 := g 9 (by decide)
    have t1 : M 46 1 = 0 := g 0 (by decide)
    unfold zT
    refine ⟨by omega, by omega, by omega, by omega, by omega, by omega, ?_, ?_, fun t ht => by omega, fun t ht => by omega, fun t ht => by omega, fun t ht => by omega, fun l hl => Or.inl ?_, fun l hl => by omega⟩
    · show M 46 0 = _ ∧ _
      omega
    · show M 46 1 = _ ∧ _
      omega
    · show M 47 l = 0
      rcases (by omega : l = 0 ∨ l = 1 ∨ l = 2 ∨ l = 3 ∨ l = 4 ∨ l = 5) with rfl | rfl | rfl | rfl | rfl | rfl <;> exact g 0 (by decide)
  · have e1 : M 86 0 = 0 := g 0 (by decide)
    have e2 : M 145 0 = 0 := g 0 (by decide)
    exact ⟨e1.trans e2.symm, Or.inl e1, fun q => by omega⟩
  · have e1 : M 86 1 = 0 := g 0 (by decide)
    have e2 : M 145 1 = 0 := g 0 (by decide)
    exact ⟨e1.trans e2.symm, Or.inl e1, fun q => by omega⟩
  · have e87 : M 87 1 = 0 := g 0 (by decide)
    have e8 : M 141 8 = 0 := g 0 (by decide)
    have a1 : M 36 13 = 0 := g 0 (by decide)
    have a2 : M 141 6 = 0 := g 0 (by decide)
    have a3 : M 36 14 = -1 := g (-1) (by decide)
    have a4 : M 141 13 = -1 := g (-1) (by decide)
    have a5 : M 36 15 = 0 := g 0 (by decide)
    have a6 : M 141 1 = 0 := g 0 (by decide)
    have a7 : M 134 1 = 0 := g 0 (by decide)
    have a8 : M 141 55 = 0 := g 0 (by decide)
    refine ⟨fun a x y => ?_, ⟨by omega, by omega, by omega, fun j hj => by omega⟩, by omega, by omega, by omega, fun k hk => ?_, ⟨by omega, by omega, by omega, fun w i hw hi => by omega⟩, fun k hk => ?_, ⟨0, by rw [h0]; rfl⟩⟩
    · rw [low.1 a (by omega) y]
      funext k
      exact z_V0_2 x
    · have b1 : M 140 k = 0 := by rcases (by omega : k = 0 ∨ k = 1 ∨ k = 2 ∨ k = 3 ∨ k = 4 ∨ k = 5 ∨ k = 6) with rfl | rfl | rfl | rfl | rfl | rfl | rfl <;> exact g 0 (by decide)
      have b2 : M 142 k = 0 := by rcases (by omega : k = 0 ∨ k = 1 ∨ k = 2 ∨ k = 3 ∨ k = 4 ∨ k = 5 ∨ k = 6) with rfl | rfl | rfl | rfl | rfl | rfl | rfl <;> exact g 0 (by decide)
      rw [b1, b2]
    · rcases (by omega : k = 0 ∨ k = 1 ∨ k = 2 ∨ k = 3 ∨ k = 4 ∨ k = 5 ∨ k = 6 ∨ k = 7 ∨ k = 8) with rfl | rfl | rfl | rfl | rfl | rfl | rfl | rfl | rfl <;> exact g _ (by decide)
end
