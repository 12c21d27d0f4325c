/-! small methods of the class -/
theorem sp133 {d : Nat} {Q : Int → z_M → Prop} {a b c : Int} {V : z_M} (h1 : b ≤ a ∧ a ≤ c → Q 1 V) (h0 : ¬ (b ≤ a ∧ a ≤ c) → Q 0 V) : z_MS (d + 1) 133 true [.inl a, .inl b, .inl c] V Q := by
  refine zb133 _ _ _ ?_
  split
  · exact h0 (by omega)
  · split
    · exact h0 (by omega)
    · exact h1 (by omega)
/-- the cells that are never changed -/
def zSt (V : z_M) : Prop := ∀ a, 2 ≤ a → a < 36 → V a = z_VS a
theorem zSt_2 {V : z_M} (h : zSt V) : V 2 0 = 1 ∧ V 2 1 = 1 ∧ V 2 2 = 0 ∧ V 2 3 = 0 := by
  rw [h 2 (by decide) (by decide)]; decide +kernel
theorem zSt_3 {V : z_M} (h : zSt V) : V 3 0 = 9 ∧ V 3 1 = 99 ∧ V 3 2 = 9 ∧ V 3 3 = 1 := by
  rw [h 3 (by decide) (by decide)]; decide +kernel
theorem zSt_4 {V : z_M} (h : zSt V) : V 4 0 = 40 ∧ V 4 1 = 99 := by
  rw [h 4 (by decide) (by decide)]; decide +kernel
theorem zSt_5 {V : z_M} (h : zSt V) : V 5 0 = 23 ∧ V 5 1 = 9 := by
  rw [h 5 (by decide) (by decide)]; decide +kernel
theorem zSt_6 {V : z_M} (h : zSt V) {k : Nat} (hk : k < 12) : V 6 k = k := by
  rw [h 6 (by decide) (by decide)]
  have : ∀ k : Fin 12, z_VS 6 k.val = k.val := by decide +kernel
  exact this ⟨k, hk⟩
def zBk (w v : Int) : Prop := (w = 0 ∧ 1 ≤ v ∧ v ≤ 9) ∨ (w = 1 ∧ 1 ≤ v ∧ v ≤ 99) ∨ (w = 2 ∧ 0 ≤ v ∧ v ≤ 9) ∨ (w = 3 ∧ 0 ≤ v ∧ v ≤ 1)
theorem sp134 {d : Nat} {Q : Int → z_M → Prop} {w v : Int} {V : z_M} (hS : zSt V) (h1 : zBk w v → Q 1 V) (h0 : ¬ zBk w v → Q 0 V) : z_MS (d + 2) 134 true [.inl w, .inl v] V Q := by
  have e2 := zSt_2 hS
  have e3 := zSt_3 hS
  refine zb134 _ _ (sp133 (fun hw => ?_) (fun hw => ?_))
  · refine z_ifn (by decide) (z_gp (by omega) (z_all (z_gp (by omega) (z_all ?_))))
    have hc : w.toNat = 0 ∨ w.toNat = 1 ∨ w.toNat = 2 ∨ w.toNat = 3 := by omega
    unfold zBk at h1 h0
    refine sp133 (fun h => ?_) (fun h => ?_)
    · refine h1 ?_
      rcases hc with hc | hc | hc | hc <;> rw [hc] at h <;> omega
    · refine h0 ?_
      rcases hc with hc | hc | hc | hc <;> rw [hc] at h <;> omega
  · refine z_ifp rfl (h0 ?_)
    unfold zBk
    omega
theorem sp75 {d : Nat} {Q : Int → z_M → Prop} {a : Int} {V : z_M} (hT : 0 ≤ V 37 7 ∧ V 37 7 ≤ 12) (h1 : 0 ≤ a ∧ a < V 37 7 → Q 1 V) (h0 : ¬ (0 ≤ a ∧ a < V 37 7) → Q 0 V) : z_MS (d + 2) 75 true [.inr (.inr 37), .inl a] V Q := by
  refine zb75_37 _ ?_
  rw [z_sub_e (by omega)]
  refine sp133 (fun h => z_gp (by decide) (h1 (by omega))) (fun h => z_gp (by decide) (h0 (by omega)))
