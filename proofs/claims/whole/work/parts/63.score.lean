/-! scores, purely -/
def zWg (S : Int × Int × Int × List Nat) (s t : Int) (row : List Nat) : Int × Int × Int × List Nat :=
  if S.1 < s ∨ (s = S.1 ∧ t < S.2.1) then (s, t, 1, row) else if s = S.1 ∧ t = S.2.1 then (S.1, S.2.1, z_add S.2.2.1 1, S.2.2.2) else S
def zS0 : Int × Int × Int × List Nat := (-1, 0, 0, [])
def zFd (ev : List Nat → Int × Int) (S : Int × Int × Int × List Nat) (rows : List (List Nat)) : Int × Int × Int × List Nat := rows.foldl (fun S row => zWg S (ev row).1 (ev row).2 row) S
theorem zFd_a {ev : List Nat → Int × Int} {S : Int × Int × Int × List Nat} {A B : List (List Nat)} : zFd ev S (A ++ B) = zFd ev (zFd ev S A) B := by
  unfold zFd
  rw [List.foldl_append]
theorem zFd_n {ev : List Nat → Int × Int} {S : Int × Int × Int × List Nat} : ∀ {A : List (List Nat)}, (∀ row ∈ A, (ev row).1 < S.1) → zFd ev S A = S
  | [], _ => rfl
  | a :: A, h => by
    have h1 := h a (by simp)
    have e : zWg S (ev a).1 (ev a).2 a = S := by
      unfold zWg
      rw [if_neg (by omega), if_neg (by omega)]
    show zFd ev (zWg S (ev a).1 (ev a).2 a) A = S
    rw [e]
    exact zFd_n (fun row hr => h row (by simp [hr]))
/-- what a row of askings gives -/
def zEv (sv : (Nat → Nat) → (Nat → Bool) → Nat → Nat → Int) (sd : (Nat → Nat) → (Nat → Bool) → Nat → Bool) (rq tq : Nat → Nat) (S : (Nat → Nat) × (Nat → Bool)) (m R : Nat) : Int × Int :=
  ((zCt m (zPb sv rq tq S) : Int), (zCt R (fun r => sd (zPl sv rq tq S m).1 (zPl sv rq tq S m).2 r) : Int))
theorem zPl_c {sv : (Nat → Nat) → (Nat → Bool) → Nat → Nat → Int} {rq tq rq2 tq2 : Nat → Nat} {S : (Nat → Nat) × (Nat → Bool)} : ∀ {k : Nat}, (∀ i, i < k → rq i = rq2 i ∧ tq i = tq2 i) → zPl sv rq tq S k = zPl sv rq2 tq2 S k
  | 0, _ => rfl
  | k + 1, h => by
    unfold zPl
    rw [zPl_c (fun i hi => h i (by omega)), (h k (by omega)).1, (h k (by omega)).2]
theorem zPb_c {sv : (Nat → Nat) → (Nat → Bool) → Nat → Nat → Int} {rq tq rq2 tq2 : Nat → Nat} {S : (Nat → Nat) × (Nat → Bool)} {k : Nat} (h : ∀ i, i < k + 1 → rq i = rq2 i ∧ tq i = tq2 i) : zPb sv rq tq S k = zPb sv rq2 tq2 S k := by
  unfold zPb
  rw [zPl_c (fun i hi => h i (by omega)), (h k (by omega)).1, (h k (by omega)).2]
theorem zCt_pc {sv : (Nat → Nat) → (Nat → Bool) → Nat → Nat → Int} {rq tq rq2 tq2 : Nat → Nat} {S : (Nat → Nat) × (Nat → Bool)} {k : Nat} (h : ∀ i, i < k → rq i = rq2 i ∧ tq i = tq2 i) : zCt k (zPb sv rq tq S) = zCt k (zPb sv rq2 tq2 S) :=
  zCt_congr (fun q hq => zPb_c (fun i hi => h i (by omega)))
theorem zCt_n {n k : Nat} {f : Nat → Bool} (h : k ≤ n) : zCt n (fun r => decide (r < k) && f r) = zCt k f := by
  induction n with
  | zero => have : k = 0 := by omega
            subst this; rfl
  | succ n ih =>
    by_cases e : k = n + 1
    · subst e
      exact zCt_congr (fun q hq => by simp [hq])
    · rw [zCt, ih (by omega)]
      simp
      omega
theorem zLf_a {pre : List Nat} {a i : Nat} (h : i < pre.length) : zLf (pre ++ [a]) i = zLf pre i := by
  unfold zLf
  rw [List.getD_eq_getElem?_getD, List.getD_eq_getElem?_getD, List.getElem?_append_left h]
theorem zLf_b {pre : List Nat} {a : Nat} : zLf (pre ++ [a]) pre.length = a := by
  unfold zLf
  rw [List.getD_eq_getElem?_getD, List.getElem?_append_right (Nat.le_refl _)]
  simp
/-- every row of zPm goes on from its front -/
theorem zPm_pre {n : Nat} : ∀ {l : Nat} {pre row : List Nat}, row ∈ zPm n l pre → row.length = pre.length + l ∧ ∀ i, i < pre.length → zLf row i = zLf pre i
  | 0, pre, row, h => by
    have : row = pre := by simpa [zPm] using h
    subst this
    exact ⟨rfl, fun i _ => rfl⟩
  | l + 1, pre, row, h => by
    unfold zPm at h
    rw [List.mem_flatMap] at h
    obtain ⟨a, _, h2⟩ := h
    split at h2
    · cases h2
    · obtain ⟨h3, h4⟩ := zPm_pre h2
      rw [List.length_append] at h3 h4
      refine ⟨by simp at h3; omega, fun i hi => ?_⟩
      rw [h4 i (by simp; omega), zLf_a hi]
theorem zCt_up {k l : Nat} {f : Nat → Bool} : zCt (k + l) f ≤ zCt k f + l := by
  induction l with
  | zero => exact Nat.le_refl _
  | succ l ih =>
    rw [← Nat.add_assoc, zCt]
    split <;> omega
/-- elements of rows -/
theorem zPm_el {n : Nat} : ∀ {l : Nat} {pre row : List Nat}, (∀ x ∈ pre, x < n) → pre.Nodup → row ∈ zPm n l pre → (∀ x ∈ row, x < n) ∧ row.Nodup
  | 0, pre, row, h1, h2, h => by
    have : row = pre := by simpa [zPm] using h
    subst this
    exact ⟨h1, h2⟩
  | l + 1, pre, row, h1, h2, h => by
    unfold zPm at h
    rw [List.mem_flatMap] at h
    obtain ⟨a, ha, h3⟩ := h
    split at h3
    · cases h3
    · rename_i hc
      have hna : ¬ a ∈ pre := by simpa using hc
      refine zPm_el (fun x hx => ?_) ?_ h3
      · rcases List.mem_append.mp hx with hx | hx
        · exact h1 x hx
        · have : x = a := by simpa using hx
          rw [this]; exact List.mem_range.mp ha
      · rw [List.nodup_append]
        refine ⟨h2, by simp, fun x hx y hy => ?_⟩
        have : y = a := by simpa using hy
        subst this
        intro e
        subst e
        exact hna hx
theorem z_add_r (a b : Int) : -2147483648 ≤ z_add a b ∧ z_add a b < 2147483648 := by
  unfold z_add z_i32
  exact ⟨Int32.le_toInt _, Int32.toInt_lt _⟩
theorem z_add_0 {a : Int} (h : -2147483648 ≤ a ∧ a < 2147483648) : z_add a 0 = a := by rw [z_add_e (by omega), Int.add_zero]
def zSr (S : Int × Int × Int × List Nat) : Prop := -2147483648 ≤ S.2.2.1 ∧ S.2.2.1 < 2147483648
theorem zWg_r {S : Int × Int × Int × List Nat} {s t : Int} {row : List Nat} (h : zSr S) : zSr (zWg S s t row) := by
  unfold zWg
  split
  · exact ⟨by show (-2147483648 : Int) ≤ 1; decide, by show (1 : Int) < 2147483648; decide⟩
  · split
    · exact z_add_r _ _
    · exact h
theorem zWg_s {S : Int × Int × Int × List Nat} {s t : Int} {row : List Nat} : S.1 ≤ (zWg S s t row).1 ∧ s ≤ (zWg S s t row).1 := by
  unfold zWg
  split
  · rename_i h
    exact ⟨by show S.1 ≤ s; omega, Int.le_refl _⟩
  · rename_i h
    split
    · rename_i h2; exact ⟨Int.le_refl _, by show s ≤ S.1; omega⟩
    · exact ⟨Int.le_refl _, by omega⟩
