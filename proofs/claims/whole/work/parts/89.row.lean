/-! row: treads from the tape -/
def zBkb (w v : Int) : Bool := if w = 0 then decide (1 ≤ v ∧ v ≤ 9) else if w = 1 then decide (1 ≤ v ∧ v ≤ 99) else if w = 2 then decide (0 ≤ v ∧ v ≤ 9) else decide (0 ≤ v ∧ v ≤ 1)
theorem zBkb_e {w v : Int} (hw : 0 ≤ w ∧ w ≤ 3) : zBkb w v = true ↔ zBk w v := by
  unfold zBkb zBk
  by_cases h0 : w = 0
  · subst h0; simp
  · by_cases h1 : w = 1
    · subst h1; simp
    · by_cases h2 : w = 2
      · subst h2; simp
      · have h3 : w = 3 := by omega
        subst h3; simp
def zAcc (B : Nat → Int) (L n0 c i : Nat) : Bool := decide (3 * i + 2 < L) && (decide (n0 + c < 12) && (zBkb 0 (B (3 * i)) && (zBkb 1 (B (3 * i + 1)) && zBkb 2 (B (3 * i + 2)))))
theorem zAcc_e {B : Nat → Int} {L n0 c i : Nat} : zAcc B L n0 c i = true ↔ (3 * i + 2 < L ∧ n0 + c < 12 ∧ zBk 0 (B (3 * i)) ∧ zBk 1 (B (3 * i + 1)) ∧ zBk 2 (B (3 * i + 2))) := by
  unfold zAcc
  rw [Bool.and_eq_true, Bool.and_eq_true, Bool.and_eq_true, Bool.and_eq_true, decide_eq_true_iff, decide_eq_true_iff, zBkb_e (by decide), zBkb_e (by decide), zBkb_e (by decide)]
def zRw (B : Nat → Int) (L n0 : Nat) (D : Nat → Nat → Int) : Nat → Nat × (Nat → Nat → Int)
  | 0 => (0, D)
  | i + 1 => if zAcc B L n0 (zRw B L n0 D i).1 i = true then ((zRw B L n0 D i).1 + 1, fun t w => if t = n0 + (zRw B L n0 D i).1 then (if w = 3 then 0 else B (3 * i + w)) else (zRw B L n0 D i).2 t w) else zRw B L n0 D i
theorem zRw_b {B : Nat → Int} {L n0 : Nat} {D : Nat → Nat → Int} (h0 : n0 ≤ 12) (hD : ∀ t w : Nat, t < n0 → w < 4 → zBk w (D t w)) : ∀ i, (zRw B L n0 D i).1 ≤ i ∧ n0 + (zRw B L n0 D i).1 ≤ 12 ∧ ∀ t w : Nat, t < n0 + (zRw B L n0 D i).1 → w < 4 → zBk w ((zRw B L n0 D i).2 t w)
  | 0 => ⟨Nat.le_refl 0, h0, fun t w ht hw => hD t w ht hw⟩
  | i + 1 => by
    obtain ⟨b1, b2, b3⟩ := zRw_b (B := B) (L := L) h0 hD i
    rw [zRw]
    by_cases c : zAcc B L n0 (zRw B L n0 D i).1 i = true
    · rw [if_pos c]
      obtain ⟨c1, c2, c3, c4, c5⟩ := zAcc_e.mp c
      refine ⟨by show _ + 1 ≤ _; omega, by show n0 + (_ + 1) ≤ 12; omega, fun t w ht hw => ?_⟩
      have ht : t < n0 + ((zRw B L n0 D i).1 + 1) := ht
      show zBk w (if t = n0 + (zRw B L n0 D i).1 then (if w = 3 then 0 else B (3 * i + w)) else (zRw B L n0 D i).2 t w)
      by_cases et : t = n0 + (zRw B L n0 D i).1
      · rw [if_pos et]
        rcases (show w = 0 ∨ w = 1 ∨ w = 2 ∨ w = 3 by omega) with rfl | rfl | rfl | rfl
        · exact c3
        · exact c4
        · exact c5
        · unfold zBk; rw [if_pos rfl]; omega
      · rw [if_neg et]
        exact b3 t w (by omega) hw
    · rw [if_neg c]
      exact ⟨by omega, b2, b3⟩
section
variable {d : Nat} {Q : Int → z_M → Prop}
theorem sp160 {V : z_M} {n : Nat} {a b c : Int} (hn : V 143 0 = (n : Int)) (hn2 : n < 12) (h : Q 0 (z_up (z_up (z_up (z_up (z_up V 143 (8 + 4 * n) a) 143 (9 + 4 * n) b) 143 (10 + 4 * n) c) 143 (11 + 4 * n) 0) 143 0 ((n : Int) + 1))) : z_MS (d + 2) 160 true [.inr (.inr 141), .inl a, .inl b, .inl c] V Q := by
  refine zb160_141 _ _ _ (sp154 (d := d) ?_)
  have i0 : z_add 8 (z_mul 4 (n : Int)) = ((8 + 4 * n : Nat) : Int) := by simp (disch := omega) only [z_mul_e, z_add_e, z_sub_e]; omega
  have i1 : z_add ((8 + 4 * n : Nat) : Int) 1 = ((9 + 4 * n : Nat) : Int) := by simp (disch := omega) only [z_mul_e, z_add_e, z_sub_e]; omega
  have i2 : z_add ((8 + 4 * n : Nat) : Int) 2 = ((10 + 4 * n : Nat) : Int) := by simp (disch := omega) only [z_mul_e, z_add_e, z_sub_e]; omega
  have i3 : z_add ((8 + 4 * n : Nat) : Int) 3 = ((11 + 4 * n : Nat) : Int) := by simp (disch := omega) only [z_mul_e, z_add_e, z_sub_e]; omega
  rw [hn, i0, i1, i2, i3]
  refine z_gp (by omega) (z_all (z_gp (by omega) (z_all (z_gp (by omega) (z_all (z_gp (by omega) (z_all (z_all ?_))))))))
  rw [Int.toNat_natCast, Int.toNat_natCast, Int.toNat_natCast, Int.toNat_natCast]
  have x0 : z_up (z_up (z_up (z_up V 143 (8 + 4 * n) a) 143 (9 + 4 * n) b) 143 (10 + 4 * n) c) 143 (11 + 4 * n) 0 143 0 = (n : Int) := by
    simp (disch := omega) only [zDn, zUp_o, zUp_s]
    exact hn
  rw [x0, z_add_e (by omega)]
  exact h
theorem sp137 {V : z_M} {n L i : Nat} (hS : zSt V) (hn : V 37 7 = (n : Int)) (hn2 : n ≤ 12) (hL : V 87 1 = (L : Int)) (hL2 : L ≤ 400) (hi : 3 * i < L)
    (h1 : zAcc (V 88) L n 0 i = true → Q 1 (z_up (z_up (z_up (z_up (z_up V 39 n (V 88 (3 * i))) 40 n (V 88 (3 * i + 1))) 41 n (V 88 (3 * i + 2))) 42 n 0) 37 7 ((n : Int) + 1)))
    (h0 : ¬ zAcc (V 88) L n 0 i = true → Q 0 V) : z_MS (d + 3) 137 true [.inr (.inr 36), .inl ((3 * i : Nat) : Int)] V Q := by
  rw [zAcc_e] at h1 h0
  refine zb137_36 _ ?_
  have j1 : z_add ((3 * i : Nat) : Int) 1 = ((3 * i + 1 : Nat) : Int) := by simp (disch := omega) only [z_mul_e, z_add_e, z_sub_e]; omega
  have j2 : z_add ((3 * i : Nat) : Int) 2 = ((3 * i + 2 : Nat) : Int) := by simp (disch := omega) only [z_mul_e, z_add_e, z_sub_e]; omega
  rw [j1, j2, hL]
  refine z_ifc (fun c => ?_) (fun c => h0 (fun q => by omega))
  refine z_gp (by omega) (z_all (z_gp (by omega) (z_all (z_gp (by omega) (z_all ?_)))))
  rw [Int.toNat_natCast, Int.toNat_natCast, Int.toNat_natCast]
  refine sp134 (d := d) hS (fun g1 => z_ifn (by decide) (sp134 (d := d) hS (fun g2 => z_ifn (by decide) (sp134 (d := d) hS (fun g3 => z_ifn (by decide) ?_) (fun g3 => z_ifp rfl (h0 (fun q => g3 q.2.2.2.2))))) (fun g2 => z_ifp rfl (z_ifp rfl (h0 (fun q => g2 q.2.2.2.1)))))) (fun g1 => z_ifp rfl (z_ifp rfl (h0 (fun q => g1 q.2.2.1))))
  by_cases c2 : n = 12
  · exact zb77_37 _ _ _ (z_ifn (by omega) (h0 (fun q => by omega)))
  · refine sp77 (d := d + 1) hn (by omega) ?_
    rw [if_neg (by omega)]
    exact h1 ⟨by omega, by omega, g1, g2, g3⟩
end
