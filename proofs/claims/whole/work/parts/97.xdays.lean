/-! a drawn day -/
/-- k askings drawn one after the other: the draw's number, who stands where and what is out, how many are served -/
def zDa (sv : (Nat → Nat) → (Nat → Bool) → Nat → Nat → Int) (n R : Nat) : Nat → Nat × ((Nat → Nat) × (Nat → Bool)) × Nat → Nat × ((Nat → Nat) × (Nat → Bool)) × Nat
  | 0, st => st
  | k + 1, st => if sv (zDa sv n R k st).2.1.1 (zDa sv n R k st).2.1.2 (zNx (zDa sv n R k st).1 % R) (zNx (zNx (zDa sv n R k st).1) % n) = -1 then (zNx (zNx (zDa sv n R k st).1), (zDa sv n R k st).2.1, (zDa sv n R k st).2.2)
    else (zNx (zNx (zDa sv n R k st).1), (zUw (zDa sv n R k st).2.1.1 (zNx (zDa sv n R k st).1 % R) (sv (zDa sv n R k st).2.1.1 (zDa sv n R k st).2.1.2 (zNx (zDa sv n R k st).1 % R) (zNx (zNx (zDa sv n R k st).1) % n)).toNat, zUg (zDa sv n R k st).2.1.2 (zNx (zNx (zDa sv n R k st).1) % n)), (zDa sv n R k st).2.2 + 1)
def zDd (sv : (Nat → Nat) → (Nat → Bool) → Nat → Nat → Int) (n R : Nat) (S : (Nat → Nat) × (Nat → Bool)) (x : Nat) : Nat × ((Nat → Nat) × (Nat → Bool)) × Nat := if R = 0 ∨ n = 0 then (x, S, 0) else zDa sv n R 6 (x, S, 0)
theorem zDa_b {sv : (Nat → Nat) → (Nat → Bool) → Nat → Nat → Int} {n R x : Nat} {S : (Nat → Nat) × (Nat → Bool)} (hx : x ≤ 1000003) : ∀ k, (zDa sv n R k (x, S, 0)).1 ≤ 1000003 ∧ (zDa sv n R k (x, S, 0)).2.2 ≤ k
  | 0 => ⟨hx, Nat.le_refl 0⟩
  | k + 1 => by
    have h := (zDa_b (sv := sv) (n := n) (R := R) (S := S) hx k).2
    have h2 := zNx_lt (x := zNx (zDa sv n R k (x, S, 0)).1)
    rw [zDa]
    split
    · exact ⟨by show zNx _ ≤ _; omega, by show (zDa sv n R k (x, S, 0)).2.2 ≤ _; omega⟩
    · exact ⟨by show zNx _ ≤ _; omega, by show (zDa sv n R k (x, S, 0)).2.2 + 1 ≤ _; omega⟩
theorem zDd_b {sv : (Nat → Nat) → (Nat → Bool) → Nat → Nat → Int} {n R x : Nat} {S : (Nat → Nat) × (Nat → Bool)} (hx : x ≤ 1000003) : (zDd sv n R S x).1 ≤ 1000003 ∧ (zDd sv n R S x).2.2 ≤ 6 := by
  unfold zDd
  split
  · exact ⟨hx, Nat.zero_le 6⟩
  · exact zDa_b hx 6
section
variable {d : Nat} {Q : Int → z_M → Prop}
theorem sp13 {V : z_M} {n R x : Nat} {lev str : Nat → Int} {dr : Int} {car : Nat → Nat → Bool} {w : Nat → Nat} {g : Nat → Bool} (h7 : V 37 7 = (n : Int)) (h8 : V 37 8 = (R : Int)) (hS : zSC V n R lev str dr car (fun _ => true)) (hD : zDY V n w g) (hn : n ≤ 12) (hR : R ≤ 6) (hx : V 134 2 = (x : Int)) (hx2 : x ≤ 1000003)
    (h : ∀ W, (∀ a, ¬ a = 97 → ¬ a = 115 → ¬ a = 134 → W a = V a) → W 97 8 = V 97 8 → W 97 9 = V 97 9 → (∀ k, ¬ k = 2 → W 134 k = V 134 k) → W 134 2 = ((zDd (zSv n R lev str dr car) n R (w, g) x).1 : Int) → zDY W n (zDd (zSv n R lev str dr car) n R (w, g) x).2.1.1 (zDd (zSv n R lev str dr car) n R (w, g) x).2.1.2 → Q ((zDd (zSv n R lev str dr car) n R (w, g) x).2.2 : Int) W) : z_MS (d + 4) 13 true [.inr (.inr 134), .inr (.inr 37), .inr (.inr 97)] V Q := by
  refine zb13_134_37_97 (z_ifc (fun c => ?_) (fun c => z_ifc (fun c2 => ?_) (fun c2 => ?_)))
  · have := h V (fun _ _ _ _ => rfl) rfl rfl (fun _ _ => rfl)
    unfold zDd at this
    rw [if_pos (Or.inl (by omega))] at this
    exact this hx hD
  · have := h V (fun _ _ _ _ => rfl) rfl rfl (fun _ _ => rfl)
    unfold zDd at this
    rw [if_pos (Or.inr (by omega))] at this
    exact this hx hD
  unfold zDd at h
  rw [if_neg (by omega)] at h
  have lp : ∀ (k i : Nat) (W : z_M) (o5 o6 : Option z_V), i + k = 6 → (∀ a, ¬ a = 97 → ¬ a = 115 → ¬ a = 134 → W a = V a) → W 97 8 = V 97 8 → W 97 9 = V 97 9 → (∀ k, ¬ k = 2 → W 134 k = V 134 k) → W 134 2 = ((zDa (zSv n R lev str dr car) n R i (x, (w, g), 0)).1 : Int) → zDY W n (zDa (zSv n R lev str dr car) n R i (x, (w, g), 0)).2.1.1 (zDa (zSv n R lev str dr car) n R i (x, (w, g), 0)).2.1.2 → z_Ex (z_MS (d + 3)) 13 Q true 21 [some (.inr (.inr 134)), some (.inr (.inr 37)), some (.inr (.inr 97)), some (.inl ((zDa (zSv n R lev str dr car) n R i (x, (w, g), 0)).2.2 : Int)), some (.inl (i : Int)), o5, o6] [] 0 0 W := by
    intro k
    induction k with
    | zero =>
      intro i W o5 o6 e w1 w2 w3 w4 w5 w6
      have e2 : i = 6 := by omega
      subst e2
      exact zb13_134_37_97_p21 _ _ _ _ (z_ifn (by decide) (h W w1 w2 w3 w4 w5 w6))
    | succ k ih =>
      intro i W o5 o6 e w1 w2 w3 w4 w5 w6
      have hb := zDa_b (sv := zSv n R lev str dr car) (n := n) (R := R) (S := (w, g)) hx2 i
      have hn1 := zNx_lt (x := (zDa (zSv n R lev str dr car) n R i (x, (w, g), 0)).1)
      have nx := ih (i + 1)
      rw [zDa] at nx
      generalize zDa (zSv n R lev str dr car) n R i (x, (w, g), 0) = st at w5 w6 hb hn1 nx ⊢
      obtain ⟨y, ⟨wi, gi⟩, c⟩ := st
      have w5 : W 134 2 = (y : Int) := w5
      have w6 : zDY W n wi gi := w6
      have hb : y ≤ 1000003 ∧ c ≤ i := hb
      have hn1 : zNx y < 1000003 := hn1
      have r1 : zNx y % R < R := Nat.mod_lt _ (by omega)
      have t1 : zNx (zNx y) % n < n := Nat.mod_lt _ (by omega)
      show z_Ex (z_MS (d + 3)) 13 Q true 21 [some (.inr (.inr 134)), some (.inr (.inr 37)), some (.inr (.inr 97)), some (.inl (c : Int)), some (.inl (i : Int)), o5, o6] [] 0 0 W
      refine zb13_134_37_97_p21 _ _ _ _ (z_ifp (by omega) ?_)
      rw [w1 37 (by decide) (by decide) (by decide), h8]
      refine sp14 (d := d + 2) w5 hb.1 (by omega) (by omega) ?_
      rw [show z_up W 134 2 (zNx y : Int) 37 7 = (n : Int) by rw [z_up_cell (by decide), w1 37 (by decide) (by decide) (by decide)]; exact h7]
      refine sp14 (d := d + 2) (x := zNx y) zUp_s (by omega) (by omega) (by omega) ?_
      have eD : zDY (z_up (z_up W 134 2 (zNx y : Int)) 134 2 (zNx (zNx y) : Int)) n wi gi := zDY_c w6 (by simp (disch := omega) only [zDn, z_up_cell]) (by simp (disch := omega) only [zDn, z_up_cell])
      have eS : zSC (z_up (z_up W 134 2 (zNx y : Int)) 134 2 (zNx (zNx y) : Int)) n R lev str dr car (fun _ => true) := zSC_up hR hS (by rw [z_up_cell (by decide), z_up_cell (by decide)]; exact w2) (by rw [z_up_cell (by decide), z_up_cell (by decide)]; exact w3) (fun a p q => by rw [z_up_cell (by omega), z_up_cell (by omega)]; exact w1 a (by omega) (by omega) (by omega))
      have cc : ∀ a, ¬ a = 134 → z_up (z_up W 134 2 (zNx y : Int)) 134 2 (zNx (zNx y) : Int) a = W a := fun a p => by simp (disch := omega) only [zDn, z_up_cell]
      have cd : ∀ k, ¬ k = 2 → z_up (z_up W 134 2 (zNx y : Int)) 134 2 (zNx (zNx y) : Int) 134 k = W 134 k := fun k p => by simp (disch := omega) only [zDn, zUp_o, zUp_s]
      have ce : z_up (z_up W 134 2 (zNx y : Int)) 134 2 (zNx (zNx y) : Int) 134 2 = (zNx (zNx y) : Int) := zUp_s
      generalize z_up (z_up W 134 2 (zNx y : Int)) 134 2 (zNx (zNx y) : Int) = X at eD eS cc cd ce ⊢
      refine sp59 (d := d) (A := fun _ => true) eS eD hn hR r1 rfl t1 (fun q => z_ifp rfl ?_) (fun p Z q hp z1 z2 z3 z4 => z_ifn (by decide) ?_)
      · rw [z_inc (i := i) (by omega)]
        have nx := nx X (some (.inl ((zNx y % R : Nat) : Int))) (some (.inl ((zNx (zNx y) % n : Nat) : Int))) (by omega) (fun a p1 p2 p3 => by rw [cc a p3]; exact w1 a p1 p2 p3) (by rw [cc 97 (by decide)]; exact w2) (by rw [cc 97 (by decide)]; exact w3) (fun k hk => by rw [cd k hk]; exact w4 k hk)
        rw [if_pos q] at nx
        exact nx ce eD
      · rw [z_inc (i := i) (by omega), z_inc (i := c) (by omega)]
        have nx := nx Z (some (.inl ((zNx y % R : Nat) : Int))) (some (.inl ((zNx (zNx y) % n : Nat) : Int))) (by omega) (fun a p1 p2 p3 => by rw [z1 a p1 p2, cc a p3]; exact w1 a p1 p2 p3) (by rw [z2, cc 97 (by decide)]; exact w2) (by rw [z3, cc 97 (by decide)]; exact w3) (fun k hk => by rw [z1 134 (by decide) (by decide), cd k hk]; exact w4 k hk)
        rw [if_neg (by rw [q]; omega)] at nx
        refine nx (by rw [z1 134 (by decide) (by decide)]; exact ce) ?_
        show zDY Z n (zUw wi (zNx y % R) (zSv n R lev str dr car wi gi (zNx y % R) (zNx (zNx y) % n)).toNat) (zUg gi (zNx (zNx y) % n))
        rw [q, Int.toNat_natCast]
        exact z4
  exact lp 6 0 V none none (by omega) (fun _ _ _ _ => rfl) rfl rfl (fun _ _ => rfl) hx hD
end
