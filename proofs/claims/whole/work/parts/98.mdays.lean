/-! a drawn day of the reference -/
section
variable {d : Nat} {Q : Int → z_M → Prop}
theorem lp245 {U V0 : z_M} {b0 : Nat} {ρ : Nat → Int} {Λ : Nat → (Nat → Int) → Int} {n R m x : Nat} {lev : Nat → Int} {car : Nat → Nat → Bool} {tq : Nat → Nat} {g0 g : Nat → Bool} {w : Nat → Nat} {o1 : Option z_V} {l2 l3 l4 : Int} {o7 : Option z_V} (hT : zT b0 ρ V0 Λ) (hl0 : lev 0 = 0) (hlb : ∀ p, p ≤ n → 0 ≤ lev p ∧ lev p ≤ 108) (hC : zMC U ρ n R m lev car tq g0) (hM : zMD U n w g) (hx : U 141 53 = (x : Int)) (hx2 : x ≤ 1000003)
    (h : ∀ W o6 o7, zFm 44 53 159 162 U W → zMC W ρ n R m lev car tq g0 → W 141 53 = ((zDd (zSv n R lev (zSR ρ) (ρ 7) car) n R (w, g) x).1 : Int) → zMD W n (zDd (zSv n R lev (zSR ρ) (ρ 7) car) n R (w, g) x).2.1.1 (zDd (zSv n R lev (zSR ρ) (ρ 7) car) n R (w, g) x).2.1.2 → z_Ex (z_MS (d + 5)) 245 Q true 139 [some (.inr (.inr 141)), o1, some (.inl l2), some (.inl l3), some (.inl l4), some (.inl ((zDd (zSv n R lev (zSR ρ) (ρ 7) car) n R (w, g) x).2.2 : Int)), o6, o7] [] 0 0 W) :
    z_Ex (z_MS (d + 5)) 245 Q true 71 [some (.inr (.inr 141)), o1, some (.inl l2), some (.inl l3), some (.inl l4), some (.inl 0), some (.inl 0), o7] [] 0 0 U := by
  have a0 := zT_0 hT
  have a1 := zT_1 hT
  have e1 : U 143 1 = (R : Int) := by rw [hC.1]; exact hC.2.2.1
  have e0 : U 143 0 = (n : Int) := by rw [hC.1]; exact hC.2.1
  have hn : ρ 0 = (n : Int) := hC.2.1
  have hR : ρ 1 = (R : Int) := hC.2.2.1
  by_cases c : R = 0 ∨ n = 0
  · have h := h U (some (.inl 0)) o7 zFm_r hC
    unfold zDd at h
    rw [if_pos c] at h
    have h := h hx hM
    refine zb245_141_p71 _ _ _ _ _ _ _ (z_ifp (by decide) (z_ifc (fun c1 => sp154 (d := d + 4) (z_ifc (fun c2 => ?_) (fun c2 => h))) (fun c1 => h)))
    rcases c with c | c <;> omega
  unfold zDd at h
  rw [if_neg c] at h
  have lp : ∀ (k i : Nat) (W : z_M) (o7 : Option z_V), i + k = 6 → zFm 44 53 159 162 U W → zMC W ρ n R m lev car tq g0 → W 141 53 = ((zDa (zSv n R lev (zSR ρ) (ρ 7) car) n R i (x, (w, g), 0)).1 : Int) → zMD W n (zDa (zSv n R lev (zSR ρ) (ρ 7) car) n R i (x, (w, g), 0)).2.1.1 (zDa (zSv n R lev (zSR ρ) (ρ 7) car) n R i (x, (w, g), 0)).2.1.2 → z_Ex (z_MS (d + 5)) 245 Q true 71 [some (.inr (.inr 141)), o1, some (.inl l2), some (.inl l3), some (.inl l4), some (.inl ((zDa (zSv n R lev (zSR ρ) (ρ 7) car) n R i (x, (w, g), 0)).2.2 : Int)), some (.inl (i : Int)), o7] [] 0 0 W := by
    intro k
    induction k with
    | zero =>
      intro i W o7 e w1 w2 w5 w6
      have e2 : i = 6 := by omega
      subst e2
      exact zb245_141_p71 _ _ _ _ _ _ _ (z_ifn (by decide) (h W _ _ w1 w2 w5 w6))
    | succ k ih =>
      intro i W o7 e w1 w2 w5 w6
      have hb := zDa_b (sv := zSv n R lev (zSR ρ) (ρ 7) car) (n := n) (R := R) (S := (w, g)) hx2 i
      have hn1 := zNx_lt (x := (zDa (zSv n R lev (zSR ρ) (ρ 7) car) n R i (x, (w, g), 0)).1)
      have nx := ih (i + 1)
      rw [zDa] at nx
      generalize zDa (zSv n R lev (zSR ρ) (ρ 7) car) n R i (x, (w, g), 0) = st at w5 w6 hb hn1 nx ⊢
      obtain ⟨y, ⟨wi, gi⟩, cn⟩ := st
      have w5 : W 141 53 = (y : Int) := w5
      have w6 : zMD W n wi gi := w6
      have hb : y ≤ 1000003 ∧ cn ≤ i := hb
      have hn1 : zNx y < 1000003 := hn1
      have r1 : zNx y % R < R := Nat.mod_lt _ (by omega)
      have t1 : zNx (zNx y) % n < n := Nat.mod_lt _ (by omega)
      have q0 : W 143 0 = (n : Int) := by rw [w2.1]; exact hn
      have q1 : W 143 1 = (R : Int) := by rw [w2.1]; exact hR
      show z_Ex (z_MS (d + 5)) 245 Q true 71 [some (.inr (.inr 141)), o1, some (.inl l2), some (.inl l3), some (.inl l4), some (.inl (cn : Int)), some (.inl (i : Int)), o7] [] 0 0 W
      refine zb245_141_p71 _ _ _ _ _ _ _ (z_ifp (by omega) ?_)
      rw [q1]
      refine z_ifp (by omega) (sp154 (d := d + 4) ?_)
      rw [q0]
      refine z_ifp (by omega) ?_
      rw [q1]
      refine sp244 (d := d + 4) w5 hb.1 (by omega) (by omega) (sp154 (d := d + 4) ?_)
      rw [show z_up W 141 53 (zNx y : Int) 143 0 = (n : Int) from q0]
      refine sp244 (d := d + 4) (x := zNx y) zUp_s (by omega) (by omega) (by omega) ?_
      have f1 : zFm 44 53 159 162 U (z_up (z_up W 141 53 (zNx y : Int)) 141 53 (zNx (zNx y) : Int)) := zFm_f (zFm_f w1 (by omega)) (by omega)
      have eC : zMC (z_up (z_up W 141 53 (zNx y : Int)) 141 53 (zNx (zNx y) : Int)) ρ n R m lev car tq g0 := zMC_c w2 (by simp (disch := omega) only [zDn, z_up_cell]) (by simp (disch := omega) only [zDn, z_up_cell]) (by simp (disch := omega) only [zDn, z_up_cell]) (by simp (disch := omega) only [zDn, z_up_cell]) (by simp (disch := omega) only [zDn, zUp_o, zUp_s])
      have eD : zMD (z_up (z_up W 141 53 (zNx y : Int)) 141 53 (zNx (zNx y) : Int)) n wi gi := by
        unfold zMD at w6 ⊢
        rw [show z_up (z_up W 141 53 (zNx y : Int)) 141 53 (zNx (zNx y) : Int) 141 44 = W 141 44 by simp (disch := omega) only [zDn, zUp_o, zUp_s], show z_up (z_up W 141 53 (zNx y : Int)) 141 53 (zNx (zNx y) : Int) 162 = W 162 by simp (disch := omega) only [zDn, z_up_cell]]
        exact w6
      have ce : z_up (z_up W 141 53 (zNx y : Int)) 141 53 (zNx (zNx y) : Int) 141 53 = (zNx (zNx y) : Int) := zUp_s
      generalize z_up (z_up W 141 53 (zNx y : Int)) 141 53 (zNx (zNx y) : Int) = X at f1 eC eD ce ⊢
      refine sp223 (d := d + 1) hT eC eD hl0 hlb r1 t1 (fun q Z z1 z2 z3 => ?_) (fun p Z q hp z1 z2 z3 => ?_)
      · rw [if_pos rfl, z_inc (i := i) (by omega), z_add_e (by omega), show (cn : Int) + 0 = (cn : Int) by omega]
        have nx := nx Z (some (.inl ((zNx y % R : Nat) : Int))) (by omega) (zFm_t f1 (zFm_w z1 (by omega))) z2
        rw [if_pos q] at nx
        exact nx (by rw [z1.2 53 (by omega)]; exact ce) z3
      · rw [if_neg (by decide), z_inc (i := i) (by omega), z_inc (i := cn) (by omega)]
        have nx := nx Z (some (.inl ((zNx y % R : Nat) : Int))) (by omega) (zFm_t f1 (zFm_w z1 (by omega))) z2
        rw [if_neg (by rw [q]; omega)] at nx
        refine nx (by rw [z1.2 53 (by omega)]; exact ce) ?_
        show zMD Z n (zUw wi (zNx y % R) (zSv n R lev (zSR ρ) (ρ 7) car wi gi (zNx y % R) (zNx (zNx y) % n)).toNat) (zUg gi (zNx (zNx y) % n))
        rw [q, Int.toNat_natCast]
        exact z3
  exact lp 6 0 U o7 (by omega) zFm_r hC hx hM
end
