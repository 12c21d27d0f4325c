/-! what changes the told state: refusals, what is done -/
def zRf (e : Int) (V : z_M) : z_M := z_up (z_up V 36 15 e) 140 (-e).toNat (z_add (V 140 (-e).toNat) 1)
def zTe (e : Int) (V : z_M) : z_M := z_up (z_up V 141 1 e) 142 (-e).toNat (z_add (V 142 (-e).toNat) 1)
def zDn (V : z_M) : z_M := z_up (z_up (z_up V 36 15 0) 119 1 0) 123 1 0
theorem zRi_c {V W : z_M} {k b off : Nat} (h : zRi V k b off) (h0 : W 0 = V 0) (h1 : W 86 = V 86) (h2 : W 145 = V 145) (h3 : W 144 = V 144) (hb : ∀ a, b ≤ a → a ≤ b + 14 → W a = V a) (hl : ∀ a, 169 ≤ a → W a = V a) : zRi W k b off := by
  obtain ⟨i1, i2, i3⟩ := h
  unfold zRi
  rw [h1, h2, h3]
  refine ⟨i1, i2, fun q => ?_⟩
  obtain ⟨Λ, hT⟩ := i3 q
  exact ⟨Λ, zT_c hT h0 hb hl⟩
theorem zR_st {V X : z_M} (hR : zR V) (h : ∀ a, zKc a → ¬ a = 36 → ¬ a = 140 → ¬ a = 142 → X a = V a) (hf : ∀ k, zKf k → ¬ k = 1 → X 141 k = V 141 k) (h13 : X 36 13 = V 36 13) (h14 : X 36 14 = V 36 14) (h15 : X 36 15 = X 141 1) (h140 : ∀ k, k < 7 → X 140 k = X 142 k) : zR X := by
  obtain ⟨⟨Λ, r1, r2⟩, r3, r4, r5⟩ := hR
  have c : ∀ a, zKc a → ¬ a = 36 → ¬ a = 140 → ¬ a = 142 → X a = V a := h
  have e0 := c 0 (by unfold zKc; omega) (by omega) (by omega) (by omega)
  refine ⟨⟨Λ, ?_, ?_⟩, ?_, ?_, ?_⟩
  · rw [c 143 (by unfold zKc; omega) (by omega) (by omega) (by omega)]
    exact zT_c r1 e0 (fun a x y => c a (by unfold zKc; omega) (by omega) (by omega) (by omega)) (fun a x => c a (by unfold zKc; omega) (by omega) (by omega) (by omega))
  · unfold zRc zSx at r2 ⊢
    rw [c 143 (by unfold zKc; omega) (by omega) (by omega) (by omega), c 119 (by unfold zKc; omega) (by omega) (by omega) (by omega), c 120 (by unfold zKc; omega) (by omega) (by omega) (by omega), c 123 (by unfold zKc; omega) (by omega) (by omega) (by omega), c 124 (by unfold zKc; omega) (by omega) (by omega) (by omega)]
    exact r2
  · exact zRi_c r3 e0 (c 86 (by unfold zKc; omega) (by omega) (by omega) (by omega)) (c 145 (by unfold zKc; omega) (by omega) (by omega) (by omega)) (c 144 (by unfold zKc; omega) (by omega) (by omega) (by omega)) (fun a x y => c a (by unfold zKc; omega) (by omega) (by omega) (by omega)) (fun a x => c a (by unfold zKc; omega) (by omega) (by omega) (by omega))
  · exact zRi_c r4 e0 (c 86 (by unfold zKc; omega) (by omega) (by omega) (by omega)) (c 145 (by unfold zKc; omega) (by omega) (by omega) (by omega)) (c 144 (by unfold zKc; omega) (by omega) (by omega) (by omega)) (fun a x y => c a (by unfold zKc; omega) (by omega) (by omega) (by omega)) (fun a x => c a (by unfold zKc; omega) (by omega) (by omega) (by omega))
  · obtain ⟨m1, m2, m3, m4, m5, m6, m7, m8, m9⟩ := r5
    unfold zRm
    rw [c 87 (by unfold zKc; omega) (by omega) (by omega) (by omega), c 88 (by unfold zKc; omega) (by omega) (by omega) (by omega), c 134 (by unfold zKc; omega) (by omega) (by omega) (by omega), c 146 (by unfold zKc; omega) (by omega) (by omega) (by omega), c 168 (by unfold zKc; omega) (by omega) (by omega) (by omega), c 152 (by unfold zKc; omega) (by omega) (by omega) (by omega), e0, hf 8 (by unfold zKf; omega) (by omega), hf 6 (by unfold zKf; omega) (by omega), hf 13 (by unfold zKf; omega) (by omega), hf 55 (by unfold zKf; omega) (by omega), h13, h14]
    refine ⟨fun a x y => by rw [c a (by unfold zKc; omega) (by omega) (by omega) (by omega)]; exact m1 a x y, m2, m3, m4, h15, h140, ⟨m7.1, m7.2.1, m7.2.2.1, fun w i hw hi => ?_⟩, m8, m9⟩
    rw [c (136 + w) (by unfold zKc; omega) (by omega) (by omega) (by omega)]
    exact m7.2.2.2 w i hw hi
/-- the cells that what is done leaves as they were -/
def zKd (a : Nat) : Prop := a = 0 ∨ (2 ≤ a ∧ a < 36) ∨ (54 ≤ a ∧ a ≤ 88) ∨ (134 ≤ a ∧ a ≤ 138) ∨ a = 140 ∨ a = 142 ∨ (144 ≤ a ∧ a ≤ 146) ∨ a = 152 ∨ 168 ≤ a
theorem zR_dn {V X : z_M} {Λ : Nat → (Nat → Int) → Int} (hR : zR V) (hT : zT 37 (X 143) X Λ) (h : ∀ a, zKd a → X a = V a) (hf : ∀ k, zKf k → ¬ k = 1 → X 141 k = V 141 k) (h13 : X 36 13 = V 36 13) (h14 : X 36 14 = V 36 14) (h15 : X 36 15 = X 141 1) (h119 : X 119 1 = 0) (h123 : X 123 1 = 0) : zR X := by
  obtain ⟨_, r3, r4, r5⟩ := hR
  have c : ∀ a, zKd a → X a = V a := h
  have e0 := c 0 (by unfold zKd; omega)
  refine ⟨⟨Λ, hT, fun n R m _ _ _ => ⟨Or.inl h119, Or.inl h123⟩⟩, ?_, ?_, ?_⟩
  · exact zRi_c r3 e0 (c 86 (by unfold zKd; omega)) (c 145 (by unfold zKd; omega)) (c 144 (by unfold zKd; omega)) (fun a x y => c a (by unfold zKd; omega)) (fun a x => c a (by unfold zKd; omega))
  · exact zRi_c r4 e0 (c 86 (by unfold zKd; omega)) (c 145 (by unfold zKd; omega)) (c 144 (by unfold zKd; omega)) (fun a x y => c a (by unfold zKd; omega)) (fun a x => c a (by unfold zKd; omega))
  · obtain ⟨m1, m2, m3, m4, m5, m6, m7, m8, m9⟩ := r5
    unfold zRm
    rw [c 87 (by unfold zKd; omega), c 88 (by unfold zKd; omega), c 134 (by unfold zKd; omega), c 140 (by unfold zKd; omega), c 142 (by unfold zKd; omega), c 146 (by unfold zKd; omega), c 168 (by unfold zKd; omega), c 152 (by unfold zKd; omega), e0, hf 8 (by unfold zKf; omega) (by omega), hf 6 (by unfold zKf; omega) (by omega), hf 13 (by unfold zKf; omega) (by omega), hf 55 (by unfold zKf; omega) (by omega), h13, h14]
    refine ⟨fun a x y => by rw [c a (by unfold zKd; omega)]; exact m1 a x y, m2, m3, m4, h15, m6, ⟨m7.1, m7.2.1, m7.2.2.1, fun w i hw hi => ?_⟩, m8, m9⟩
    rw [c (136 + w) (by unfold zKd; omega)]
    exact m7.2.2.2 w i hw hi
/-- what is told anew: the laws as they were -/
theorem zT_mk {b : Nat} {ρ ρ' : Nat → Int} {V W : z_M} {Λ : Nat → (Nat → Int) → Int} (h : zT b ρ V Λ) (hl : ∀ k, 90 ≤ k → ρ' k = ρ k) (h2 : ρ' 2 = ρ 2) (h0 : W 0 = V 0) (h9 : W b 9 = V b 9) (hb10 : W (b + 10) = V (b + 10)) (hc : ∀ a, 169 ≤ a → W a = V a)
    (c0 : W b 7 = ρ' 0 ∧ 0 ≤ ρ' 0 ∧ ρ' 0 ≤ 12) (c1 : W b 8 = ρ' 1 ∧ 0 ≤ ρ' 1 ∧ ρ' 1 ≤ 6) (c3 : W b 10 = ρ' 3 ∧ -1 ≤ ρ' 3 ∧ ρ' 3 < ρ' 2) (c4 : W b 11 = ρ' 4 ∧ 0 ≤ ρ' 4 ∧ ρ' 4 ≤ 7) (c5 : W b 12 = ρ' 5 ∧ 0 ≤ ρ' 5 ∧ ρ' 5 ≤ 8) (c6 : W (b + 9) 0 = ρ' 6 ∧ 0 ≤ ρ' 6 ∧ ρ' 6 ≤ 23) (c7 : W (b + 9) 1 = ρ' 7 ∧ 0 ≤ ρ' 7 ∧ ρ' 7 ≤ 9)
    (ct : ∀ t : Nat, (t : Int) < ρ' 0 → W (b + 2) t = ρ' (8 + 4 * t) ∧ W (b + 3) t = ρ' (9 + 4 * t) ∧ W (b + 4) t = ρ' (10 + 4 * t) ∧ W (b + 5) t = ρ' (11 + 4 * t) ∧ 1 ≤ ρ' (8 + 4 * t) ∧ ρ' (8 + 4 * t) ≤ 9 ∧ 1 ≤ ρ' (9 + 4 * t) ∧ ρ' (9 + 4 * t) ≤ 99 ∧ 0 ≤ ρ' (10 + 4 * t) ∧ ρ' (10 + 4 * t) ≤ 9 ∧ 0 ≤ ρ' (11 + 4 * t) ∧ ρ' (11 + 4 * t) ≤ 1)
    (cr : ∀ r : Nat, (r : Int) < ρ' 1 → W (b + 7) r = ρ' (56 + 2 * r) ∧ W (b + 8) r = ρ' (57 + 2 * r) ∧ 1 ≤ ρ' (56 + 2 * r) ∧ ρ' (56 + 2 * r) ≤ 40 ∧ 1 ≤ ρ' (57 + 2 * r) ∧ ρ' (57 + 2 * r) ≤ 99)
    (ca : ∀ a : Nat, (a : Int) < ρ' 4 → W (b + 12) a = ρ' (68 + 2 * a) ∧ W (b + 13) a = ρ' (69 + 2 * a) ∧ 0 ≤ ρ' (68 + 2 * a) ∧ ρ' (68 + 2 * a) < ρ' 1 ∧ 0 ≤ ρ' (69 + 2 * a) ∧ ρ' (69 + 2 * a) < ρ' 0)
    (co : ∀ k : Nat, (k : Int) < ρ' 5 → W (b + 14) k = ρ' (82 + k) ∧ 1 ≤ ρ' (82 + k) ∧ ρ' (82 + k) ≤ 9) : zT b ρ' W Λ := by
  have q2 := zT_2 h
  refine ⟨c0, c1, ⟨by rw [h9, h2]; exact q2.1, by rw [h2]; exact q2.2⟩, c3, c4, c5, c6, c7, ct, cr, ca, co, by rw [hb10]; exact zT_ls h, fun l hl2 => ?_⟩
  rw [h2] at hl2
  obtain ⟨q, x1, x2, x3, x4⟩ := zT_l h hl2
  refine ⟨q, by rw [hb10]; exact x1, by rw [h0]; exact x2, zLx_c x3 (fun k _ => by rw [h0]) (hc _ (by omega)) (hc _ (by omega)) (hc _ (by omega)) (hc _ (by omega)), ?_⟩
  unfold zLm at x4 ⊢
  obtain ⟨n, hd, Fs, Ft, ts, y1, y2, y3, y4, y5⟩ := x4
  have es : (fun k => ρ' (188 + 900 * l + 2 * k)) = (fun k => ρ (188 + 900 * l + 2 * k)) := by funext k; exact hl _ (by omega)
  have es2 : (fun k => ρ' (189 + 900 * l + 2 * k)) = (fun k => ρ (189 + 900 * l + 2 * k)) := by funext k; exact hl _ (by omega)
  refine ⟨n, hd, Fs, Ft, ts, y1, y2, y3, by rw [hl _ (by omega)]; exact y4, fun c hcn => ?_⟩
  rw [es, es2, hl (92 + 900 * l + 8 * c) (by omega), hl (95 + 900 * l + 8 * c) (by omega), hl (96 + 900 * l + 8 * c) (by omega), hl (97 + 900 * l + 8 * c) (by omega), hl (98 + 900 * l + 8 * c) (by omega)]
  exact y5 c hcn
def zBr (w v : Int) : Prop := (w = 0 ∧ 1 ≤ v ∧ v ≤ 40) ∨ (w = 1 ∧ 1 ≤ v ∧ v ≤ 99)
section
variable {d : Nat} {Q : Int → z_M → Prop}
theorem sp130 {V : z_M} {e : Int} (he : -6 ≤ e ∧ e ≤ -1) (h : Q e (zRf e V)) : z_MS (d + 2) 130 true [.inr (.inr 36), .inl e] V Q := by
  refine zb130_36 _ (z_all ?_)
  rw [z_neg_e (by omega), z_sub_e (by omega)]
  refine sp133 (d := d) (fun _ => z_ifn (by decide) (z_gp (by omega) (z_all (z_gp (by omega) (z_all ?_))))) (fun q => absurd (by omega) q)
  rw [show z_up V 36 15 e 140 (-e).toNat = V 140 (-e).toNat from rfl]
  exact h
theorem sp149 {V : z_M} {e : Int} (he : -6 ≤ e ∧ e ≤ -1) (h : Q e (zTe e V)) : z_MS (d + 1) 149 true [.inr (.inr 141), .inl e] V Q := by
  refine zb149_141 _ (z_all (z_ifp (by omega) ?_))
  rw [z_neg_e (by omega), if_pos (by omega)]
  refine z_gp (by omega) (z_all (z_gp (by omega) (z_all ?_)))
  exact h
theorem sp149p {V : z_M} {a : Int} (ha : 0 ≤ a) (h : Q a (z_up V 141 1 0)) : z_MS (d + 1) 149 true [.inr (.inr 141), .inl a] V Q := by
  refine zb149_141 _ (z_all (z_ifn (by omega) ?_))
  rw [if_neg (by omega)]
  exact h
theorem sp131 {V : z_M} {a : Int} (h : Q a (zDn V)) : z_MS (d + 1) 131 true [.inr (.inr 36), .inl a] V Q := zb131_36 _ (z_all (z_all (z_all h)))
theorem sp132 {V : z_M} {a : Int} (ha : ¬ a = -1) (h : Q a (zDn V)) : z_MS (d + 2) 132 true [.inr (.inr 36), .inl a] V Q := zb132_36 _ (z_ifn ha (sp131 (d := d) h))
theorem sp132n {V : z_M} (h : Q (-5) (zRf (-5) V)) : z_MS (d + 3) 132 true [.inr (.inr 36), .inl (-1)] V Q := zb132_36 _ (z_ifp rfl (sp130 (d := d) (by decide) h))
theorem sp151 {V : z_M} {k : Nat} {v : Int} (hk : k < 5490) (h : Q (V 143 k) (z_up (z_up V 143 k v) 141 1 0)) : z_MS (d + 2) 151 true [.inr (.inr 141), .inl (k : Int), .inl v] V Q := by
  refine zb151_141 _ _ (z_gp (by omega) (z_all (z_gp (by omega) (z_all ?_))))
  rw [Int.toNat_natCast]
  exact zb150_141 _ (z_all h)
theorem sp159 {V : z_M} {w v : Int} (h1 : zBk w v → Q 1 V) (h0 : ¬ zBk w v → Q 0 V) : z_MS (d + 2) 159 true [.inl w, .inl v] V Q := by
  refine zb159 _ _ ?_
  unfold zBk at h1 h0
  refine z_ifc (fun c => sp145 (d := d) (fun q => z_gp (by decide) (h1 (by omega))) (fun q => z_gp (by decide) (h0 (by omega)))) (fun c => ?_)
  refine z_ifc (fun c => sp145 (d := d) (fun q => z_gp (by decide) (h1 (by omega))) (fun q => z_gp (by decide) (h0 (by omega)))) (fun c => ?_)
  refine z_ifc (fun c => sp145 (d := d) (fun q => z_gp (by decide) (h1 (by omega))) (fun q => z_gp (by decide) (h0 (by omega)))) (fun c => ?_)
  refine z_ifc (fun c => sp145 (d := d) (fun q => z_gp (by decide) (h1 (by omega))) (fun q => z_gp (by decide) (h0 (by omega)))) (fun c => h0 (by omega))
theorem sp135 {V : z_M} {w v : Int} (hS : zSt V) (h1 : zBr w v → Q 1 V) (h0 : ¬ zBr w v → Q 0 V) : z_MS (d + 2) 135 true [.inl w, .inl v] V Q := by
  have e4 := zSt_4 hS
  refine zb135 _ _ (sp133 (d := d) (fun hw => ?_) (fun hw => z_ifp rfl (h0 (by unfold zBr; omega))))
  refine z_ifn (by decide) (z_gp (by omega) (z_all ?_))
  have hc : w.toNat = 0 ∨ w.toNat = 1 := by omega
  unfold zBr at h1 h0
  refine sp133 (d := d) (fun h => ?_) (fun h => ?_)
  · refine h1 ?_
    rcases hc with hc | hc <;> rw [hc] at h <;> omega
  · refine h0 ?_
    rcases hc with hc | hc <;> rw [hc] at h <;> omega
theorem sp164 {V : z_M} {w v : Int} (h1 : zBr w v → Q 1 V) (h0 : ¬ zBr w v → Q 0 V) : z_MS (d + 2) 164 true [.inl w, .inl v] V Q := by
  refine zb164 _ _ ?_
  unfold zBr at h1 h0
  refine z_ifc (fun c => sp145 (d := d) (fun q => z_gp (by decide) (h1 (by omega))) (fun q => z_gp (by decide) (h0 (by omega)))) (fun c => ?_)
  exact z_ifc (fun c => sp145 (d := d) (fun q => h1 (by omega)) (fun q => h0 (by omega))) (fun c => h0 (by omega))
end
theorem zR_rf {V : z_M} {e : Int} (he : -6 ≤ e ∧ e ≤ -1) (hR : zR V) : zR (zTe e (z_up (zRf e V) 141 0 0)) := by
  obtain ⟨_, _, _, r5⟩ := id hR
  have m6 := r5.2.2.2.2.2.1
  refine zR_st hR (fun a x y z w => ?_) (fun k x y => ?_) ?_ ?_ ?_ (fun k hk => ?_)
  · unfold zKc at x
    unfold zTe zRf
    rw [z_up_cell (by omega), z_up_cell (by omega), z_up_cell (by omega), z_up_cell (by omega), z_up_cell (by omega)]
  · unfold zKf at x
    unfold zTe zRf
    rw [z_up_cell (by omega), zUp_o (by omega), zUp_o (by omega), z_up_cell (by omega), z_up_cell (by omega)]
  · rfl
  · rfl
  · rfl
  · unfold zTe zRf
    by_cases c : k = (-e).toNat
    · subst c
      rw [zUp_o (by omega), zUp_o (by omega), zUp_o (by omega), zUp_s, zUp_s]
      rw [m6 _ hk]
      rfl
    · rw [zUp_o (by omega), zUp_o (by omega), zUp_o (by omega), zUp_o (by omega), zUp_o (by omega), zUp_o (by omega), zUp_o (by omega), zUp_o (by omega), zUp_o (by omega), zUp_o (by omega)]
      exact m6 k hk
