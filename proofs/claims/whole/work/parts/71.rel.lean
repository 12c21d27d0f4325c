/-! the relation of class and reference -/
def zRi (V : z_M) (k b off : Nat) : Prop := V 86 k = V 145 k ∧ (V 86 k = 0 ∨ V 86 k = 1) ∧ (V 86 k = 1 → ∃ Λ, zT b (fun i => V 144 (off + i)) V Λ)
def zRc (V : z_M) (Λ : Nat → (Nat → Int) → Int) : Prop := ∀ n R m : Nat, V 143 0 = (n : Int) → V 143 1 = (R : Int) → V 143 4 = (m : Int) →
  (V 119 1 = 0 ∨ (V 119 1 = 1 ∧ zSx V 119 120 m (zBO (V 143) Λ n R m))) ∧ (V 123 1 = 0 ∨ (V 123 1 = 1 ∧ n ≤ 6 ∧ zSx V 123 124 n (zBB (V 143) Λ n R m)))
def zWo : Nat → Int := fun k => if k = 0 then 609259698 else if k = 1 then 21566500 else if k = 2 then 21242987 else if k = 3 then 12769452 else if k = 4 then 777297172 else if k = 5 then 659104901 else if k = 6 then 278194 else if k = 7 then 153204 else 2262611
def zRm (V : z_M) : Prop := zSt V ∧ (V 87 1 = V 141 8 ∧ 0 ≤ V 87 1 ∧ V 87 1 ≤ 400 ∧ ∀ j : Nat, (j : Int) < V 87 1 → V 88 j = V 146 j ∧ 0 ≤ V 88 j ∧ V 88 j ≤ 255) ∧
  V 36 13 = V 141 6 ∧ V 36 14 = V 141 13 ∧ V 36 15 = V 141 1 ∧ (∀ k, k < 7 → V 140 k = V 142 k) ∧
  (V 134 1 = V 141 55 ∧ 0 ≤ V 134 1 ∧ V 134 1 ≤ 20 ∧ ∀ w i : Nat, w < 3 → (i : Int) < V 134 1 → V (136 + w) i = V 168 (3 * i + w)) ∧
  (∀ k, k < 9 → V 152 k = zWo k) ∧ ∃ q : Nat, V 0 0 = 169 + 4 * (q : Int)
def zR (V : z_M) : Prop := (∃ Λ, zT 37 (V 143) V Λ ∧ zRc V Λ) ∧ zRi V 0 54 0 ∧ zRi V 1 70 5490 ∧ zRm V
/-- what a question leaves as it was -/
def zKc (a : Nat) : Prop := a < 89 ∨ a = 119 ∨ a = 120 ∨ a = 123 ∨ a = 124 ∨ (134 ≤ a ∧ a ≤ 138) ∨ a = 140 ∨ (142 ≤ a ∧ a ≤ 146) ∨ a = 152 ∨ 168 ≤ a
def zKf (k : Nat) : Prop := k = 1 ∨ k = 6 ∨ k = 8 ∨ k = 13 ∨ k = 55
def zKeep (V W : z_M) : Prop := (∀ a, zKc a → W a = V a) ∧ ∀ k, zKf k → W 141 k = V 141 k
theorem zKeep_t {U V W : z_M} (h : zKeep U V) (h2 : zKeep V W) : zKeep U W := ⟨fun a x => (h2.1 a x).trans (h.1 a x), fun k x => (h2.2 k x).trans (h.2 k x)⟩
theorem zKeep_r {V : z_M} : zKeep V V := ⟨fun _ _ => rfl, fun _ _ => rfl⟩
theorem zKeep_x {V W : z_M} (h : zOff 89 118 V W) : zKeep V W := ⟨fun a x => h a (by unfold zKc at x; omega), fun k _ => by rw [h 141 (by omega)]⟩
theorem zKeep_m {V W : z_M} {k1 k2 lo hi : Nat} (h : zFm k1 k2 lo hi V W) (h1 : (k1 = 0 ∧ k2 = 0) ∨ (26 ≤ k1 ∧ k2 ≤ 53)) (h2 : 153 ≤ lo ∧ hi ≤ 167) : zKeep V W := ⟨fun a x => h.1 a (by unfold zKc at x; omega) (by unfold zKc at x; omega), fun k x => h.2 k (by unfold zKf at x; omega)⟩
theorem zKeep_0 {V : z_M} : zKeep V (z_up V 141 0 0) := zKeep_m (k1 := 0) (k2 := 0) (lo := 153) (hi := 153) (zFm_f zFm_r (by omega)) (Or.inl ⟨rfl, rfl⟩) (by omega)
theorem zR_k {V W : z_M} (hR : zR V) (h : zKeep V W) : zR W := by
  obtain ⟨⟨Λ, r1, r2⟩, r3, r4, r5⟩ := hR
  have c : ∀ a, zKc a → W a = V a := h.1
  have e0 := c 0 (by unfold zKc; omega)
  refine ⟨⟨Λ, ?_, ?_⟩, ?_, ?_, ?_⟩
  · rw [c 143 (by unfold zKc; omega)]
    exact zT_c r1 e0 (fun a x y => c a (by unfold zKc; omega)) (fun a x => c a (by unfold zKc; omega))
  · unfold zRc zSx at r2 ⊢
    rw [c 143 (by unfold zKc; omega), c 119 (by unfold zKc; omega), c 120 (by unfold zKc; omega), c 123 (by unfold zKc; omega), c 124 (by unfold zKc; omega)]
    exact r2
  · obtain ⟨i1, i2, i3⟩ := r3
    unfold zRi
    rw [c 86 (by unfold zKc; omega), c 145 (by unfold zKc; omega), c 144 (by unfold zKc; omega)]
    refine ⟨i1, i2, fun q => ?_⟩
    obtain ⟨Λ, hT⟩ := i3 q
    exact ⟨Λ, zT_c hT e0 (fun a x y => c a (by unfold zKc; omega)) (fun a x => c a (by unfold zKc; omega))⟩
  · obtain ⟨i1, i2, i3⟩ := r4
    unfold zRi
    rw [c 86 (by unfold zKc; omega), c 145 (by unfold zKc; omega), c 144 (by unfold zKc; omega)]
    refine ⟨i1, i2, fun q => ?_⟩
    obtain ⟨Λ, hT⟩ := i3 q
    exact ⟨Λ, zT_c hT e0 (fun a x y => c a (by unfold zKc; omega)) (fun a x => c a (by unfold zKc; omega))⟩
  · obtain ⟨m1, m2, m3, m4, m5, m6, m7, m8, m9⟩ := r5
    unfold zRm
    rw [c 87 (by unfold zKc; omega), c 88 (by unfold zKc; omega), c 36 (by unfold zKc; omega), c 140 (by unfold zKc; omega), c 142 (by unfold zKc; omega), c 134 (by unfold zKc; omega), c 146 (by unfold zKc; omega), c 168 (by unfold zKc; omega), c 152 (by unfold zKc; omega), e0, h.2 8 (by unfold zKf; omega), h.2 6 (by unfold zKf; omega), h.2 13 (by unfold zKf; omega), h.2 1 (by unfold zKf; omega), h.2 55 (by unfold zKf; omega)]
    refine ⟨fun a x y => by rw [c a (by unfold zKc; omega)]; exact m1 a x y, m2, m3, m4, m5, m6, ⟨m7.1, m7.2.1, m7.2.2.1, fun w i hw hi => ?_⟩, m8, m9⟩
    rw [c (136 + w) (by unfold zKc; omega)]
    exact m7.2.2.2 w i hw hi
/-- class and reference answer alike, and stay related -/
def zPr (d i j : Nat) (as : List z_V) (V : z_M) : Prop := z_MS d i true (.inr (.inr 36) :: as) V (fun z W => z_MS d j true (.inr (.inr 141) :: as) W (fun z2 X => z2 = z ∧ zR X))
theorem zR_nat {V : z_M} {Λ : Nat → (Nat → Int) → Int} (hT : zT 37 (V 143) V Λ) : ∃ n R m : Nat, V 143 0 = (n : Int) ∧ V 143 1 = (R : Int) ∧ V 143 4 = (m : Int) ∧ n ≤ 12 ∧ R ≤ 6 ∧ m ≤ 7 := by
  have a0 := zT_0 hT
  have a1 := zT_1 hT
  have a4 := zT_4 hT
  obtain ⟨n, hn⟩ := Int.eq_ofNat_of_zero_le a0.2.1
  obtain ⟨R, hR⟩ := Int.eq_ofNat_of_zero_le a1.2.1
  obtain ⟨m, hm⟩ := Int.eq_ofNat_of_zero_le a4.2.1
  exact ⟨n, R, m, hn, hR, hm, by omega, by omega, by omega⟩
section
variable {d : Nat} {Q : Int → z_M → Prop}
theorem sp155 {V : z_M} {n : Nat} {a : Int} (hn : V 143 0 = (n : Int)) (hn2 : n ≤ 12) (h1 : 0 ≤ a ∧ a < (n : Int) → Q 1 V) (h0 : ¬ (0 ≤ a ∧ a < (n : Int)) → Q 0 V) : z_MS (d + 2) 155 true [.inr (.inr 141), .inl a] V Q := by
  refine zb155_141 _ (sp154 (d := d) ?_)
  rw [hn, z_lsub_e (by omega)]
  exact sp145 (d := d) (fun h => z_gp (by decide) (h1 (by omega))) (fun h => z_gp (by decide) (h0 (by omega)))
theorem sp156 {V : z_M} {n : Nat} {a : Int} (hn : V 143 1 = (n : Int)) (hn2 : n ≤ 6) (h1 : 0 ≤ a ∧ a < (n : Int) → Q 1 V) (h0 : ¬ (0 ≤ a ∧ a < (n : Int)) → Q 0 V) : z_MS (d + 2) 156 true [.inr (.inr 141), .inl a] V Q := by
  refine zb156_141 _ ?_
  rw [hn, z_lsub_e (by omega)]
  exact sp145 (d := d) (fun h => z_gp (by decide) (h1 (by omega))) (fun h => z_gp (by decide) (h0 (by omega)))
theorem sp83 {V : z_M} {ρ : Nat → Int} {Λ : Nat → (Nat → Int) → Int} {n t : Nat} (hT : zT 37 ρ V Λ) (hn : ρ 0 = (n : Int)) (ht : t < n) (h : Q (zLE ρ (fun t => t) (t + 1)) V) : z_MS (d + 1) 83 true [.inr (.inr 37), .inl (t : Int)] V Q := by
  have a0 := zT_0 hT
  have lp : ∀ (k i : Nat), i + k = t + 1 → z_Ex (z_MS d) 83 Q true 4 [some (.inr (.inr 37)), some (.inl (t : Int)), some (.inl (zLE ρ (fun t => t) i)), some (.inl (i : Int))] [] 0 0 V := by
    intro k
    induction k with
    | zero =>
      intro i e
      have e2 : i = t + 1 := by omega
      subst e2
      exact zb83_37_p4 _ _ _ (z_ifp (by omega) h)
    | succ k ih =>
      intro i e
      have pt := zT_t hT (t := i) (by omega)
      have h39 : V 39 i = ρ (8 + 4 * i) := pt.1
      have lb := zLE_b hT hn (fun t ht => ht) (p := i) (by omega)
      refine zb83_37_p4 _ _ _ (z_ifn (by omega) (z_ifp (by omega) (z_gp (by omega) (z_all ?_))))
      rw [Int.toNat_natCast, h39, z_inc (by omega), z_add_e (by omega)]
      exact ih (i + 1) (by omega)
  exact zb83_37 _ (lp (t + 1) 0 (by omega))
theorem cm_carries {V : z_M} (hR : zR V) (a b : Int) : zPr (d + 12) 105 204 [.inl a, .inl b] V := by
  have hR2 := hR
  obtain ⟨⟨Λ, hT, hc⟩, r3, r4, r5⟩ := hR2
  obtain ⟨n, R, m, hn, hRr, hm, n12, R6, m7⟩ := zR_nat hT
  have a0 := zT_0 hT
  have a1 := zT_1 hT
  -- the reference, where both are there, and where not
  have no : ∀ W, zKeep V W → W 143 = V 143 → ¬ ((0 ≤ a ∧ a < (n : Int)) ∧ 0 ≤ b ∧ b < (R : Int)) → z_MS (d + 12) 204 true [.inr (.inr 141), .inl a, .inl b] W (fun z2 X => z2 = -1 ∧ zR X) := by
    intro W hW h143 hno
    have kk : zKeep V (z_up W 141 0 0) := zKeep_t hW zKeep_0
    refine zb204_141 _ _ (z_all (sp155 (d := d + 9) (n := n) (by rw [z_up_cell (by decide), h143]; exact hn) n12 (fun h1 => z_ifn (by decide) (sp156 (d := d + 9) (n := R) (by rw [z_up_cell (by decide), h143]; exact hRr) R6 (fun h2 => absurd ⟨h1, h2⟩ hno) (fun h2 => z_ifp rfl ⟨rfl, zR_k hR kk⟩))) (fun h1 => z_ifp rfl ⟨rfl, zR_k hR kk⟩)))
  refine zb105_36 _ _ (sp75 (d := d + 9) (by omega) (fun h1 => z_ifn (by decide) (sp76 (d := d + 9) (by omega) (fun h2 => z_ifn (by decide) ?_) (fun h2 => z_ifp rfl (no V zKeep_r rfl (by omega))))) (fun h1 => z_ifp rfl (no V zKeep_r rfl (by omega))))
  obtain ⟨t, ht⟩ := Int.eq_ofNat_of_zero_le h1.1
  obtain ⟨r, hr⟩ := Int.eq_ofNat_of_zero_le h2.1
  subst ht
  subst hr
  have lb := zLE_b hT hn (fun t ht => ht) (p := t + 1) (by omega)
  refine sp83 (d := d + 10) hT hn (by omega) (sp16 (d := d + 7) hT (by omega) (by omega) (by omega) (by omega) (fun W w1 => ?_))
  have hW := zKeep_x (zOff_w w1 (show 89 ≤ 94 by omega) (show 96 ≤ 118 by omega))
  have hz : (if (if zHold (V 143) Λ r t (t : Int) (zLE (V 143) (fun t => t) (t + 1)) = true then (1 : Int) else 0) = 0 then (0 : Int) else 1) = if zHold (V 143) Λ r t (t : Int) (zLE (V 143) (fun t => t) (t + 1)) = true then 1 else 0 := by
    cases zHold (V 143) Λ r t (t : Int) (zLE (V 143) (fun t => t) (t + 1)) <;> rfl
  rw [hz]
  refine zb204_141 _ _ (z_all ?_)
  have e143 : z_up W 141 0 0 143 = V 143 := by rw [z_up_cell (by decide), w1 143 (by omega)]
  refine sp155 (d := d + 9) (n := n) (by rw [e143]; exact hn) n12 (fun _ => z_ifn (by decide) (sp156 (d := d + 9) (n := R) (by rw [e143]; exact hRr) R6 (fun _ => z_ifn (by decide) ?_) (fun h => absurd (by omega) h))) (fun h => absurd (by omega) h)
  refine sp201 (d := d + 4) hT e143 hn hRr hm (fun X x1 x2 => z_gp (by omega) (z_all ?_))
  rw [Int.toNat_natCast, zBS_bit (x2.2.2.2.2.2.1 r (by omega)) (by omega), show (decide (t < n) && zCR (V 143) Λ (fun t => t) r t) = zCR (V 143) Λ (fun t => t) r t by simp; omega]
  exact ⟨rfl, zR_k hR (zKeep_t hW (zKeep_t zKeep_0 (zKeep_m x1 (Or.inr (by omega)) (by omega))))⟩
end
