/-! the reference reads a law -/
section
variable {b : Nat → Int} {L n : Nat}
theorem sq_top {V : z_M} : ∀ p : Nat, ∃ q e : Nat, p = q + e ∧ (∀ i, i < e → 1 ≤ zqBi (V 150 (q + i))) ∧ (q = 0 ∨ zqBi (V 150 (q - 1)) < 1)
  | 0 => ⟨0, 0, rfl, fun i hi => absurd hi (by omega), Or.inl rfl⟩
  | p + 1 => by
    by_cases h : zqBi (V 150 p) < 1
    · exact ⟨p + 1, 0, rfl, fun i hi => absurd hi (by omega), Or.inr (by rw [show p + 1 - 1 = p by omega]; exact h)⟩
    · obtain ⟨q, e, e1, e2, e3⟩ := sq_top (V := V) p
      refine ⟨q, e + 1, by omega, fun i hi => ?_, e3⟩
      by_cases ei : i = e
      · subst ei; rw [← e1]; omega
      · exact e2 i (by omega)
/-- the readings that went wrong: what is left on the pile goes -/
theorem zqG_bad {D : Nat} {Q : Int → z_M → Prop} {l1 t : Int} {V : z_M} (hD : 2 ≤ D) (hZ : zqZ V) (h : ∀ W, zqX V W → W 141 14 = 1 → W 141 13 = V 141 13 → Q 0 W) : zqG D Q l1 t V := by
  obtain ⟨D, rfl⟩ : ∃ D2, D = D2 + 2 := ⟨D - 2, by omega⟩
  obtain ⟨h14, s, p, h17, h23, hsp, hat⟩ := hZ
  obtain ⟨q, e, rfl, e2, e3⟩ := sq_top (V := V) p
  refine zb194_141_p20 _ _ (z_ifn (by rw [h14]; decide) (sq184 (d := D) h23 h17 (by omega) (by omega) hat e2 e3 ?_))
  obtain ⟨a1, a2, a3, a4, a5, s3, a6, a7, a8⟩ := zqP_p (e := e) (V := V) (p := q) (s := s) (s0 := 0) h23 h17 (Nat.zero_le s) (fun i hi _ => (hat (q + i) (by omega)).1)
  exact h _ a1.1 ((a4 14 (by decide) (by decide)).trans h14) (a4 13 (by decide) (by decide))
theorem zqG_end {D k f s s1 e c : Nat} {Q : Int → z_M → Prop} {l1 lo : Int} {V : z_M} {F : zpF} (hD : 2 ≤ D) (hS : zqS V b L f k s1 (0 + e) 0) (hs : s ≤ s1) (hg : s1 + e ≤ f) (hW : zqD V 0 s lo e c F) (hlo : 1 ≤ lo) (h : ∀ W s2, zqF V W s 0 → zqS W b L f k s2 0 0 → s1 ≤ s2 → s2 ≤ s1 + e → zqC W c s s2 F → Q 0 W) : zqG D Q l1 4 V := by
  obtain ⟨D, rfl⟩ : ∃ D2, D = D2 + 2 := ⟨D - 2, by omega⟩
  have hL := hS.1.2.1
  have hf := hS.2.1.2.2.2.2
  obtain ⟨s2, a1, a2, a3, a4, a5, a6⟩ := zqS_p hS hs hW
  exact zb194_141_p20 _ _ (z_ifp hS.2.2.1 (z_ifp rfl (sqx184 (d := D) hS hW hlo (by omega) (Or.inl rfl) (h _ s2 ⟨a5.1, a5.2.1, fun j hj => absurd hj (by omega)⟩ a1 a3 a4 a2))))
/-- as zqS, nothing said of the pile -/
def zqS0 (V : z_M) (b : Nat → Int) (L f k s : Nat) : Prop := zqB V b L ∧ zqT V b L f ∧ V 141 14 = 0 ∧ V 141 13 = -1 ∧ V 141 20 = (k : Int) ∧ V 141 17 = (s : Int)
theorem zqS_0 {V : z_M} {f k s p o : Nat} (h : zqS V b L f k s p o) : zqS0 V b L f k s := ⟨h.1, h.2.1, h.2.2.1, h.2.2.2.1, h.2.2.2.2.1, h.2.2.2.2.2.1⟩
theorem zqS0_n {V W : z_M} {f k s : Nat} (hS : zqS0 V b L f k s) (hn : zqN V W) (hT : zqT W b L (zpNx b L f)) : zqS0 W b L (zpNx b L f) k s := by
  obtain ⟨h1, h2, h3, h4, h5, h6⟩ := hS
  exact ⟨zqB_n h1 hn, hT, (hn.2 14 (by omega)).trans h3, (hn.2 13 (by omega)).trans h4, (hn.2 20 (by omega)).trans h5, (hn.2 17 (by omega)).trans h6⟩
theorem sqy176 {d : Nat} {Q : Int → z_M → Prop} {V : z_M} {f k s : Nat} (hS : zqS0 V b L f k s) (h : ∀ W, zqN V W → zqS0 W b L (zpNx b L f) k s → Q 0 W) : z_MS (d + 2) 176 true [.inr (.inr 141)] V Q :=
  sp176 hS.1 hS.2.1.2.1 (zpTe_p hS.2.1.2.2.2.2).2.1 (fun W w1 w2 => h W w1 (zqS0_n hS w1 w2))
theorem sqy179 {d : Nat} {Q : Int → z_M → Prop} {V : z_M} {f k s : Nat} {c : Int} (hS : zqS0 V b L f k s) (h1 : ¬ c = 0 → ∀ W, zqN V W → zqS0 W b L (zpNx b L f) k s → Q 0 W) (h0 : c = 0 → ∀ W, zqX V W → W 141 14 = 1 → W 141 13 = (f : Int) → Q 0 W) : z_MS (d + 3) 179 true [.inr (.inr 141), .inl c] V Q := by
  have hS0 := hS
  obtain ⟨hB, hT, h14, h13, h20, h17⟩ := hS
  refine zb179_141 _ (z_ifp h14 (z_ifc (fun q => z_all (z_all (z_ifn ?_ ?_))) (fun q => z_ifp h14 (sqy176 hS0 (h1 q)))))
  · simp (disch := omega) only [zUp_o, zUp_s]; decide
  · refine h0 q _ ?_ ?_ ?_
    · exact ⟨fun a x1 _ _ _ _ => by rw [z_up_cell x1, z_up_cell x1], fun k hk => by rw [zUp_o (by unfold zqK at hk; omega), zUp_o (by unfold zqK at hk; omega)]⟩
    · simp (disch := omega) only [zUp_o, zUp_s]
    · simp (disch := omega) only [zUp_o, zUp_s]
      exact hT.1
/-- a reading begins -/
theorem zqS_b {V : z_M} {f k s : Nat} (hS : zqS0 V b L f k s) : zqS (z_up (z_up V 141 23 0) 141 24 0) b L f k s 0 0 := by
  obtain ⟨⟨b1, b2, b3, b4⟩, ⟨t1, t2, t3, t4, t5⟩, h14, h13, h20, h17⟩ := hS
  have u : ∀ i, i < 23 → z_up (z_up V 141 23 0) 141 24 0 141 i = V 141 i := fun i hi => by rw [zUp_o (by omega), zUp_o (by omega)]
  exact ⟨⟨(u 8 (by decide)).trans b1, b2, by rw [z_up_cell (by decide), z_up_cell (by decide)]; exact b3, by rw [z_up_cell (by decide), z_up_cell (by decide)]; exact b4⟩, ⟨(u 9 (by decide)).trans t1, (u 10 (by decide)).trans t2, (u 11 (by decide)).trans t3, (u 12 (by decide)).trans t4, t5⟩, (u 14 (by decide)).trans h14, (u 13 (by decide)).trans h13, (u 20 (by decide)).trans h20, (u 17 (by decide)).trans h17, by rw [zUp_o (by omega), zUp_s]; rfl, zUp_s, fun j hj => absurd hj (by omega)⟩
theorem zqF_b {V : z_M} {s : Nat} : zqF V (z_up (z_up V 141 23 0) 141 24 0) s 0 := zqF_u (zqF_u zqF_r (by omega)) (by omega)
theorem sq194_s {D f k s : Nat} {F : zpF} {x : zpR} {V : z_M} {Q : Int → z_M → Prop} (hD : 9 ≤ D) (hS : zqS0 V b L f k s) (hsf : s ≤ f) (e : zpPa b L n 3 0 f k F = some x) (h0 : ∀ q : Nat, x = .inl q → ∀ W, zqX V W → W 141 14 = 1 → W 141 13 = (q : Int) → Q 0 W)
    (h1 : ∀ f2 k2 G, x = .inr (f2, k2, G) → ∀ W s2, zqF V W s 0 → zqS W b L f2 k2 s2 0 0 → s ≤ s2 → s2 + f ≤ s + f2 → zqC W 20 s s2 G → Q 0 W) : z_MS D 194 true [.inr (.inr 141), .inl 0] V Q := by
  obtain ⟨D, rfl⟩ : ∃ D2, D = D2 + 9 := ⟨D - 9, by omega⟩
  have hf := hS.2.1.2.2.2.2
  refine zb194_141 _ (z_all (z_all ?_))
  rw [if_pos rfl]
  have S0 := zqS_b hS
  have f0 : zqF V (z_up (z_up V 141 23 0) 141 24 0) s 0 := zqF_b
  generalize z_up (z_up V 141 23 0) 141 24 0 = U at S0 f0 ⊢
  refine zqG_1 S0.2.2.1 ((zq_all n).2.2.2.1 0 f k F x U s 0 0 Q (D + 8) (D + 3) e (by omega) (by omega) S0 (by omega) (Or.inl rfl) (fun q ep t W w1 w2 w3 => zqG_bad (by omega) w2 (fun W2 a1 a2 a3 => h0 q ep W2 (zqX_t f0.1 (zqX_t w1 a1)) a2 (a3.trans w3))) (fun f2 k2 G ep W e1 s2 a1 a2 a3 a4 a5 => ?_))
  subst ep
  have kn := zpK_no hf e
  refine zqG_3 a2.2.2.1 (sq192_ov (d := D + 4) a2 a5 (by omega) rfl kn.2.2.2 ?_)
  exact zqG_end (by omega) a2 a3 (by omega) a5 (by decide) (fun W2 s3 c1 c2 c3 c4 c5 => h1 _ _ _ rfl W2 s3 (zqF_t f0 (zqF_t a1 c1 (Nat.le_refl s) (Nat.le_refl 0)) (Nat.le_refl s) (Nat.le_refl 0)) c2 (by omega) (by omega) (zqC_f c5 (by omega) (fun _ _ => ⟨rfl, rfl⟩)))
theorem sq194_t {D f k s : Nat} {F : zpF} {x : zpR} {V : z_M} {Q : Int → z_M → Prop} (hD : 9 ≤ D) (hS : zqS0 V b L f k s) (hsf : s ≤ f) (e : zpPa b L n 9 0 f k F = some x) (h0 : ∀ q : Nat, x = .inl q → ∀ W, zqX V W → W 141 14 = 1 → W 141 13 = (q : Int) → Q 0 W)
    (h1 : ∀ f2 k2 G, x = .inr (f2, k2, G) → ∀ W s2, zqF V W s 0 → zqS W b L f2 k2 s2 0 0 → s ≤ s2 → s2 + f ≤ s + f2 → zqC W 20 s s2 G → Q 0 W) : z_MS D 194 true [.inr (.inr 141), .inl 1] V Q := by
  obtain ⟨D, rfl⟩ : ∃ D2, D = D2 + 9 := ⟨D - 9, by omega⟩
  have hf := hS.2.1.2.2.2.2
  refine zb194_141 _ (z_all (z_all ?_))
  rw [if_neg (by decide)]
  have S0 := zqS_b hS
  have f0 : zqF V (z_up (z_up V 141 23 0) 141 24 0) s 0 := zqF_b
  generalize z_up (z_up V 141 23 0) 141 24 0 = U at S0 f0 ⊢
  refine (zq_all n).2.2.2.2.2.2.2.2.1 0 f k F x U s 0 Q (D + 8) e (by omega) (by omega) S0 (by omega) (Or.inl rfl) (by show ¬ (-1 : Int) = 31; decide) (fun q ep t W w1 w2 w3 => zqG_bad (by omega) w2 (fun W2 a1 a2 a3 => h0 q ep W2 (zqX_t f0.1 (zqX_t w1 a1)) a2 (a3.trans w3))) (fun f2 k2 G ep W e1 s2 a1 a2 a3 a4 a5 => ?_)
  subst ep
  have kg := zpPa_k (b := b) (L := L) n 9 0 _ _ _ _ (by unfold zpM; omega) hf (by omega) (by omega) (by omega) e f2 k2 G rfl
  refine zqG_2 a2.2.2.1 (sq193_ov (d := D + 4) a2 a5 (by omega) rfl (kg.2.2.2.2.2.2.1 (by omega)) (kg.2.2.2.2.2.2.2 (by omega)) ?_)
  exact zqG_end (by omega) a2 a3 (by omega) a5 (by decide) (fun W2 s3 c1 c2 c3 c4 c5 => h1 _ _ _ rfl W2 s3 (zqF_t f0 (zqF_t a1 c1 (Nat.le_refl s) (Nat.le_refl 0)) (Nat.le_refl s) (Nat.le_refl 0)) c2 (by omega) (by omega) (zqC_f c5 (by omega) (fun _ _ => ⟨rfl, rfl⟩)))
-- a clause
def zqV (V W : z_M) : Prop := (∀ a, ¬ (a = 141 ∨ (147 ≤ a ∧ a ≤ 151)) → W a = V a) ∧ ∀ k, (k < 9 ∨ 25 ≤ k) → W 141 k = V 141 k
theorem zqV_t {U V W : z_M} (h : zqV U V) (h2 : zqV V W) : zqV U W := ⟨fun a x => (h2.1 a x).trans (h.1 a x), fun k x => (h2.2 k x).trans (h.2 k x)⟩
theorem zqV_x {V W : z_M} (h : zqX V W) : zqV V W := ⟨fun a x => h.1 a (by omega) (by omega) (by omega) (by omega) (by omega), fun k x => h.2 k (by unfold zqK; omega)⟩
def zq7 (V W : z_M) : Prop := (∀ a, ¬ a = 141 → ¬ a = 147 → W a = V a) ∧ ∀ k, ¬ k = 15 → W 141 k = V 141 k
theorem zqV_7 {V W : z_M} (h : zq7 V W) : zqV V W := ⟨fun a x => h.1 a (by omega) (by omega), fun k x => h.2 k (by omega)⟩
theorem zq7_r {V : z_M} : zq7 V V := ⟨fun _ _ _ => rfl, fun _ _ => rfl⟩
theorem zq7_t {U V W : z_M} (h : zq7 U V) (h2 : zq7 V W) : zq7 U W := ⟨fun a x y => (h2.1 a x y).trans (h.1 a x y), fun k x => (h2.2 k x).trans (h.2 k x)⟩
theorem zq7_u {V W : z_M} {j : Nat} {v : Int} (h : zq7 V W) : zq7 V (z_up W 147 j v) := ⟨fun a x y => by rw [z_up_cell y]; exact h.1 a x y, fun k x => by rw [z_up_cell (by decide)]; exact h.2 k x⟩
theorem zq7_n {V W : z_M} {v : Int} (h : zq7 V W) : zq7 V (z_up W 141 15 v) := ⟨fun a x y => by rw [z_up_cell x]; exact h.1 a x y, fun k x => by rw [zUp_o (by omega)]; exact h.2 k x⟩
theorem zqS0_7 {V W : z_M} {f k s : Nat} (hS : zqS0 V b L f k s) (h : zq7 V W) : zqS0 W b L f k s := by
  obtain ⟨⟨b1, b2, b3, b4⟩, ⟨t1, t2, t3, t4, t5⟩, h14, h13, h20, h17⟩ := hS
  exact ⟨⟨(h.2 8 (by decide)).trans b1, b2, by rw [h.1 146 (by decide) (by decide)]; exact b3, by rw [h.1 152 (by decide) (by decide)]; exact b4⟩, ⟨(h.2 9 (by decide)).trans t1, (h.2 10 (by decide)).trans t2, (h.2 11 (by decide)).trans t3, (h.2 12 (by decide)).trans t4, t5⟩, (h.2 14 (by decide)).trans h14, (h.2 13 (by decide)).trans h13, (h.2 20 (by decide)).trans h20, (h.2 17 (by decide)).trans h17⟩
def zqQ (W : z_M) (m s2 : Nat) (c : zpC) : Prop := W 147 (8 * m) = c.1 ∧ (c.1 = 0 → ∃ s e : Nat, e ≤ s2 ∧ W 147 (8 * m + 3) = (s : Int) ∧ W 147 (8 * m + 4) = (e : Int) ∧ zqC W 20 s e c.2.1) ∧ (c.2.2.1 = true → ∃ s e : Nat, e ≤ s2 ∧ W 147 (8 * m + 5) = (s : Int) ∧ W 147 (8 * m + 6) = (e : Int) ∧ zqC W 20 s e c.2.2.2) ∧ (c.2.2.1 = false → W 147 (8 * m + 5) = W 147 (8 * m + 6))
theorem zqQ_f {V W : z_M} {m s2 s3 : Nat} {c : zpC} (h : zqQ V m s2 c) (hs : s2 ≤ s3) (h7 : ∀ j, 8 * m ≤ j → j < 8 * m + 8 → W 147 j = V 147 j) (hc : ∀ j, j < s2 → W 148 j = V 148 j ∧ W 149 j = V 149 j) : zqQ W m s3 c := by
  obtain ⟨h1, h2, h3, h4⟩ := h
  refine ⟨by rw [h7 _ (by omega) (by omega)]; exact h1, fun q => ?_, fun q => ?_, fun q => by rw [h7 _ (by omega) (by omega), h7 _ (by omega) (by omega)]; exact h4 q⟩
  · obtain ⟨s, e, a1, a2, a3, a4⟩ := h2 q
    exact ⟨s, e, by omega, by rw [h7 _ (by omega) (by omega)]; exact a2, by rw [h7 _ (by omega) (by omega)]; exact a3, zqC_f a4 (Nat.le_refl _) (fun j hj => hc j (by omega))⟩
  · obtain ⟨s, e, a1, a2, a3, a4⟩ := h3 q
    exact ⟨s, e, by omega, by rw [h7 _ (by omega) (by omega)]; exact a2, by rw [h7 _ (by omega) (by omega)]; exact a3, zqC_f a4 (Nat.le_refl _) (fun j hj => hc j (by omega))⟩
theorem sq130_bad {D m : Nat} {V : z_M} {o1 o3 : Option z_V} {Q : Int → z_M → Prop} (hm : m < 12) (h14 : V 141 14 = 1) (h : ∀ W, zq7 V W → Q 0 W) : z_Ex (z_MS D) 195 Q true 130 [some (.inr (.inr 141)), o1, some (.inl ((8 * m : Nat) : Int)), o3] [] 0 0 V := by
  refine zb195_141_p130 _ _ _ ?_
  rw [z_add_e (by omega), z_add_e (by omega), z_add_e (by omega)]
  refine z_gp (by omega) (z_all (z_gp (by omega) (z_all (z_ifn ?_ (z_gp (by omega) (z_all (h _ ?_)))))))
  · rw [z_up_cell (by decide), z_up_cell (by decide), h14]; decide
  · exact zq7_u (zq7_u (zq7_u zq7_r))
theorem sq130 {D f k s m : Nat} {hd : Int} {G : zpF} {x : zpCR} {V : z_M} {o1 o3 : Option z_V} {Q : Int → z_M → Prop} (hD : 9 ≤ D) (hS : zqS0 V b L f k s) (hsf : s ≤ f) (hm : m < 12) (h8 : V 147 (8 * m) = hd) (hG : hd = 0 → ∃ s0 : Nat, V 147 (8 * m + 3) = (s0 : Int) ∧ zqC V 20 s0 s G) (e : zpIf b L n f k hd G = some x)
    (h0 : ∀ q : Nat, x = .inl q → ∀ W, zqV V W → W 141 14 = 1 → W 141 13 = (q : Int) → Q 0 W)
    (h1 : ∀ f2 k2 c, x = .inr (f2, k2, c) → ∀ W s2, zqV V W → zqS0 W b L f2 k2 s2 → s2 ≤ f2 → s ≤ s2 → W 141 15 = V 141 15 → (∀ j, j < s → W 148 j = V 148 j ∧ W 149 j = V 149 j) → (∀ j, j < 8 * m → W 147 j = V 147 j) → zqQ W m s2 c → Q 0 W) : z_Ex (z_MS D) 195 Q true 130 [some (.inr (.inr 141)), o1, some (.inl ((8 * m : Nat) : Int)), o3] [] 0 0 V := by
  obtain ⟨D, rfl⟩ : ∃ D2, D = D2 + 9 := ⟨D - 9, by omega⟩
  have hf := hS.2.1.2.2.2.2
  have hL := hS.1.2.1
  have cd := zpCds
  have h17 := hS.2.2.2.2.2
  refine zb195_141_p130 _ _ _ ?_
  rw [z_add_e (by omega), z_add_e (by omega), z_add_e (by omega)]
  have a4 : (((8 * m : Nat) : Int) + 4).toNat = 8 * m + 4 := by omega
  have a5 : (((8 * m : Nat) : Int) + 5).toNat = 8 * m + 5 := by omega
  have a6 : (((8 * m : Nat) : Int) + 6).toNat = 8 * m + 6 := by omega
  rw [a4, a5, a6, h17]
  refine z_gp (by omega) (z_all ?_)
  rw [z_up_cell (by decide), h17]
  refine z_gp (by omega) (z_all ?_)
  have u7 : zq7 V (z_up (z_up V 147 (8 * m + 4) (s : Int)) 147 (8 * m + 5) (s : Int)) := zq7_u (zq7_u zq7_r)
  have u0 : ∀ j, j < 8 * m + 4 → z_up (z_up V 147 (8 * m + 4) (s : Int)) 147 (8 * m + 5) (s : Int) 147 j = V 147 j := fun j hj => by rw [zUp_o (by omega), zUp_o (by omega)]
  have u4 : z_up (z_up V 147 (8 * m + 4) (s : Int)) 147 (8 * m + 5) (s : Int) 147 (8 * m + 4) = (s : Int) := by rw [zUp_o (by omega), zUp_s]
  have u5 : z_up (z_up V 147 (8 * m + 4) (s : Int)) 147 (8 * m + 5) (s : Int) 147 (8 * m + 5) = (s : Int) := zUp_s
  have u15 : z_up (z_up V 147 (8 * m + 4) (s : Int)) 147 (8 * m + 5) (s : Int) 141 15 = V 141 15 := by rw [z_up_cell (by decide), z_up_cell (by decide)]
  generalize z_up (z_up V 147 (8 * m + 4) (s : Int)) 147 (8 * m + 5) (s : Int) = U at u7 u0 u4 u5 u15 ⊢
  have SU := zqS0_7 hS u7
  have cu : ∀ a, ¬ a = 141 → ¬ a = 147 → U a = V a := u7.1
  refine z_ifp SU.2.2.1 (sq177 (d := D + 8) SU.2.1 cd.2.2.1 (by decide) (by decide) (fun q => z_ifn (by decide) ?_) (fun q => z_ifp rfl (z_gp (by omega) (z_all ?_))))
  · have hw := zpWd_f hf q
    have nx := zpNx_p (b := b) hf
    refine sqy176 (d := D + 7) SU (fun W w1 w2 => ?_)
    rcases zpIf_e e with ⟨q2, _⟩ | ⟨_, ⟨p2, e1, rfl⟩ | ⟨f2, k2, H, e1, rfl⟩⟩
    · rw [q] at q2; cases q2
    · exact sq194_t (D := D + 9) (by omega) w2 (by omega) e1 (fun p3 ep W3 x1 x2 x3 => z_gp (by omega) (z_all (h0 p2 rfl _ (zqV_t (zqV_t (zqV_7 u7) (zqV_x (zqX_n w1))) (zqV_t (zqV_x x1) (zqV_7 (zq7_u zq7_r)))) (by rw [z_up_cell (by decide)]; exact x2) (by rw [z_up_cell (by decide)]; cases ep; exact x3)))) (fun _ _ _ ep => nomatch ep)
    · refine sq194_t (D := D + 9) (by omega) w2 (by omega) e1 (fun _ ep => nomatch ep) (fun f3 k3 G3 ep W3 s3 x1 x2 x3 x4 x5 => ?_)
      cases ep
      rw [x2.2.2.2.2.2.1]
      refine z_gp (by omega) (z_all ?_)
      have c147 : ∀ j, W3 147 j = U 147 j := fun j => by rw [x1.1.1 147 (by decide) (by decide) (by decide) (by decide) (by decide), w1.1 147 (by decide)]
      have cc : ∀ j, j < s → W3 148 j = V 148 j ∧ W3 149 j = V 149 j := fun j hj => ⟨by rw [(x1.2.1 j hj).1, w1.1 148 (by decide), cu 148 (by decide) (by decide)], by rw [(x1.2.1 j hj).2, w1.1 149 (by decide), cu 149 (by decide) (by decide)]⟩
      refine h1 _ _ _ rfl _ s3 (zqV_t (zqV_t (zqV_7 u7) (zqV_x (zqX_n w1))) (zqV_t (zqV_x x1.1) (zqV_7 (zq7_u zq7_r)))) (zqS0_7 (zqS_0 x2) (zq7_u zq7_r)) (by omega) x3 ?_ (fun j hj => ?_) (fun j hj => ?_) ?_
      · rw [z_up_cell (by decide), x1.1.2 15 (by unfold zqK; omega), w1.2 15 (by omega)]
        exact u15
      · rw [z_up_cell (by decide), z_up_cell (by decide)]
        exact cc j hj
      · rw [zUp_o (by omega), c147 j]
        exact u0 j (by omega)
      · have t8 : ∀ j, ¬ j = 8 * m + 6 → z_up W3 147 (8 * m + 6) (s3 : Int) 147 j = U 147 j := fun j hj => by rw [zUp_o (by omega), c147 j]
        have tc : ∀ j, z_up W3 147 (8 * m + 6) (s3 : Int) 148 j = W3 148 j ∧ z_up W3 147 (8 * m + 6) (s3 : Int) 149 j = W3 149 j := fun j => by rw [z_up_cell (by decide), z_up_cell (by decide)]; exact ⟨rfl, rfl⟩
        refine ⟨by rw [t8 _ (by omega), u0 _ (by omega)]; exact h8, fun q5 => ?_, fun _ => ⟨s, s3, Nat.le_refl _, by rw [t8 _ (by omega)]; exact u5, zUp_s, zqC_f x5 (Nat.le_refl _) (fun j _ => tc j)⟩, fun q5 => (nomatch q5)⟩
        obtain ⟨s0, g1, g2⟩ := hG q5
        exact ⟨s0, s, x3, by rw [t8 _ (by omega), u0 _ (by omega)]; exact g1, by rw [t8 _ (by omega)]; exact u4, zqC_f g2 (Nat.le_refl _) (fun j hj => ⟨(tc j).1.trans (cc j hj).1, (tc j).2.trans (cc j hj).2⟩)⟩
  · rcases zpIf_e e with ⟨_, rfl⟩ | ⟨q2, _⟩
    · rw [SU.2.2.2.2.2]
      have t8 : ∀ j, ¬ j = 8 * m + 6 → z_up U 147 (8 * m + 6) (s : Int) 147 j = U 147 j := fun j hj => by rw [zUp_o (by omega)]
      have cc : ∀ j, z_up U 147 (8 * m + 6) (s : Int) 148 j = V 148 j ∧ z_up U 147 (8 * m + 6) (s : Int) 149 j = V 149 j := fun j => by rw [z_up_cell (by decide), z_up_cell (by decide), cu 148 (by decide) (by decide), cu 149 (by decide) (by decide)]; exact ⟨rfl, rfl⟩
      refine h1 _ _ _ rfl _ s (zqV_t (zqV_7 u7) (zqV_7 (zq7_u zq7_r))) (zqS0_7 SU (zq7_u zq7_r)) hsf (Nat.le_refl s) ?_ (fun j _ => cc j) (fun j hj => by rw [t8 j (by omega)]; exact u0 j (by omega)) ⟨by rw [t8 _ (by omega), u0 _ (by omega)]; exact h8, fun q5 => ?_, fun q5 => (nomatch q5), fun _ => by rw [t8 _ (by omega), u5, zUp_s]⟩
      · rw [z_up_cell (by decide)]
        exact u15
      · obtain ⟨s0, g1, g2⟩ := hG q5
        exact ⟨s0, s, Nat.le_refl s, by rw [t8 _ (by omega), u0 _ (by omega)]; exact g1, by rw [t8 _ (by omega)]; exact u4, zqC_f g2 (Nat.le_refl _) (fun j _ => cc j)⟩
    · rw [q] at q2; cases q2
end
