/-! the reference's machine of readings: its pile -/
def zqK (k : Nat) : Prop := k < 9 ∨ k = 15 ∨ k = 16 ∨ 25 ≤ k
def zqX (V W : z_M) : Prop := (∀ a, ¬ a = 141 → ¬ a = 148 → ¬ a = 149 → ¬ a = 150 → ¬ a = 151 → W a = V a) ∧ ∀ k, zqK k → W 141 k = V 141 k
def zqF (V W : z_M) (s p : Nat) : Prop := zqX V W ∧ (∀ j, j < s → W 148 j = V 148 j ∧ W 149 j = V 149 j) ∧ ∀ j, j < p → W 150 j = V 150 j ∧ W 151 j = V 151 j
theorem zqX_r {V : z_M} : zqX V V := ⟨fun _ _ _ _ _ _ => rfl, fun _ _ => rfl⟩
theorem zqX_t {U V W : z_M} (h : zqX U V) (h2 : zqX V W) : zqX U W := ⟨fun a x1 x2 x3 x4 x5 => (h2.1 a x1 x2 x3 x4 x5).trans (h.1 a x1 x2 x3 x4 x5), fun k x => (h2.2 k x).trans (h.2 k x)⟩
theorem zqX_n {V W : z_M} (h : zqN V W) : zqX V W := ⟨fun a x _ _ _ _ => h.1 a x, fun k x => h.2 k (by unfold zqK at x; omega)⟩
theorem zqF_r {V : z_M} {s p : Nat} : zqF V V s p := ⟨zqX_r, fun _ _ => ⟨rfl, rfl⟩, fun _ _ => ⟨rfl, rfl⟩⟩
theorem zqF_t {U V W : z_M} {s p s1 p1 : Nat} (h : zqF U V s p) (h2 : zqF V W s1 p1) (e : s ≤ s1) (e2 : p ≤ p1) : zqF U W s p := ⟨zqX_t h.1 h2.1, fun j hj => ⟨(h2.2.1 j (by omega)).1.trans (h.2.1 j hj).1, (h2.2.1 j (by omega)).2.trans (h.2.1 j hj).2⟩, fun j hj => ⟨(h2.2.2 j (by omega)).1.trans (h.2.2 j hj).1, (h2.2.2 j (by omega)).2.trans (h.2.2 j hj).2⟩⟩
theorem zqF_n {V W : z_M} {s p : Nat} (h : zqN V W) : zqF V W s p := ⟨zqX_n h, fun j _ => ⟨by rw [h.1 148 (by decide)], by rw [h.1 149 (by decide)]⟩, fun j _ => ⟨by rw [h.1 150 (by decide)], by rw [h.1 151 (by decide)]⟩⟩
def zqS (V : z_M) (b : Nat → Int) (L f k s p o : Nat) : Prop := zqB V b L ∧ zqT V b L f ∧ V 141 14 = 0 ∧ V 141 13 = -1 ∧ V 141 20 = (k : Int) ∧ V 141 17 = (s : Int) ∧ V 141 23 = (p : Int) ∧ V 141 24 = (o : Int) ∧ ∀ j, j < p → 0 ≤ V 151 j ∧ V 151 j < 400
def zqZ (W : z_M) : Prop := W 141 14 = 1 ∧ ∃ s p : Nat, W 141 17 = (s : Int) ∧ W 141 23 = (p : Int) ∧ s + p ≤ 400 ∧ ∀ j, j < p → 0 ≤ W 151 j ∧ W 151 j < 400
def zqE (V : z_M) (s : Nat) (op arg : Int) : z_M := z_up (z_up (z_up V 148 s op) 149 s arg) 141 17 ((s + 1 : Nat) : Int)
def zqU (V : z_M) (p : Nat) (op at_ : Int) : z_M := z_up (z_up (z_up V 150 p op) 151 p at_) 141 23 ((p + 1 : Nat) : Int)
theorem zqE_p {V : z_M} {s : Nat} {op arg : Int} : zqE V s op arg 148 s = op ∧ zqE V s op arg 149 s = arg ∧ zqE V s op arg 141 17 = ((s + 1 : Nat) : Int) ∧ (∀ j, ¬ j = s → zqE V s op arg 148 j = V 148 j ∧ zqE V s op arg 149 j = V 149 j) ∧ (∀ k, ¬ k = 17 → zqE V s op arg 141 k = V 141 k) ∧ ∀ a, ¬ a = 141 → ¬ a = 148 → ¬ a = 149 → zqE V s op arg a = V a := by
  unfold zqE
  refine ⟨by simp (disch := omega) only [zUp_o, zUp_s], by simp (disch := omega) only [zUp_o, zUp_s], zUp_s, fun j hj => ⟨by simp (disch := omega) only [zUp_o], by simp (disch := omega) only [zUp_o]⟩, fun k hk => by simp (disch := omega) only [zUp_o], fun a h1 h2 h3 => by rw [z_up_cell h1, z_up_cell h3, z_up_cell h2]⟩
theorem zqU_p {V : z_M} {p : Nat} {op at_ : Int} : zqU V p op at_ 150 p = op ∧ zqU V p op at_ 151 p = at_ ∧ zqU V p op at_ 141 23 = ((p + 1 : Nat) : Int) ∧ (∀ j, ¬ j = p → zqU V p op at_ 150 j = V 150 j ∧ zqU V p op at_ 151 j = V 151 j) ∧ (∀ k, ¬ k = 23 → zqU V p op at_ 141 k = V 141 k) ∧ ∀ a, ¬ a = 141 → ¬ a = 150 → ¬ a = 151 → zqU V p op at_ a = V a := by
  unfold zqU
  refine ⟨by simp (disch := omega) only [zUp_o, zUp_s], by simp (disch := omega) only [zUp_o, zUp_s], zUp_s, fun j hj => ⟨by simp (disch := omega) only [zUp_o], by simp (disch := omega) only [zUp_o]⟩, fun k hk => by simp (disch := omega) only [zUp_o], fun a h1 h2 h3 => by rw [z_up_cell h1, z_up_cell h3, z_up_cell h2]⟩
theorem zqE_f {V : z_M} {s p : Nat} {op arg : Int} : zqF V (zqE V s op arg) s p := by
  have e := zqE_p (V := V) (s := s) (op := op) (arg := arg)
  refine ⟨⟨fun a x1 x2 x3 _ _ => e.2.2.2.2.2 a x1 x2 x3, fun k hk => e.2.2.2.2.1 k (by unfold zqK at hk; omega)⟩, fun j hj => e.2.2.2.1 j (by omega), fun j _ => ?_⟩
  rw [e.2.2.2.2.2 150 (by decide) (by decide) (by decide), e.2.2.2.2.2 151 (by decide) (by decide) (by decide)]
  exact ⟨rfl, rfl⟩
theorem zqU_f {V : z_M} {s p : Nat} {op at_ : Int} : zqF V (zqU V p op at_) s p := by
  have e := zqU_p (V := V) (p := p) (op := op) (at_ := at_)
  refine ⟨⟨fun a x1 _ _ x4 x5 => e.2.2.2.2.2 a x1 x4 x5, fun k hk => e.2.2.2.2.1 k (by unfold zqK at hk; omega)⟩, fun j _ => ?_, fun j hj => e.2.2.2.1 j (by omega)⟩
  rw [e.2.2.2.2.2 148 (by decide) (by decide) (by decide), e.2.2.2.2.2 149 (by decide) (by decide) (by decide)]
  exact ⟨rfl, rfl⟩
def zqBi (x : Int) : Int := if x < 30 then (if x = 29 then 1 else if x = 28 then 2 else if x = 27 then 3 else if x < 24 then (if x < 22 then 5 else 6) else 4) else 0
/-- one off the pile -/
def zqO (V : z_M) : z_M := if V 150 ((V 141 23).toNat - 1) = 28 ∨ V 150 ((V 141 23).toNat - 1) = 29 then z_up (z_up V 141 23 (V 141 23 - 1)) 149 (V 151 ((V 141 23).toNat - 1)).toNat (V 141 17) else zqE (z_up V 141 23 (V 141 23 - 1)) (V 141 17).toNat (V 150 ((V 141 23).toNat - 1)) 0
def zqP : Nat → z_M → z_M
  | 0, V => V
  | e + 1, V => zqP e (zqO V)
theorem zqP_s : ∀ {e : Nat} {V : z_M}, zqP (e + 1) V = zqO (zqP e V)
  | 0, _ => rfl
  | e + 1, V => by
    show zqP (e + 1) (zqO V) = zqO (zqP e (zqO V))
    exact zqP_s
theorem zqO_e {U : z_M} {p s : Nat} (h23 : U 141 23 = ((p + 1 : Nat) : Int)) (h17 : U 141 17 = (s : Int)) (ho : ¬ (U 150 p = 28 ∨ U 150 p = 29)) : zqO U = zqE (z_up U 141 23 (p : Int)) s (U 150 p) 0 := by
  unfold zqO
  rw [h23, h17, show ((p + 1 : Nat) : Int).toNat - 1 = p by omega, if_neg ho, show ((p + 1 : Nat) : Int) - 1 = (p : Int) by omega, Int.toNat_natCast]
theorem zqO_l {U : z_M} {p s : Nat} (h23 : U 141 23 = ((p + 1 : Nat) : Int)) (h17 : U 141 17 = (s : Int)) (ho : U 150 p = 28 ∨ U 150 p = 29) : zqO U = z_up (z_up U 141 23 (p : Int)) 149 (U 151 p).toNat (s : Int) := by
  unfold zqO
  rw [h23, h17, show ((p + 1 : Nat) : Int).toNat - 1 = p by omega, if_pos ho, show ((p + 1 : Nat) : Int) - 1 = (p : Int) by omega]
/-- what one off the pile leaves -/
theorem zqO_p {U : z_M} {p s s0 : Nat} (h23 : U 141 23 = ((p + 1 : Nat) : Int)) (h17 : U 141 17 = (s : Int)) (hs : s0 ≤ s) (h0 : U 150 p = 28 ∨ U 150 p = 29 → (s0 : Int) ≤ U 151 p) : zqF U (zqO U) s0 (p + 1) ∧ zqO U 150 = U 150 ∧ zqO U 151 = U 151 ∧ (∀ k, ¬ k = 17 → ¬ k = 23 → zqO U 141 k = U 141 k) ∧ zqO U 141 23 = (p : Int) ∧ ∃ s2 : Nat, zqO U 141 17 = (s2 : Int) ∧ s ≤ s2 ∧ s2 ≤ s + 1 := by
  by_cases ho : U 150 p = 28 ∨ U 150 p = 29
  · rw [zqO_l h23 h17 ho]
    have h0' := h0 ho
    refine ⟨⟨⟨fun a x1 x2 x3 x4 x5 => by rw [z_up_cell x3, z_up_cell x1], fun k hk => by rw [z_up_cell (by decide), zUp_o (by unfold zqK at hk; omega)]⟩, fun j hj => ⟨by rw [z_up_cell (by decide), z_up_cell (by decide)], by rw [zUp_o (by omega), z_up_cell (by decide)]⟩, fun j hj => ⟨by rw [z_up_cell (by decide), z_up_cell (by decide)], by rw [z_up_cell (by decide), z_up_cell (by decide)]⟩⟩, by rw [z_up_cell (by decide), z_up_cell (by decide)], by rw [z_up_cell (by decide), z_up_cell (by decide)], fun k h1 h2 => by rw [z_up_cell (by decide), zUp_o (by omega)], by rw [z_up_cell (by decide), zUp_s], s, by rw [z_up_cell (by decide), zUp_o (by omega)]; exact h17, Nat.le_refl s, by omega⟩
  · rw [zqO_e h23 h17 ho]
    have e := zqE_p (V := z_up U 141 23 (p : Int)) (s := s) (op := U 150 p) (arg := 0)
    have f := zqE_f (V := z_up U 141 23 (p : Int)) (s := s) (p := p + 1) (op := U 150 p) (arg := 0)
    have f0 : zqF U (z_up U 141 23 (p : Int)) s (p + 1) := ⟨⟨fun a x1 _ _ _ _ => z_up_cell x1, fun k hk => zUp_o (by unfold zqK at hk; omega)⟩, fun j _ => ⟨by rw [z_up_cell (by decide)], by rw [z_up_cell (by decide)]⟩, fun j _ => ⟨by rw [z_up_cell (by decide)], by rw [z_up_cell (by decide)]⟩⟩
    refine ⟨?_, by rw [e.2.2.2.2.2 150 (by decide) (by decide) (by decide), z_up_cell (by decide)], by rw [e.2.2.2.2.2 151 (by decide) (by decide) (by decide), z_up_cell (by decide)], fun k h1 h2 => by rw [e.2.2.2.2.1 k h1, zUp_o (by omega)], by rw [e.2.2.2.2.1 23 (by decide), zUp_s], s + 1, e.2.2.1, by omega, by omega⟩
    have g := zqF_t f0 f (Nat.le_refl s) (Nat.le_refl _)
    exact ⟨g.1, fun j hj => g.2.1 j (by omega), g.2.2⟩
theorem zqP_p : ∀ {e : Nat} {V : z_M} {p s s0 : Nat}, V 141 23 = ((p + e : Nat) : Int) → V 141 17 = (s : Int) → s0 ≤ s → (∀ i, i < e → (V 150 (p + i) = 28 ∨ V 150 (p + i) = 29) → (s0 : Int) ≤ V 151 (p + i)) → zqF V (zqP e V) s0 (p + e) ∧ zqP e V 150 = V 150 ∧ zqP e V 151 = V 151 ∧ (∀ k, ¬ k = 17 → ¬ k = 23 → zqP e V 141 k = V 141 k) ∧ zqP e V 141 23 = (p : Int) ∧ ∃ s2 : Nat, zqP e V 141 17 = (s2 : Int) ∧ s ≤ s2 ∧ s2 ≤ s + e
  | 0, V, p, s, s0, h23, h17, hs, h0 => ⟨zqF_r, rfl, rfl, fun _ _ _ => rfl, h23, s, h17, Nat.le_refl s, Nat.le_refl s⟩
  | e + 1, V, p, s, s0, h23, h17, hs, h0 => by
    obtain ⟨a1, a2, a3, a4, a5, s2, a6, a7, a8⟩ := zqO_p (U := V) (p := p + e) (s := s) (s0 := s0) (by rw [h23]; omega) h17 hs (h0 e (by omega))
    obtain ⟨b1, b2, b3, b4, b5, s3, b6, b7, b8⟩ := zqP_p (e := e) (V := zqO V) (p := p) (s := s2) (s0 := s0) a5 a6 (by omega) (fun i hi => by rw [a2, a3]; exact h0 i (by omega))
    refine ⟨zqF_t a1 ⟨b1.1, b1.2.1, fun j _ => ?_⟩ (Nat.le_refl _) (Nat.le_refl _), b2.trans a2, b3.trans a3, fun k h1 h2 => (b4 k h1 h2).trans (a4 k h1 h2), b5, s3, b6, by omega, by omega⟩
    show zqP e (zqO V) 150 j = _ ∧ zqP e (zqO V) 151 j = _
    rw [b2, b3]
    exact ⟨rfl, rfl⟩
/-- the same pile, the same code: the same pops -/
def zqA (V W : z_M) : Prop := W 148 = V 148 ∧ W 149 = V 149 ∧ W 150 = V 150 ∧ W 151 = V 151 ∧ W 141 17 = V 141 17 ∧ W 141 23 = V 141 23
theorem zqA_o {V W : z_M} (h : zqA V W) : zqA (zqO V) (zqO W) := by
  obtain ⟨h1, h2, h3, h4, h5, h6⟩ := h
  unfold zqO
  rw [h3, h4, h5, h6]
  split
  · refine ⟨?_, ?_, ?_, ?_, ?_, ?_⟩
    · rw [z_up_cell (by decide), z_up_cell (by decide), z_up_cell (by decide), z_up_cell (by decide)]; exact h1
    · funext j
      simp only [z_up_rd, h2]
    · rw [z_up_cell (by decide), z_up_cell (by decide), z_up_cell (by decide), z_up_cell (by decide)]; exact h3
    · rw [z_up_cell (by decide), z_up_cell (by decide), z_up_cell (by decide), z_up_cell (by decide)]; exact h4
    · simp (disch := omega) only [zUp_o]; exact h5
    · simp (disch := omega) only [zUp_o, zUp_s]
  · unfold zqE
    refine ⟨?_, ?_, ?_, ?_, ?_, ?_⟩
    · funext j
      simp only [z_up_rd, h1]
    · funext j
      simp only [z_up_rd, h2]
    · rw [z_up_cell (by decide), z_up_cell (by decide), z_up_cell (by decide), z_up_cell (by decide), z_up_cell (by decide), z_up_cell (by decide), z_up_cell (by decide), z_up_cell (by decide)]; exact h3
    · rw [z_up_cell (by decide), z_up_cell (by decide), z_up_cell (by decide), z_up_cell (by decide), z_up_cell (by decide), z_up_cell (by decide), z_up_cell (by decide), z_up_cell (by decide)]; exact h4
    · rw [zUp_s, zUp_s]
    · simp (disch := omega) only [zUp_o, zUp_s]
theorem zqA_p : ∀ {e : Nat} {V W : z_M}, zqA V W → zqA (zqP e V) (zqP e W)
  | 0, _, _, h => h
  | e + 1, V, W, h => zqA_p (e := e) (zqA_o h)
def zqC (U : z_M) (D s e : Nat) (F : zpF) : Prop := zSeg (fun j => U 148 j) (fun j => U 149 j) D s e F
theorem zqC_f {V W : z_M} {D D2 s e : Nat} {F : zpF} (h : zqC V D s e F) (hD : D ≤ D2) (hc : ∀ j, j < e → W 148 j = V 148 j ∧ W 149 j = V 149 j) : zqC W D2 s e F :=
  zSeg_congr (fun k _ h2 => ⟨(hc k h2).1.symm, (hc k h2).2.symm⟩) hD h
/-- what waits on the pile, from p on: the code from s on that it makes -/
def zqD (V : z_M) (p s : Nat) (lo : Int) (e D : Nat) (F : zpF) : Prop := (∀ i, i < e → lo ≤ zqBi (V 150 (p + i)) ∧ 20 ≤ V 150 (p + i) ∧ V 150 (p + i) < 30 ∧ (V 150 (p + i) = 28 ∨ V 150 (p + i) = 29 → (s : Int) ≤ V 151 (p + i))) ∧ ∃ s2 : Nat, zqP e V 141 17 = (s2 : Int) ∧ zqC (zqP e V) D s s2 F
theorem zqD_c {V W : z_M} {p s e D : Nat} {lo : Int} {F : zpF} (h : zqD V p s lo e D F) (hA : zqA V W) : zqD W p s lo e D F := by
  obtain ⟨h1, s2, h2, h3⟩ := h
  have a := zqA_p (e := e) hA
  refine ⟨fun i hi => by rw [hA.2.2.1, hA.2.2.2.1]; exact h1 i hi, s2, a.2.2.2.2.1.trans h2, ?_⟩
  unfold zqC at h3 ⊢
  rw [a.1, a.2.1]
  exact h3
theorem zqD_0 {V : z_M} {p s s2 D : Nat} {lo : Int} {F : zpF} (h17 : V 141 17 = (s2 : Int)) (h : zqC V D s s2 F) : zqD V p s lo 0 D F := ⟨fun i hi => absurd hi (by omega), s2, h17, h⟩
theorem zqD_w {V : z_M} {p s e D D2 : Nat} {lo lo2 : Int} {F : zpF} (h : zqD V p s lo e D F) (hD : D ≤ D2) (hl : lo2 ≤ lo) : zqD V p s lo2 e D2 F := by
  obtain ⟨h1, s2, h2, h3⟩ := h
  exact ⟨fun i hi => ⟨Int.le_trans hl (h1 i hi).1, (h1 i hi).2⟩, s2, h2, zqC_f h3 hD (fun _ _ => ⟨rfl, rfl⟩)⟩
section
variable {W : z_M} {p s m n e D D1 D2 : Nat} {lo lo2 op t : Int} {F G : zpF}
/-- an operator beneath what waits -/
theorem zqD_b (h23 : W 141 23 = ((p + 1 + e : Nat) : Int)) (h17 : W 141 17 = (n : Int)) (hmn : m ≤ n) (hp : W 150 p = op) (ho : 20 ≤ op ∧ op ≤ 26) (hF : zqC W D1 s m F) (hG : zqD W (p + 1) m lo2 e D2 G) (hl : lo ≤ zqBi op ∧ lo ≤ lo2) (hD : D1 ≤ D ∧ D2 + 1 ≤ D) : zqD W p s lo (e + 1) D (zpBi op F G) := by
  obtain ⟨g1, s2, g2, g3⟩ := hG
  obtain ⟨a1, a2, a3, a4, a5, s3, a6, a7, a8⟩ := zqP_p (e := e) (V := W) (p := p + 1) (s := n) (s0 := m) h23 h17 hmn (fun i hi => (g1 i hi).2.2.2)
  have hsm := hF.1
  refine ⟨fun i hi => ?_, s2 + 1, ?_, ?_⟩
  · by_cases hi0 : i = 0
    · subst hi0
      rw [Nat.add_zero, hp]
      exact ⟨hl.1, ho.1, by omega, fun q => by omega⟩
    · have x := g1 (i - 1) (by omega)
      rw [show p + 1 + (i - 1) = p + i by omega] at x
      exact ⟨by omega, x.2.1, x.2.2.1, fun q => by have := x.2.2.2 q; omega⟩
  · rw [zqP_s, zqO_e a5 g2 (by rw [a2, hp]; omega)]
    exact zqE_p.2.2.1
  · rw [zqP_s, zqO_e a5 g2 (by rw [a2, hp]; omega)]
    have e1 := zqE_p (V := z_up (zqP e W) 141 23 (p : Int)) (s := s2) (op := zqP e W 150 p) (arg := 0)
    have eo : zqE (z_up (zqP e W) 141 23 (p : Int)) s2 (zqP e W 150 p) 0 148 s2 = op := by rw [e1.1, a2, hp]
    have cc : ∀ j, j < s2 → zqE (z_up (zqP e W) 141 23 (p : Int)) s2 (zqP e W 150 p) 0 148 j = zqP e W 148 j ∧ zqE (z_up (zqP e W) 141 23 (p : Int)) s2 (zqP e W 150 p) 0 149 j = zqP e W 149 j := fun j hj => by
      rw [(e1.2.2.2.1 j (by omega)).1, (e1.2.2.2.1 j (by omega)).2, z_up_cell (by decide), z_up_cell (by decide)]
      exact ⟨rfl, rfl⟩
    have hm2 := g3.1
    have k1 : zqC (zqE (z_up (zqP e W) 141 23 (p : Int)) s2 (zqP e W 150 p) 0) D1 s m F := zqC_f hF (Nat.le_refl _) (fun j hj => ⟨(cc j (by omega)).1.trans (a1.2.1 j hj).1, (cc j (by omega)).2.trans (a1.2.1 j hj).2⟩)
    have k2 : zqC (zqE (z_up (zqP e W) 141 23 (p : Int)) s2 (zqP e W 150 p) 0) D2 m s2 G := zqC_f g3 (Nat.le_refl _) cc
    have g := zSeg_bin k1 k2 (by rw [eo]; exact ho)
    rw [eo] at g
    exact zSeg_congr (fun _ _ _ => ⟨rfl, rfl⟩) (by omega) g
theorem zqD_n (h23 : W 141 23 = ((p + 1 + e : Nat) : Int)) (h17 : W 141 17 = (n : Int)) (hmn : s ≤ n) (hp : W 150 p = 27) (hG : zqD W (p + 1) s lo2 e D G) (hl : lo ≤ 3 ∧ lo ≤ lo2) (hb : zp01 G) : zqD W p s lo (e + 1) D (zpNg G) := by
  obtain ⟨g1, s2, g2, g3⟩ := hG
  obtain ⟨a1, a2, a3, a4, a5, s3, a6, a7, a8⟩ := zqP_p (e := e) (V := W) (p := p + 1) (s := n) (s0 := s) h23 h17 hmn (fun i hi => (g1 i hi).2.2.2)
  refine ⟨fun i hi => ?_, s2 + 1, ?_, ?_⟩
  · by_cases hi0 : i = 0
    · subst hi0
      rw [Nat.add_zero, hp]
      exact ⟨hl.1, by decide, by decide, fun q => by omega⟩
    · have x := g1 (i - 1) (by omega)
      rw [show p + 1 + (i - 1) = p + i by omega] at x
      exact ⟨by omega, x.2.1, x.2.2.1, x.2.2.2⟩
  · rw [zqP_s, zqO_e a5 g2 (by rw [a2, hp]; omega)]
    exact zqE_p.2.2.1
  · rw [zqP_s, zqO_e a5 g2 (by rw [a2, hp]; omega)]
    have e1 := zqE_p (V := z_up (zqP e W) 141 23 (p : Int)) (s := s2) (op := zqP e W 150 p) (arg := 0)
    have k2 : zqC (zqE (z_up (zqP e W) 141 23 (p : Int)) s2 (zqP e W 150 p) 0) D s s2 G := zqC_f g3 (Nat.le_refl _) (fun j hj => by
      rw [(e1.2.2.2.1 j (by omega)).1, (e1.2.2.2.1 j (by omega)).2, z_up_cell (by decide), z_up_cell (by decide)]
      exact ⟨rfl, rfl⟩)
    exact zSeg_not k2 hb (by rw [e1.1, a2, hp])
theorem zqD_l (h23 : W 141 23 = ((p + 1 + e : Nat) : Int)) (h17 : W 141 17 = (n : Int)) (hmn : m + 1 ≤ n) (hp : (W 150 p = 28 ∧ t = 0) ∨ (W 150 p = 29 ∧ t = 1)) (hm : W 148 m = W 150 p) (hat : W 151 p = (m : Int)) (hF : zqC W D s m F) (hG : zqD W (p + 1) (m + 1) lo2 e D G) (hl : lo ≤ zqBi (W 150 p) ∧ lo ≤ lo2) : zqD W p s lo (e + 1) D (zpLg t F G) := by
  obtain ⟨g1, s2, g2, g3⟩ := hG
  obtain ⟨a1, a2, a3, a4, a5, s3, a6, a7, a8⟩ := zqP_p (e := e) (V := W) (p := p + 1) (s := n) (s0 := m + 1) h23 h17 hmn (fun i hi => (g1 i hi).2.2.2)
  have hsm := hF.1
  have ho : zqP e W 150 p = 28 ∨ zqP e W 150 p = 29 := by rw [a2]; omega
  refine ⟨fun i hi => ?_, s2, ?_, ?_⟩
  · by_cases hi0 : i = 0
    · subst hi0
      rw [Nat.add_zero]
      exact ⟨hl.1, by omega, by omega, fun q => by omega⟩
    · have x := g1 (i - 1) (by omega)
      rw [show p + 1 + (i - 1) = p + i by omega] at x
      exact ⟨by omega, x.2.1, x.2.2.1, fun q => by have := x.2.2.2 q; omega⟩
  · rw [zqP_s, zqO_l a5 g2 ho, z_up_cell (by decide), zUp_o (by omega)]
    exact g2
  · rw [zqP_s, zqO_l a5 g2 ho, a3, hat, Int.toNat_natCast]
    have c148 : z_up (z_up (zqP e W) 141 23 (p : Int)) 149 m (s2 : Int) 148 = zqP e W 148 := by rw [z_up_cell (by decide), z_up_cell (by decide)]
    have c149 : ∀ j, ¬ j = m → z_up (z_up (zqP e W) 141 23 (p : Int)) 149 m (s2 : Int) 149 j = zqP e W 149 j := fun j hj => by rw [zUp_o (by omega), z_up_cell (by decide)]
    have k1 : zqC (z_up (z_up (zqP e W) 141 23 (p : Int)) 149 m (s2 : Int)) D s m F := zqC_f hF (Nat.le_refl _) (fun j hj => ⟨by rw [c148]; exact (a1.2.1 j (by omega)).1, by rw [c149 j (by omega)]; exact (a1.2.1 j (by omega)).2⟩)
    have k2 : zqC (z_up (z_up (zqP e W) 141 23 (p : Int)) 149 m (s2 : Int)) D (m + 1) s2 G := zSeg_congr (fun k h1 _ => ⟨by rw [c148], (c149 k (by omega)).symm⟩) (Nat.le_refl D) g3
    have eo : z_up (z_up (zqP e W) 141 23 (p : Int)) 149 m (s2 : Int) 148 m = W 150 p := by rw [c148, (a1.2.1 m (by omega)).1]; exact hm
    exact zSeg_congr (fun _ _ _ => ⟨rfl, rfl⟩) (by omega) (zSeg_log k1 k2 (by rw [eo]; exact hp) zUp_s)
end
