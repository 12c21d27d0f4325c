/-! the reference's tokens -/
def zpSo (b : Nat → Int) (L f : Nat) : Int := if f < L then (if 97 ≤ b f ∧ b f ≤ 122 then 1 else if 48 ≤ b f ∧ b f ≤ 57 then 2 else 3) else 0
def zpEn (b : Nat → Int) (f : Nat) : Nat → Int
  | 0 => 0
  | n + 1 => if n < 10 then zpEn b f n * 32 + b (f + n) - 96 else -1
def zpDg (b : Nat → Int) (f : Nat) : Nat → Int
  | 0 => 0
  | n + 1 => if 1000000 < zpDg b f n then zpDg b f n else zpDg b f n * 10 + b (f + n) - 48
def zpWr (b : Nat → Int) (L f : Nat) : Int := if f < L then (if 97 ≤ b f ∧ b f ≤ 122 then zpEn b f (zpTe b L f - f) else if 48 ≤ b f ∧ b f ≤ 57 then zpDg b f (zpTe b L f - f) else b f) else 0
theorem zpEn_p {b : Nat → Int} {f : Nat} : ∀ {n : Nat}, n ≤ 10 → (∀ i, i < n → 97 ≤ b (f + i) ∧ b (f + i) ≤ 122) → 0 ≤ zpEn b f n ∧ zpEn b f n < ((32 ^ n : Nat) : Int)
  | 0, _, _ => ⟨Int.le_refl 0, by show (0 : Int) < ((32 ^ 0 : Nat) : Int); decide⟩
  | n + 1, hn, h => by
    have h1 := zpEn_p (b := b) (f := f) (n := n) (by omega) (fun i hi => h i (by omega))
    have h2 := h n (by omega)
    have e : zpEn b f (n + 1) = zpEn b f n * 32 + b (f + n) - 96 := by
      show (if n < 10 then _ else _) = _
      rw [if_pos (by omega)]
    rw [e, Nat.pow_succ]
    omega
theorem zpEn_10 {n : Nat} (h : n ≤ 10) : ((32 ^ n : Nat) : Int) ≤ 1125899906842624 := by
  have := Nat.pow_le_pow_right (n := 32) (by omega) h
  have e : 32 ^ 10 = 1125899906842624 := by decide
  omega
theorem zpDg_s {b : Nat → Int} {f n : Nat} : zpDg b f (n + 1) = if 1000000 < zpDg b f n then zpDg b f n else zpDg b f n * 10 + b (f + n) - 48 := rfl
theorem zpDg_p {b : Nat → Int} {f : Nat} : ∀ {n : Nat}, (∀ i, i < n → 48 ≤ b (f + i) ∧ b (f + i) ≤ 57) → 0 ≤ zpDg b f n ∧ zpDg b f n ≤ 10000009
  | 0, _ => ⟨Int.le_refl 0, by show (0 : Int) ≤ 10000009; decide⟩
  | n + 1, h => by
    have h1 := zpDg_p (b := b) (f := f) (n := n) (fun i hi => h i (by omega))
    have h2 := h n (by omega)
    rw [zpDg_s]
    split <;> omega
/-- a number told is the same both ways, where it is 1000 at most -/
theorem zpDg_v {b : Nat → Int} {f : Nat} : ∀ {n : Nat}, (∀ i, i < n → 48 ≤ b (f + i) ∧ b (f + i) ≤ 57) → (zpDg b f n = zpVa b f n ∨ (1000000 < zpDg b f n ∧ 1000000 < zpVa b f n))
  | 0, _ => Or.inl rfl
  | n + 1, h => by
    have h1 := zpDg_v (b := b) (f := f) (n := n) (fun i hi => h i (by omega))
    have h2 := h n (by omega)
    have e2 : zpVa b f (n + 1) = zpVa b f n * 10 + (b (f + n) - 48) := rfl
    rw [zpDg_s, e2]
    split <;> omega
def zpEg (g : Nat → Int) : Nat → Int
  | 0 => 0
  | n + 1 => zpEg g n * 32 + g n
theorem zpEg_p {g : Nat → Int} : ∀ {n : Nat}, (∀ i, i < n → 1 ≤ g i ∧ g i ≤ 26) → 0 ≤ zpEg g n
  | 0, _ => Int.le_refl 0
  | n + 1, h => by
    have h1 := zpEg_p (g := g) (n := n) (fun i hi => h i (by omega))
    have h2 := h n (by omega)
    show 0 ≤ zpEg g n * 32 + g n
    omega
theorem zpEn_i {b g : Nat → Int} {f : Nat} : ∀ {m n : Nat}, m ≤ 9 → (∀ i, i < n → 97 ≤ b (f + i) ∧ b (f + i) ≤ 122) → (∀ i, i < m → 1 ≤ g i ∧ g i ≤ 26) → (zpEn b f n = zpEg g m ↔ n = m ∧ ∀ i, i < m → b (f + i) - 96 = g i)
  | 0, 0, _, _, _ => ⟨fun _ => ⟨rfl, fun i hi => absurd hi (by omega)⟩, fun _ => rfl⟩
  | 0, n + 1, _, hb, _ => by
    refine ⟨fun h => ?_, fun h => absurd h.1 (by omega)⟩
    have h1 : (if n < 10 then zpEn b f n * 32 + b (f + n) - 96 else -1) = 0 := h
    split at h1
    · have := (zpEn_p (b := b) (f := f) (n := n) (by omega) (fun i hi => hb i (by omega))).1
      have := hb n (by omega)
      omega
    · omega
  | m + 1, 0, _, _, hg => by
    refine ⟨fun h => ?_, fun h => absurd h.1 (by omega)⟩
    have h1 : 0 = zpEg g m * 32 + g m := h
    have := zpEg_p (g := g) (n := m) (fun i hi => hg i (by omega))
    have := hg m (by omega)
    omega
  | m + 1, n + 1, hm, hb, hg => by
    have ih := zpEn_i (b := b) (g := g) (f := f) (m := m) (n := n) (by omega) (fun i hi => hb i (by omega)) (fun i hi => hg i (by omega))
    have g0 := zpEg_p (g := g) (n := m) (fun i hi => hg i (by omega))
    have gm := hg m (by omega)
    have bn := hb n (by omega)
    constructor
    · intro h
      have h1 : (if n < 10 then zpEn b f n * 32 + b (f + n) - 96 else -1) = zpEg g m * 32 + g m := h
      split at h1
      · have e1 : zpEn b f n = zpEg g m := by omega
        obtain ⟨e2, e3⟩ := ih.mp e1
        refine ⟨by omega, fun i hi => ?_⟩
        by_cases e4 : i = m
        · subst e4; subst e2; omega
        · exact e3 i (by omega)
      · omega
    · rintro ⟨e, h⟩
      have e1 := ih.mpr ⟨by omega, fun i hi => h i (by omega)⟩
      show (if n < 10 then zpEn b f n * 32 + b (f + n) - 96 else -1) = zpEg g m * 32 + g m
      have e2 : n = m := by omega
      have hm2 := h m (by omega)
      rw [if_pos (by omega), e1]
      subst e2
      omega
def zpCd (s : Nat) : Int := zpEg (fun i => z_VS (s + 14) i - 96) (zpWl s)
theorem zpLt : ∀ s : Fin 14, ∀ i : Fin 6, i.val < zpWl (s.val + 8) → 97 ≤ z_VS (s.val + 8 + 14) i.val ∧ z_VS (s.val + 8 + 14) i.val ≤ 122 := by decide +kernel
theorem zpLt2 {s i : Nat} (h1 : 8 ≤ s) (h2 : s < 22) (hi : i < zpWl s) : 97 ≤ z_VS (s + 14) i ∧ z_VS (s + 14) i ≤ 122 := by
  have w := zpWl_p s
  have k := zpLt ⟨s - 8, by omega⟩ ⟨i, by omega⟩
  dsimp only at k
  rw [show s - 8 + 8 = s by omega] at k
  exact k hi
theorem zpCds : zpCd 8 = 2262611 ∧ zpCd 9 = 67155 ∧ zpCd 10 = 294 ∧ zpCd 11 = 498 ∧ zpCd 12 = 1476 ∧ zpCd 13 = 14836 ∧ zpCd 14 = 609259698 ∧ zpCd 15 = 21566500 ∧ zpCd 16 = 21242987 ∧ zpCd 17 = 12769452 ∧ zpCd 18 = 777297172 ∧ zpCd 19 = 659104901 ∧ zpCd 20 = 278194 ∧ zpCd 21 = 153204 := by decide +kernel
section
variable {b : Nat → Int} {L f : Nat}
theorem zpWd_c {s : Nat} (h1 : 8 ≤ s) (h2 : s < 22) (hf : f ≤ L) : (zpSo b L f = 1 ∧ zpWr b L f = zpCd s) ↔ zpWd b L f s = true := by
  have wl := zpWl_p s
  unfold zpWd zpSo zpWr
  rw [decide_eq_true_eq]
  constructor
  · rintro ⟨e1, e2⟩
    split at e1
    · rename_i hl
      split at e1
      · rename_i hs
        rw [if_pos hl, if_pos hs] at e2
        have p := zpRe_p (b := b) (L := L) (lo := 97) (hi := 122) _ f rfl
        rw [← zpTe_w hl hs] at p
        obtain ⟨a1, a2⟩ := (zpEn_i (m := zpWl s) (by omega) (fun i hi => (p.2.2.1 (f + i) (by omega) (by omega)).2) (fun i hi => by have := zpLt2 h1 h2 hi; omega)).mp e2
        exact ⟨a1, fun i hi => by have := a2 i hi; omega⟩
      · split at e1 <;> exact absurd e1 (by decide)
    · exact absurd e1 (by decide)
  · rintro ⟨a1, a2⟩
    have hl : f < L := by have := zpTe_p (b := b) hf; omega
    have l0 := zpLt2 h1 h2 (i := 0) (by omega)
    have b0 := a2 0 (by omega)
    rw [Nat.add_zero] at b0
    have hs : 97 ≤ b f ∧ b f ≤ 122 := by omega
    rw [if_pos hl, if_pos hs, if_pos hl, if_pos hs]
    refine ⟨rfl, ?_⟩
    have p := zpRe_p (b := b) (L := L) (lo := 97) (hi := 122) _ f rfl
    rw [← zpTe_w hl hs] at p
    exact (zpEn_i (m := zpWl s) (by omega) (fun i hi => (p.2.2.1 (f + i) (by omega) (by omega)).2) (fun i hi => by have := zpLt2 h1 h2 hi; omega)).mpr ⟨a1, fun i hi => by have := a2 i hi; omega⟩
theorem zpSg_c {c : Int} (h1 : ¬ (97 ≤ c ∧ c ≤ 122)) (h2 : ¬ (48 ≤ c ∧ c ≤ 57)) : (zpSo b L f = 3 ∧ zpWr b L f = c) ↔ zpSg b L f c = true := by
  rw [zpSg_e]
  unfold zpSo zpWr
  constructor
  · rintro ⟨e1, e2⟩
    split at e1
    · rename_i hl
      rw [if_pos hl] at e2
      split at e1
      · exact absurd e1 (by decide)
      · rename_i n1
        rw [if_neg n1] at e2
        split at e1
        · exact absurd e1 (by decide)
        · rename_i n2
          rw [if_neg n2] at e2
          exact ⟨hl, e2⟩
    · exact absurd e1 (by decide)
  · rintro ⟨hl, e⟩
    rw [if_pos hl, if_neg (by omega), if_neg (by omega), if_pos hl, if_neg (by omega), if_neg (by omega)]
    exact ⟨rfl, e⟩
theorem zpNm_c (hf : f ≤ L) : (zpSo b L f = 2 ∧ ¬ 1000 < zpWr b L f → zpNm b L f = zpWr b L f ∧ 0 ≤ zpWr b L f) ∧ (¬ (zpSo b L f = 2 ∧ ¬ 1000 < zpWr b L f) → zpNm b L f = -1) := by
  unfold zpSo zpWr zpNm
  by_cases hl : f < L
  · simp only [if_pos hl]
    by_cases hs : 97 ≤ b f ∧ b f ≤ 122
    · simp only [if_pos hs]
      rw [if_neg (by omega)]
      exact ⟨fun h => absurd h.1 (by decide), fun _ => rfl⟩
    · simp only [if_neg hs]
      by_cases hd : 48 ≤ b f ∧ b f ≤ 57
      · simp only [if_pos hd]
        have p := zpRe_p (b := b) (L := L) (lo := 48) (hi := 57) _ f rfl
        rw [← zpTe_d hl hd] at p
        have v := zpDg_v (b := b) (f := f) (n := zpTe b L f - f) (fun i hi => (p.2.2.1 (f + i) (by omega) (by omega)).2)
        have v0 := zpDg_p (b := b) (f := f) (n := zpTe b L f - f) (fun i hi => (p.2.2.1 (f + i) (by omega) (by omega)).2)
        constructor
        · intro h
          rw [if_pos ⟨hl, hd.1, hd.2, by omega⟩]
          omega
        · intro h
          have hw : 1000 < zpDg b f (zpTe b L f - f) := by
            by_cases hw : 1000 < zpDg b f (zpTe b L f - f)
            · exact hw
            · exact absurd (And.intro (by trivial) hw) h
          rw [if_neg (by omega)]
      · simp only [if_neg hd]
        rw [if_neg (by omega)]
        exact ⟨fun h => absurd h.1 (by decide), fun _ => rfl⟩
  · simp only [if_neg hl]
    rw [if_neg (by omega)]
    exact ⟨fun h => absurd h.1 (by decide), fun _ => rfl⟩
end
section
variable {d : Nat} {Q : Int → z_M → Prop} {V : z_M} {b : Nat → Int} {L f : Nat}
def zqB (V : z_M) (b : Nat → Int) (L : Nat) : Prop := V 141 8 = (L : Int) ∧ L ≤ 400 ∧ (∀ j, j < L → V 146 j = b j ∧ 0 ≤ b j ∧ b j ≤ 255) ∧ ∀ k, k < 9 → V 152 k = zWo k
def zqT (V : z_M) (b : Nat → Int) (L f : Nat) : Prop := V 141 9 = (f : Int) ∧ V 141 10 = ((zpTe b L f : Nat) : Int) ∧ V 141 11 = zpSo b L f ∧ V 141 12 = zpWr b L f ∧ f ≤ L
def zqN (V W : z_M) : Prop := (∀ a, ¬ a = 141 → W a = V a) ∧ ∀ k, (k < 9 ∨ 12 < k) → W 141 k = V 141 k
theorem zqN_r {V : z_M} : zqN V V := ⟨fun _ _ => rfl, fun _ _ => rfl⟩
theorem zqN_t {U V W : z_M} (h : zqN U V) (h2 : zqN V W) : zqN U W := ⟨fun a x => (h2.1 a x).trans (h.1 a x), fun k x => (h2.2 k x).trans (h.2 k x)⟩
theorem zqN_u {V W : z_M} {k : Nat} {v : Int} (h : zqN V W) (hk : 9 ≤ k ∧ k ≤ 12) : zqN V (z_up W 141 k v) := ⟨fun a x => by rw [z_up_cell x]; exact h.1 a x, fun j hj => by rw [zUp_o (by omega)]; exact h.2 j hj⟩
theorem zqB_n {W : z_M} (h : zqB V b L) (hn : zqN V W) : zqB W b L := by
  obtain ⟨h1, h2, h3, h4⟩ := h
  exact ⟨(hn.2 8 (by omega)).trans h1, h2, fun j hj => by rw [hn.1 146 (by decide)]; exact h3 j hj, fun k hk => by rw [hn.1 152 (by decide)]; exact h4 k hk⟩
theorem sp173 {a : Int} (h1 : 97 ≤ a ∧ a ≤ 122 → Q 1 V) (h0 : ¬ (97 ≤ a ∧ a ≤ 122) → Q 0 V) : z_MS (d + 1) 173 true [.inl a] V Q := by
  refine zb173 _ ?_
  by_cases c1 : a < 97
  · rw [if_pos c1]; exact h0 (by omega)
  · rw [if_neg c1]
    by_cases c2 : 122 < a
    · rw [if_pos c2]; exact h0 (by omega)
    · rw [if_neg c2]; exact h1 (by omega)
theorem sp174 {a : Int} (h1 : 48 ≤ a ∧ a ≤ 57 → Q 1 V) (h0 : ¬ (48 ≤ a ∧ a ≤ 57) → Q 0 V) : z_MS (d + 1) 174 true [.inl a] V Q := by
  refine zb174 _ ?_
  by_cases c1 : a < 48
  · rw [if_pos c1]; exact h0 (by omega)
  · rw [if_neg c1]
    by_cases c2 : 57 < a
    · rw [if_pos c2]; exact h0 (by omega)
    · rw [if_neg c2]; exact h1 (by omega)
theorem sp176 {t : Nat} (hB : zqB V b L) (h10 : V 141 10 = (t : Int)) (ht : t ≤ L) (h : ∀ W, zqN V W → zqT W b L (zpSk b L t) → Q 0 W) : z_MS (d + 2) 176 true [.inr (.inr 141)] V Q := by
  have hL := hB.2.1
  have rd : ∀ W, zqN V W → ∀ j : Nat, j < L → W 141 8 = (L : Int) ∧ W 146 j = b j := fun W hW j hj => ⟨(zqB_n hB hW).1, ((zqB_n hB hW).2.2.1 j hj).1⟩
  have r8 : ∀ W, zqN V W → W 141 8 = (L : Int) := fun W hW => (zqB_n hB hW).1
  -- digits
  have lpd : ∀ f, f < L → ¬ (97 ≤ b f ∧ b f ≤ 122) → (48 ≤ b f ∧ b f ≤ 57) → f = zpSk b L t → ∀ (n i : Nat) (W : z_M), f + i + n = zpTe b L f → zqN V W → W 141 9 = (f : Int) → W 141 10 = ((f + i : Nat) : Int) → W 141 11 = 2 → W 141 12 = zpDg b f i → z_Ex (z_MS (d + 1)) 176 Q true 243 [some (.inr (.inr 141))] [] 0 0 W := by
    intro f hl n1 hd hft n
    have p := zpRe_p (b := b) (L := L) (lo := 48) (hi := 57) _ f rfl
    rw [← zpTe_d hl hd] at p
    have pL := p.2.1 (by omega)
    induction n with
    | zero =>
      intro i W e w1 w9 w10 w11 w12
      have ei : f + i = zpTe b L f := by omega
      have fin : Q 0 W := by
        refine h W w1 ?_
        rw [← hft]
        refine ⟨w9, by rw [w10, ei], by rw [w11]; unfold zpSo; rw [if_pos hl, if_neg n1, if_pos hd], ?_, by omega⟩
        rw [w12]
        unfold zpWr
        rw [if_pos hl, if_neg n1, if_pos hd, show zpTe b L f - f = i by omega]
      refine zb176_141_p243 (z_ifp w11 ?_)
      rw [w10, r8 W w1]
      by_cases hq : f + i < L
      · refine z_ifp (by omega) (z_gp (by omega) (z_all ?_))
        rw [Int.toNat_natCast, (rd W w1 (f + i) hq).2]
        exact sp174 (fun q => absurd ⟨by omega, by rw [← ei]; exact q⟩ p.2.2.2) (fun q => z_ifp rfl fin)
      · exact z_ifn (by omega) fin
    | succ n ih =>
      intro i W e w1 w9 w10 w11 w12
      have hq := p.2.2.1 (f + i) (by omega) (by omega)
      have v := zpDg_p (b := b) (f := f) (n := i) (fun j hj => (p.2.2.1 (f + j) (by omega) (by omega)).2)
      refine zb176_141_p243 (z_ifp w11 ?_)
      rw [w10, r8 W w1]
      refine z_ifp (by omega) (z_gp (by omega) (z_all ?_))
      rw [Int.toNat_natCast, (rd W w1 (f + i) hq.1).2]
      refine sp174 (fun q => z_ifn (by decide) ?_) (fun q => absurd hq.2 q)
      rw [z_lcmp_p, w12]
      refine z_ifc (fun q2 => z_all (z_all ?_)) (fun q2 => ?_)
      · refine ih (i + 1) _ (by omega) (zqN_u (zqN_u w1 (by omega)) (by omega)) (by simp (disch := omega) only [zUp_o]; exact w9) ?_ (by simp (disch := omega) only [zUp_o]; exact w11) ?_
        · simp (disch := omega) only [zUp_o, zUp_s]
          rw [w10, z_inc (by omega)]
          rfl
        · simp (disch := omega) only [zUp_o, zUp_s]
          rw [zpDg_s, if_pos q2]
      · rw [w10]
        refine z_gp (by omega) (z_all (z_all (z_all ?_)))
        rw [Int.toNat_natCast, (rd W w1 (f + i) hq.1).2, z_lmul_e (by omega), z_ladd_e (by omega), z_lsub_e (by omega)]
        refine ih (i + 1) _ (by omega) (zqN_u (zqN_u w1 (by omega)) (by omega)) (by simp (disch := omega) only [zUp_o]; exact w9) ?_ (by simp (disch := omega) only [zUp_o]; exact w11) ?_
        · simp (disch := omega) only [zUp_o, zUp_s]
          rw [w10, z_inc (by omega)]
          rfl
        · simp (disch := omega) only [zUp_o, zUp_s]
          rw [zpDg_s, if_neg q2]
  -- letters
  have lpw : ∀ f, f < L → (97 ≤ b f ∧ b f ≤ 122) → f = zpSk b L t → ∀ (n i : Nat) (W : z_M), f + i + n = zpTe b L f → zqN V W → W 141 9 = (f : Int) → W 141 10 = ((f + i : Nat) : Int) → W 141 11 = 1 → W 141 12 = zpEn b f i → z_Ex (z_MS (d + 1)) 176 Q true 149 [some (.inr (.inr 141))] [] 0 0 W := by
    intro f hl hs hft n
    have p := zpRe_p (b := b) (L := L) (lo := 97) (hi := 122) _ f rfl
    rw [← zpTe_w hl hs] at p
    have pL := p.2.1 (by omega)
    induction n with
    | zero =>
      intro i W e w1 w9 w10 w11 w12
      have ei : f + i = zpTe b L f := by omega
      have fin : z_Ex (z_MS (d + 1)) 176 Q true 243 [some (.inr (.inr 141))] [] 0 0 W := by
        refine zb176_141_p243 (z_ifn (by rw [w11]; decide) (h W w1 ?_))
        rw [← hft]
        refine ⟨w9, by rw [w10, ei], by rw [w11]; unfold zpSo; rw [if_pos hl, if_pos hs], ?_, by omega⟩
        rw [w12]
        unfold zpWr
        rw [if_pos hl, if_pos hs, show zpTe b L f - f = i by omega]
      refine zb176_141_p149 (z_ifp w11 ?_)
      rw [w10, r8 W w1]
      by_cases hq : f + i < L
      · refine z_ifp (by omega) (z_gp (by omega) (z_all ?_))
        rw [Int.toNat_natCast, (rd W w1 (f + i) hq).2]
        exact sp173 (fun q => absurd ⟨by omega, by rw [← ei]; exact q⟩ p.2.2.2) (fun q => z_ifp rfl fin)
      · exact z_ifn (by omega) fin
    | succ n ih =>
      intro i W e w1 w9 w10 w11 w12
      have hq := p.2.2.1 (f + i) (by omega) (by omega)
      refine zb176_141_p149 (z_ifp w11 ?_)
      rw [w10, r8 W w1]
      refine z_ifp (by omega) (z_gp (by omega) (z_all ?_))
      rw [Int.toNat_natCast, (rd W w1 (f + i) hq.1).2]
      refine sp173 (fun q => z_ifn (by decide) ?_) (fun q => absurd hq.2 q)
      rw [w10, w9, z_sub_e (by omega)]
      refine z_ifc (fun q2 => ?_) (fun q2 => z_all (z_all ?_))
      · have v := zpEn_p (b := b) (f := f) (n := i) (by omega) (fun j hj => (p.2.2.1 (f + j) (by omega) (by omega)).2)
        have v2 := zpEn_10 (n := i) (by omega)
        refine z_gp (by omega) (z_all (z_all (z_all ?_)))
        rw [Int.toNat_natCast, (rd W w1 (f + i) hq.1).2, w12, z_lmul_e (by omega), z_ladd_e (by omega), z_lsub_e (by omega)]
        refine ih (i + 1) _ (by omega) (zqN_u (zqN_u w1 (by omega)) (by omega)) (by simp (disch := omega) only [zUp_o]; exact w9) ?_ (by simp (disch := omega) only [zUp_o]; exact w11) ?_
        · simp (disch := omega) only [zUp_o, zUp_s]
          rw [w10, z_inc (by omega)]
          rfl
        · simp (disch := omega) only [zUp_o, zUp_s]
          show _ = (if _ then _ else _)
          rw [if_pos (by omega)]
      · refine ih (i + 1) _ (by omega) (zqN_u (zqN_u w1 (by omega)) (by omega)) (by simp (disch := omega) only [zUp_o]; exact w9) ?_ (by simp (disch := omega) only [zUp_o]; exact w11) ?_
        · simp (disch := omega) only [zUp_o, zUp_s]
          rw [w10, z_inc (by omega)]
          rfl
        · simp (disch := omega) only [zUp_o, zUp_s]
          show _ = (if _ then _ else _)
          rw [if_neg (by omega)]
  -- the token's sort
  have srt : ∀ W, zqN V W → W 141 9 = ((zpSk b L t : Nat) : Int) → zpSk b L t ≤ L → (¬ (zpSk b L t < L ∧ b (zpSk b L t) = 32)) → z_Ex (z_MS (d + 1)) 176 Q true 46 [some (.inr (.inr 141))] [] 0 0 W := by
    intro W w1 w9 hf hns
    generalize hff : zpSk b L t = f at w9 hf hns
    refine zb176_141_p46 (z_all (z_all ?_))
    rw [w9]
    have n2 : zqN V (z_up (z_up W 141 10 (f : Int)) 141 12 0) := zqN_u (zqN_u w1 (by omega)) (by omega)
    have e9 : z_up (z_up W 141 10 (f : Int)) 141 12 0 141 9 = (f : Int) := by simp (disch := omega) only [zUp_o]; exact w9
    have e10 : z_up (z_up W 141 10 (f : Int)) 141 12 0 141 10 = (f : Int) := by simp (disch := omega) only [zUp_o, zUp_s]
    have e12 : z_up (z_up W 141 10 (f : Int)) 141 12 0 141 12 = 0 := by simp (disch := omega) only [zUp_s]
    generalize z_up (z_up W 141 10 (f : Int)) 141 12 0 = U at n2 e9 e10 e12 ⊢
    rw [e9, r8 U n2]
    refine z_ifc (fun q => ?_) (fun q => ?_)
    · -- the end
      refine zb176_141_p114 _ (z_all (z_ifn (by rw [zUp_s]; decide) ?_))
      refine zb176_141_p149 (z_ifn (by rw [zUp_s]; decide) (zb176_141_p243 (z_ifn (by rw [zUp_s]; decide) (h _ (zqN_u n2 (by omega)) ?_))))
      have hl : ¬ f < L := by omega
      rw [hff]
      refine ⟨by rw [zUp_o (by omega)]; exact e9, by rw [zUp_o (by omega), e10, zpTe_e hl], by rw [zUp_s]; unfold zpSo; rw [if_neg hl], by rw [zUp_o (by omega), e12]; unfold zpWr; rw [if_neg hl], hf⟩
    · have hl : f < L := by omega
      refine z_gp (by omega) (z_all ?_)
      rw [Int.toNat_natCast, (rd U n2 f hl).2]
      refine sp173 (fun hs => z_ifn (by decide) ?_) (fun hs => z_ifp rfl ?_)
      · refine zb176_141_p114 _ (z_all (z_ifn (by rw [zUp_s]; decide) ?_))
        have te := zpTe_p (b := b) hf
        exact lpw f hl hs hff.symm (zpTe b L f - f) 0 _ (by omega) (zqN_u n2 (by omega)) (by rw [zUp_o (by omega)]; exact e9) (by rw [zUp_o (by omega)]; exact e10) zUp_s (by rw [zUp_o (by omega)]; exact e12)
      · rw [e9]
        refine z_gp (by omega) (z_all ?_)
        rw [Int.toNat_natCast, (rd U n2 f hl).2]
        refine sp174 (fun hd => ?_) (fun hd => ?_)
        · rw [if_neg (by decide)]
          refine zb176_141_p114 _ (z_all (z_ifn (by rw [zUp_s]; decide) (zb176_141_p149 (z_ifn (by rw [zUp_s]; decide) ?_))))
          have te := zpTe_p (b := b) hf
          exact lpd f hl hs hd hff.symm (zpTe b L f - f) 0 _ (by omega) (zqN_u n2 (by omega)) (by rw [zUp_o (by omega)]; exact e9) (by rw [zUp_o (by omega)]; exact e10) zUp_s (by rw [zUp_o (by omega)]; exact e12)
        · rw [if_pos rfl]
          refine zb176_141_p114 _ (z_all (z_ifp zUp_s ?_))
          rw [zUp_o (by omega), e9]
          refine z_gp (by omega) (z_all (z_all (z_all ?_)))
          rw [Int.toNat_natCast, z_up_cell (by decide), (rd U n2 f hl).2]
          simp (disch := omega) only [zUp_o]
          rw [e10, z_inc (by omega)]
          refine zb176_141_p149 (z_ifn (by simp (disch := omega) only [zUp_o, zUp_s]; decide) (zb176_141_p243 (z_ifn (by simp (disch := omega) only [zUp_o, zUp_s]; decide) (h _ (zqN_u (zqN_u (zqN_u n2 (by omega)) (by omega)) (by omega)) ?_))))
          rw [hff]
          refine ⟨by simp (disch := omega) only [zUp_o]; exact e9, by rw [zUp_s, zpTe_s hl hs hd], by simp (disch := omega) only [zUp_o, zUp_s]; unfold zpSo; rw [if_pos hl, if_neg hs, if_neg hd], by simp (disch := omega) only [zUp_o, zUp_s]; unfold zpWr; rw [if_pos hl, if_neg hs, if_neg hd], hf⟩
  -- the spaces
  have lps : ∀ (n f : Nat) (W : z_M), L - f = n → f ≤ L → zpSk b L t = zpRe b L 32 32 f → zqN V W → W 141 9 = (f : Int) → z_Ex (z_MS (d + 1)) 176 Q true 8 [some (.inr (.inr 141))] [] 0 0 W := by
    intro n
    induction n with
    | zero =>
      intro f W e hf hs w1 w9
      rw [zpRe_0 (by omega)] at hs
      refine zb176_141_p8 ?_
      rw [w9, r8 W w1]
      refine z_ifn (by omega) (srt W w1 (by rw [hs]; exact w9) (by omega) (by omega))
    | succ n ih =>
      intro f W e hf hs w1 w9
      refine zb176_141_p8 ?_
      rw [w9, r8 W w1]
      refine z_ifp (by omega) (z_gp (by omega) (z_all ?_))
      rw [Int.toNat_natCast, (rd W w1 f (by omega)).2]
      refine z_ifc (fun q => z_all ?_) (fun q => ?_)
      · rw [zpRe_1 (by omega)] at hs
        exact ih (f + 1) _ (by omega) (by omega) hs (zqN_u w1 (by omega)) (by rw [zUp_s, z_inc (by omega)])
      · rw [zpRe_0 (by omega)] at hs
        refine srt W w1 (by rw [hs]; exact w9) (by omega) ?_
        rw [hs]
        exact fun x => q x.2
  refine zb176_141 (z_all ?_)
  rw [h10]
  exact lps _ t _ rfl ht rfl (zqN_u zqN_r (by omega)) zUp_s
end
