/-! scores are kept -/
def zSx (V : z_M) (c f m : Nat) (S : Int × Int × Int × List Nat) : Prop := V c 2 = S.1 ∧ V c 3 = S.2.1 ∧ V c 4 = S.2.2.1 ∧ (S.1 = -1 ∨ ∀ i, i < m → V f i = (zLf S.2.2.2 i : Int))
def zSm (V : z_M) (m : Nat) (S : Int × Int × Int × List Nat) : Prop := V 141 47 = S.1 ∧ V 141 48 = S.2.1 ∧ V 141 49 = S.2.2.1 ∧ (S.1 = -1 ∨ ∀ i, i < m → V 164 i = (zLf S.2.2.2 i : Int))
section
variable {d : Nat} {Q : Int → z_M → Prop}
theorem sp66_119 {V : z_M} {m : Nat} (h : ∀ W, (∀ a, ¬ a = 119 → W a = V a) → W 119 1 = 1 → zSx W 119 120 m zS0 → Q 0 W) : z_MS (d + 1) 66 true [.inr (.inr 119)] V Q := by
  refine zb66_119 (z_all (z_all (z_all (z_all ?_))))
  exact h _ (fun a x => by rw [z_up_cell x, z_up_cell x, z_up_cell x, z_up_cell x]) rfl ⟨rfl, rfl, rfl, Or.inl rfl⟩
theorem sp68_119 {V : z_M} {m : Nat} {s t : Int} {S : Int × Int × Int × List Nat} {row : List Nat} (hm : m ≤ 7) (hs : 0 ≤ s) (hS : zSx V 119 120 m S) (hrow : ∀ i, i < m → V 121 i = (zLf row i : Int))
    (h : ∀ W, (∀ a, ¬ a = 119 → ¬ a = 120 → W a = V a) → W 119 1 = V 119 1 → zSx W 119 120 m (zWg S s t row) → Q 0 W) : z_MS (d + 1) 68 true [.inr (.inr 119), .inl s, .inl t, .inr (.inr 121)] V Q := by
  obtain ⟨s1, s2, s3, s4⟩ := hS
  have upd : zWg S s t row = (s, t, 1, row) → zI (s = z_cpy (z_up (z_up (z_up V 119 2 s) 119 3 t) 119 4 0) 121 0 120 0 7 119 2) (zI (t = z_cpy (z_up (z_up (z_up V 119 2 s) 119 3 t) 119 4 0) 121 0 120 0 7 119 3) (∀ W, W = z_up (z_cpy (z_up (z_up (z_up V 119 2 s) 119 3 t) 119 4 0) 121 0 120 0 7) 119 4 (z_add (z_cpy (z_up (z_up (z_up V 119 2 s) 119 3 t) 119 4 0) 121 0 120 0 7 119 4) 1) → Q 0 W) (Q 0 (z_cpy (z_up (z_up (z_up V 119 2 s) 119 3 t) 119 4 0) 121 0 120 0 7))) (Q 0 (z_cpy (z_up (z_up (z_up V 119 2 s) 119 3 t) 119 4 0) 121 0 120 0 7)) := by
    intro hw
    rw [hw] at h
    refine z_ifp rfl (z_ifp rfl (z_all ?_))
    refine h _ (fun a x y => by rw [z_up_cell x, z_cpy_cell y, z_up_cell x, z_up_cell x, z_up_cell x]) rfl ⟨rfl, rfl, ?_, Or.inr (fun i hi => ?_)⟩
    · rw [zUp_s]
      show z_add 0 1 = 1
      decide +kernel
    · rw [z_up_cell (by decide), z_cpy_rd, if_pos rfl, if_pos ⟨Nat.zero_le i, by omega⟩, z_up_cell (by decide), z_up_cell (by decide), z_up_cell (by decide), Nat.zero_add, Nat.sub_zero]
      exact hrow i hi
  have keep : ¬ (S.1 < s ∨ (s = S.1 ∧ t < S.2.1)) → ¬ (s = S.1 ∧ t = S.2.1) → Q 0 V := by
    intro a b
    refine h V (fun _ _ _ => rfl) rfl ?_
    unfold zWg
    rw [if_neg a, if_neg b]
    exact ⟨s1, s2, s3, s4⟩
  have inc : ¬ (S.1 < s ∨ (s = S.1 ∧ t < S.2.1)) → (s = S.1 ∧ t = S.2.1) → ∀ W, W = z_up V 119 4 (z_add (V 119 4) 1) → Q 0 W := by
    intro a b W hW
    subst hW
    refine h _ (fun a x y => by rw [z_up_cell x]) rfl ?_
    unfold zWg
    rw [if_neg a, if_pos b]
    refine ⟨s1, s2, ?_, ?_⟩
    · rw [zUp_s, s3]
    · rw [z_up_cell (by decide)]; exact s4
  have big : (S.1 < s ∨ (s = S.1 ∧ t < S.2.1)) → zWg S s t row = (s, t, 1, row) := by
    intro a
    unfold zWg
    rw [if_pos a]
  have hmin : z_min 7 7 = 7 := by decide +kernel
  refine zb68_119_121 _ _ ?_
  rw [hmin, s1, s2]
  refine z_ifc (fun c1 => z_all (z_all (z_all (z_gp (by decide) (z_all (upd (big (Or.inl c1)))))))) (fun c1 => z_ifc (fun c2 => z_ifc (fun c3 => z_all (z_all (z_all (z_gp (by decide) (z_all (upd (big (Or.inr ⟨c2, c3⟩)))))))) (fun c3 => z_ifc (fun c4 => z_ifc (fun c5 => inc (by omega) ⟨c4, c5⟩) (fun c5 => keep (by omega) (by omega))) (fun c4 => keep (by omega) (by omega)))) (fun c2 => z_ifc (fun c4 => absurd c4 c2) (fun c4 => keep (by omega) (by omega))))
theorem sp69_119 {V : z_M} {m : Nat} {a : Int} {S : Int × Int × Int × List Nat} (ha : a < 2147483648) (hm : m ≤ 7) (hS : zSx V 119 120 m S) (hs : ¬ S.1 = -1) (h : Q (if a = 0 then S.1 else if a = 1 then S.2.1 else if a = 2 then S.2.2.1 else if 3 ≤ a ∧ a < 3 + (m : Int) then (zLf S.2.2.2 (a - 3).toNat : Int) else -1) V) : z_MS (d + 1) 69 true [.inr (.inr 119), .inl a, .inl (m : Int)] V Q := by
  obtain ⟨s1, s2, s3, s4⟩ := hS
  refine zb69_119 _ _ ?_
  rw [s1, s2, s3]
  refine z_ifc (fun c => ?_) (fun c => z_ifc (fun c1 => ?_) (fun c1 => z_ifc (fun c2 => ?_) (fun c2 => ?_)))
  · rw [if_pos c] at h; exact h
  · rw [if_neg c, if_pos c1] at h; exact h
  · rw [if_neg c, if_neg c1, if_pos c2] at h; exact h
  · rw [if_neg c, if_neg c1, if_neg c2] at h
    by_cases c3 : 2 < a
    · rw [if_pos c3]
      by_cases c4 : a < 3 + (m : Int)
      · rw [if_pos ⟨by omega, c4⟩] at h
        rw [z_sub_e (by omega), if_pos (by omega), if_pos (by omega)]
        refine z_ifn (by decide) (z_gp (by omega) (z_all ?_))
        rcases s4 with s4 | s4
        · exact absurd s4 hs
        · rw [s4 _ (by omega)]
          exact h
      · rw [if_neg (by omega)] at h
        rw [z_sub_e (by omega), if_neg (by omega)]
        exact z_ifp rfl h
    · rw [if_neg c3]
      rw [if_neg (by omega)] at h
      exact z_ifp rfl h
theorem sp66_123 {V : z_M} {m : Nat} (h : ∀ W, (∀ a, ¬ a = 123 → W a = V a) → W 123 1 = 1 → zSx W 123 124 m zS0 → Q 0 W) : z_MS (d + 1) 66 true [.inr (.inr 123)] V Q := by
  refine zb66_123 (z_all (z_all (z_all (z_all ?_))))
  exact h _ (fun a x => by rw [z_up_cell x, z_up_cell x, z_up_cell x, z_up_cell x]) rfl ⟨rfl, rfl, rfl, Or.inl rfl⟩
theorem sp68_123 {V : z_M} {m : Nat} {s t : Int} {S : Int × Int × Int × List Nat} {row : List Nat} (hm : m ≤ 6) (hs : 0 ≤ s) (hS : zSx V 123 124 m S) (hrow : ∀ i, i < m → V 132 i = (zLf row i : Int))
    (h : ∀ W, (∀ a, ¬ a = 123 → ¬ a = 124 → W a = V a) → W 123 1 = V 123 1 → zSx W 123 124 m (zWg S s t row) → Q 0 W) : z_MS (d + 1) 68 true [.inr (.inr 123), .inl s, .inl t, .inr (.inr 132)] V Q := by
  obtain ⟨s1, s2, s3, s4⟩ := hS
  have upd : zWg S s t row = (s, t, 1, row) → zI (s = z_cpy (z_up (z_up (z_up V 123 2 s) 123 3 t) 123 4 0) 132 0 124 0 6 123 2) (zI (t = z_cpy (z_up (z_up (z_up V 123 2 s) 123 3 t) 123 4 0) 132 0 124 0 6 123 3) (∀ W, W = z_up (z_cpy (z_up (z_up (z_up V 123 2 s) 123 3 t) 123 4 0) 132 0 124 0 6) 123 4 (z_add (z_cpy (z_up (z_up (z_up V 123 2 s) 123 3 t) 123 4 0) 132 0 124 0 6 123 4) 1) → Q 0 W) (Q 0 (z_cpy (z_up (z_up (z_up V 123 2 s) 123 3 t) 123 4 0) 132 0 124 0 6))) (Q 0 (z_cpy (z_up (z_up (z_up V 123 2 s) 123 3 t) 123 4 0) 132 0 124 0 6)) := by
    intro hw
    rw [hw] at h
    refine z_ifp rfl (z_ifp rfl (z_all ?_))
    refine h _ (fun a x y => by rw [z_up_cell x, z_cpy_cell y, z_up_cell x, z_up_cell x, z_up_cell x]) rfl ⟨rfl, rfl, ?_, Or.inr (fun i hi => ?_)⟩
    · rw [zUp_s]
      show z_add 0 1 = 1
      decide +kernel
    · rw [z_up_cell (by decide), z_cpy_rd, if_pos rfl, if_pos ⟨Nat.zero_le i, by omega⟩, z_up_cell (by decide), z_up_cell (by decide), z_up_cell (by decide), Nat.zero_add, Nat.sub_zero]
      exact hrow i hi
  have keep : ¬ (S.1 < s ∨ (s = S.1 ∧ t < S.2.1)) → ¬ (s = S.1 ∧ t = S.2.1) → Q 0 V := by
    intro a b
    refine h V (fun _ _ _ => rfl) rfl ?_
    unfold zWg
    rw [if_neg a, if_neg b]
    exact ⟨s1, s2, s3, s4⟩
  have inc : ¬ (S.1 < s ∨ (s = S.1 ∧ t < S.2.1)) → (s = S.1 ∧ t = S.2.1) → ∀ W, W = z_up V 123 4 (z_add (V 123 4) 1) → Q 0 W := by
    intro a b W hW
    subst hW
    refine h _ (fun a x y => by rw [z_up_cell x]) rfl ?_
    unfold zWg
    rw [if_neg a, if_pos b]
    refine ⟨s1, s2, ?_, ?_⟩
    · rw [zUp_s, s3]
    · rw [z_up_cell (by decide)]; exact s4
  have big : (S.1 < s ∨ (s = S.1 ∧ t < S.2.1)) → zWg S s t row = (s, t, 1, row) := by
    intro a
    unfold zWg
    rw [if_pos a]
  have hmin : z_min 6 7 = 6 := by decide +kernel
  refine zb68_123_132 _ _ ?_
  rw [hmin, s1, s2]
  refine z_ifc (fun c1 => z_all (z_all (z_all (z_gp (by decide) (z_all (upd (big (Or.inl c1)))))))) (fun c1 => z_ifc (fun c2 => z_ifc (fun c3 => z_all (z_all (z_all (z_gp (by decide) (z_all (upd (big (Or.inr ⟨c2, c3⟩)))))))) (fun c3 => z_ifc (fun c4 => z_ifc (fun c5 => inc (by omega) ⟨c4, c5⟩) (fun c5 => keep (by omega) (by omega))) (fun c4 => keep (by omega) (by omega)))) (fun c2 => z_ifc (fun c4 => absurd c4 c2) (fun c4 => keep (by omega) (by omega))))
theorem sp69_123 {V : z_M} {m : Nat} {a : Int} {S : Int × Int × Int × List Nat} (ha : a < 2147483648) (hm : m ≤ 7) (hS : zSx V 123 124 m S) (hs : ¬ S.1 = -1) (h : Q (if a = 0 then S.1 else if a = 1 then S.2.1 else if a = 2 then S.2.2.1 else if 3 ≤ a ∧ a < 3 + (m : Int) then (zLf S.2.2.2 (a - 3).toNat : Int) else -1) V) : z_MS (d + 1) 69 true [.inr (.inr 123), .inl a, .inl (m : Int)] V Q := by
  obtain ⟨s1, s2, s3, s4⟩ := hS
  refine zb69_123 _ _ ?_
  rw [s1, s2, s3]
  refine z_ifc (fun c => ?_) (fun c => z_ifc (fun c1 => ?_) (fun c1 => z_ifc (fun c2 => ?_) (fun c2 => ?_)))
  · rw [if_pos c] at h; exact h
  · rw [if_neg c, if_pos c1] at h; exact h
  · rw [if_neg c, if_neg c1, if_pos c2] at h; exact h
  · rw [if_neg c, if_neg c1, if_neg c2] at h
    by_cases c3 : 2 < a
    · rw [if_pos c3]
      by_cases c4 : a < 3 + (m : Int)
      · rw [if_pos ⟨by omega, c4⟩] at h
        rw [z_sub_e (by omega), if_pos (by omega), if_pos (by omega)]
        refine z_ifn (by decide) (z_gp (by omega) (z_all ?_))
        rcases s4 with s4 | s4
        · exact absurd s4 hs
        · rw [s4 _ (by omega)]
          exact h
      · rw [if_neg (by omega)] at h
        rw [z_sub_e (by omega), if_neg (by omega)]
        exact z_ifp rfl h
    · rw [if_neg c3]
      rw [if_neg (by omega)] at h
      exact z_ifp rfl h
theorem sp232 {V : z_M} {m : Nat} {s t : Int} {S : Int × Int × Int × List Nat} {row : List Nat} (hm : m ≤ 7) (hs : 0 ≤ s) (hr : zSr S) (hS : zSm V m S) (hrow : ∀ i, i < m → V 163 i = (zLf row i : Int))
    (h : ∀ W, zFm 47 49 164 164 V W → zSm W m (zWg S s t row) → Q 0 W) : z_MS (d + 1) 232 true [.inr (.inr 141), .inl s, .inl t, .inl (m : Int)] V Q := by
  obtain ⟨s1, s2, s3, s4⟩ := hS
  have copy : ∀ (U : z_M) (o4 : Option z_V), U 141 47 = s → U 141 48 = t → U 141 49 = 0 → zFm 47 49 164 164 V U → zWg S s t row = (s, t, 1, row) →
      ∀ (k i : Nat) (W : z_M) (o4 : Option z_V), i + k = m → (∀ a, ¬ a = 164 → W a = U a) → (∀ j, j < i → W 164 j = (zLf row j : Int)) → z_Ex (z_MS d) 232 Q true 54 [some (.inr (.inr 141)), some (.inl s), some (.inl t), some (.inl (m : Int)), o4, some (.inl (i : Int))] [] 0 0 W := by
    intro U _ u1 u2 u3 uf hw k
    induction k with
    | zero =>
      intro i W o4 e w1 w2
      have e2 : i = m := by omega
      subst e2
      have e141 : W 141 = U 141 := w1 141 (by decide)
      refine zb232_141_p54 _ _ _ _ _ (z_ifn (by omega) ?_)
      rw [e141, u1, u2, u3]
      refine z_ifp rfl (z_all ?_)
      rw [if_pos rfl]
      rw [hw] at h
      refine h _ (zFm_f ⟨fun a x y => by rw [w1 a (by omega)]; exact uf.1 a x y, fun j hj => by rw [e141]; exact uf.2 j hj⟩ (by omega)) ⟨?_, ?_, ?_, Or.inr (fun j hj => ?_)⟩
      · rw [zUp_o (by omega), e141, u1]
      · rw [zUp_o (by omega), e141, u2]
      · rw [zUp_s]
        show z_add 0 1 = 1
        decide +kernel
      · rw [z_up_cell (by decide)]; exact w2 j hj
    | succ k ih =>
      intro i W o4 e w1 w2
      refine zb232_141_p54 _ _ _ _ _ (z_ifp (by omega) (z_gp (by omega) (z_all (z_gp (by omega) (z_all ?_)))))
      rw [Int.toNat_natCast, z_inc (by omega), w1 163 (by decide), uf.1 163 (by decide) (by omega), hrow i (by omega)]
      refine ih (i + 1) _ _ (by omega) (fun a x => by rw [z_up_cell x]; exact w1 a x) (fun j hj => ?_)
      by_cases ej : j = i
      · subst ej; exact zUp_s
      · rw [zUp_o (by omega)]; exact w2 j (by omega)
  refine zb232_141 _ _ _ ?_
  rw [s1, s2]
  by_cases c : S.1 < s ∨ (s = S.1 ∧ t < S.2.1)
  · refine z_ifn ?_ (z_all (z_all (z_all ?_)))
    · rcases c with c | ⟨c1, c2⟩
      · rw [if_pos c]; decide
      · rw [if_neg (by omega), if_pos c1, if_pos c2]; decide
    · refine copy _ none rfl rfl rfl (zFm_f (zFm_f (zFm_f zFm_r (by omega)) (by omega)) (by omega)) ?_ m 0 _ _ (by omega) (fun _ _ => rfl) (fun j hj => absurd hj (Nat.not_lt_zero j))
      unfold zWg
      rw [if_pos c]
  · refine z_ifp ?_ ?_
    · rw [if_neg (by omega)]
      by_cases c1 : s = S.1
      · rw [if_pos c1, if_neg (by omega)]
      · rw [if_neg c1]
    · unfold zWg at h
      rw [if_neg c] at h
      refine z_ifc (fun c1 => z_all ?_) (fun c1 => z_all ?_)
      · rw [s3]
        by_cases c2 : t = S.2.1
        · rw [if_pos c2]
          rw [if_pos ⟨c1, c2⟩] at h
          refine h _ (zFm_f zFm_r (by omega)) ⟨?_, ?_, ?_, ?_⟩
          · rw [zUp_o (by omega)]; exact s1
          · rw [zUp_o (by omega)]; exact s2
          · rw [zUp_s]
          · rw [z_up_cell (by decide)]; exact s4
        · rw [if_neg c2, z_add_0 hr]
          rw [if_neg (by omega)] at h
          refine h _ (zFm_f zFm_r (by omega)) ⟨?_, ?_, ?_, ?_⟩
          · rw [zUp_o (by omega)]; exact s1
          · rw [zUp_o (by omega)]; exact s2
          · rw [zUp_s]
          · rw [z_up_cell (by decide)]; exact s4
      · rw [s3, z_add_0 hr]
        rw [if_neg (by omega)] at h
        refine h _ (zFm_f zFm_r (by omega)) ⟨?_, ?_, ?_, ?_⟩
        · rw [zUp_o (by omega)]; exact s1
        · rw [zUp_o (by omega)]; exact s2
        · rw [zUp_s]
        · rw [z_up_cell (by decide)]; exact s4
theorem sp229 {V : z_M} {n : Nat} (hn : n ≤ 7) (h : ∀ W, zFm 47 49 163 163 V W → (∀ i, i < n → W 163 i = (i : Int)) → zSm W n zS0 → Q 0 W) : z_MS (d + 1) 229 true [.inr (.inr 141), .inl (n : Int)] V Q := by
  have lp : ∀ (k i : Nat) (W : z_M), i + k = n → (∀ a, ¬ a = 163 → W a = V a) → (∀ j, j < i → W 163 j = (j : Int)) → z_Ex (z_MS d) 229 Q true 2 [some (.inr (.inr 141)), some (.inl (n : Int)), some (.inl (i : Int))] [] 0 0 W := by
    intro k
    induction k with
    | zero =>
      intro i W e w1 w2
      have e2 : i = n := by omega
      subst e2
      refine zb229_141_p2 _ _ (z_ifn (by omega) (z_all (z_all (z_all ?_))))
      refine h _ (zFm_f (zFm_f (zFm_f ⟨fun a x y => w1 a (by omega), fun j hj => by rw [w1 141 (by decide)]⟩ (by omega)) (by omega)) (by omega)) (fun j hj => ?_) ⟨rfl, rfl, rfl, Or.inl rfl⟩
      rw [z_up_cell (by decide), z_up_cell (by decide), z_up_cell (by decide)]
      exact w2 j hj
    | succ k ih =>
      intro i W e w1 w2
      refine zb229_141_p2 _ _ (z_ifp (by omega) (z_gp (by omega) (z_all ?_)))
      rw [Int.toNat_natCast, z_inc (by omega)]
      refine ih (i + 1) _ (by omega) (fun a x => by rw [z_up_cell x]; exact w1 a x) (fun j hj => ?_)
      by_cases ej : j = i
      · subst ej; exact zUp_s
      · rw [zUp_o (by omega)]; exact w2 j (by omega)
  exact zb229_141 _ (lp n 0 V (by omega) (fun _ _ => rfl) (fun j hj => absurd hj (Nat.not_lt_zero j)))
theorem sp231 {V : z_M} {n a b : Nat} {p : Nat → Nat} (hn : n ≤ 7) (ha : a < n) (hb : b < n) (hp : ∀ i, i < n → V 163 i = (p i : Int)) (h : ∀ W, (∀ x, ¬ x = 163 → W x = V x) → (∀ i, i < n → W 163 i = (zSw p a b i : Int)) → Q 0 W) : z_MS (d + 1) 231 true [.inr (.inr 141), .inl (a : Int), .inl (b : Int)] V Q := by
  refine zb231_141 _ _ (z_gp (by omega) (z_all (z_gp (by omega) (z_all (z_gp (by omega) (z_all (z_gp (by omega) (z_all ?_))))))))
  rw [Int.toNat_natCast, Int.toNat_natCast, hp a ha, hp b hb]
  refine h _ (fun x hx => by rw [z_up_cell hx, z_up_cell hx]) (fun i hi => ?_)
  unfold zSw
  by_cases e1 : i = b
  · subst e1
    rw [zUp_s]
    by_cases e2 : i = a
    · subst e2; rw [if_pos rfl]
    · rw [if_neg e2, if_pos rfl]
  · rw [zUp_o (by omega)]
    by_cases e2 : i = a
    · subst e2; rw [zUp_s, if_pos rfl]
    · rw [zUp_o (by omega), if_neg e2, if_neg e1]
      exact hp i hi
theorem lp230r {U : z_M} {n : Nat} (hn : n ≤ 7) {p2 : Nat → Nat} (h : ∀ W, (∀ x, ¬ x = 163 → W x = U x) → (∀ i, i < n → W 163 i = (p2 i : Int)) → Q 1 W) :
    ∀ (f a b : Nat) (p : Nat → Nat) (V : z_M) (o1 o2 o3 : Option z_V), b < n → b ≤ a + 2 * f → (∀ i, i < n → zRv p f a b i = p2 i) → (∀ x, ¬ x = 163 → V x = U x) → (∀ i, i < n → V 163 i = (p i : Int)) → z_Ex (z_MS (d + 1)) 230 Q true 78 [some (.inr (.inr 141)), o1, o2, o3, some (.inl (a : Int)), some (.inl (b : Int))] [] 0 0 V
  | 0, a, b, p, V, o1, o2, o3, hb, hf, he, hV, hp => by
    refine zb230_141_p78 _ _ _ _ _ (z_ifn (by omega) (h V hV (fun i hi => ?_)))
    rw [hp i hi, ← he i hi]
    rfl
  | f + 1, a, b, p, V, o1, o2, o3, hb, hf, he, hV, hp => by
    refine zb230_141_p78 _ _ _ _ _ ?_
    by_cases c : a < b
    · refine z_ifp (by omega) (sp231 hn (by omega) hb hp (fun W w1 w2 => ?_))
      obtain ⟨b', rfl⟩ : ∃ b', b = b' + 1 := ⟨b - 1, by omega⟩
      rw [z_inc (by omega), z_dc1 (by omega)]
      refine lp230r hn h f (a + 1) b' _ W _ _ _ (by omega) (by omega) (fun i hi => ?_) (fun x hx => (w1 x hx).trans (hV x hx)) w2
      have := he i hi
      unfold zRv at this
      rw [if_pos c, Nat.add_sub_cancel] at this
      exact this
    · refine z_ifn (by omega) (h V hV (fun i hi => ?_))
      have := he i hi
      unfold zRv at this
      rw [if_neg c] at this
      rw [hp i hi, this]
theorem sp230 {V : z_M} {n : Nat} {p : Nat → Nat} (hn : n ≤ 7) (hp : ∀ i, i < n → V 163 i = (p i : Int))
    (h0 : zNp n p = none → Q 0 V) (h1 : ∀ p2, zNp n p = some p2 → ∀ W, (∀ x, ¬ x = 163 → W x = V x) → (∀ i, i < n → W 163 i = (p2 i : Int)) → Q 1 W) : z_MS (d + 2) 230 true [.inr (.inr 141), .inl (n : Int)] V Q := by
  -- the place that grows, and the one behind that takes its place
  have third : ∀ k : Nat, zNk p (n - 1) = k + 1 → k + 1 < n → ¬ p (k + 1) < p k → ∀ (m : Nat), k + 1 ≤ m → m < n → zNm p (p k) (n - 1) = zNm p (p k) m → z_Ex (z_MS (d + 1)) 230 Q true 41 [some (.inr (.inr 141)), some (.inl (n : Int)), some (.inl (k : Int)), some (.inl (m : Int)), none, none] [] 0 0 V := by
    intro k hk hkn hup m
    induction m with
    | zero => intro hm; omega
    | succ m ih =>
      intro hm hmn hz
      refine zb230_141_p41 _ _ _ (z_gp (by omega) (z_all (z_gp (by omega) (z_all ?_))))
      rw [Int.toNat_natCast, Int.toNat_natCast, hp _ hmn, hp k (by omega), z_dc1 (by omega)]
      by_cases c : p (m + 1) < p k
      · refine z_ifp (by omega) (ih ?_ (by omega) ?_)
        · by_cases e : m = k
          · subst e; exact absurd c hup
          · omega
        · rw [hz]
          show (if p (m + 1) < p k then zNm p (p k) m else m + 1) = _
          rw [if_pos c]
      · refine z_ifn (by omega) ?_
        have hz2 : zNm p (p k) (n - 1) = m + 1 := by
          rw [hz]
          show (if p (m + 1) < p k then zNm p (p k) m else m + 1) = _
          rw [if_neg c]
        refine sp231 hn (by omega) hmn hp (fun W w1 w2 => ?_)
        have en : z_sub (n : Int) 1 = ((n - 1 : Nat) : Int) := by rw [z_sub_e (by omega)]; omega
        rw [z_inc (by omega), en]
        have hnp : zNp n p = some (zRv (zSw p (zNk p (n - 1) - 1) (zNm p (p (zNk p (n - 1) - 1)) (n - 1))) n (zNk p (n - 1)) (n - 1)) := by
          unfold zNp
          rw [if_neg (by omega)]
        rw [hk, Nat.add_sub_cancel, hz2] at hnp
        exact lp230r hn (h1 _ hnp) n (k + 1) (n - 1) _ W _ _ _ (by omega) (by omega) (fun i _ => rfl) w1 w2
  have first : ∀ (k : Nat), k < n → zNk p (n - 1) = zNk p k → z_Ex (z_MS (d + 1)) 230 Q true 4 [some (.inr (.inr 141)), some (.inl (n : Int)), some (.inl ((k : Int) - 1)), none, none, none] [] 0 0 V := by
    intro k
    induction k with
    | zero =>
      intro _ hz
      refine zb230_141_p4 _ _ (z_ifp (by omega) (z_ifp (by omega) (h0 ?_)))
      unfold zNp
      rw [if_pos (by rw [hz]; rfl)]
    | succ k ih =>
      intro hk hz
      have e1 : ((k + 1 : Nat) : Int) - 1 = (k : Int) := by omega
      rw [e1]
      refine zb230_141_p4 _ _ (z_ifn (by omega) (z_gp (by omega) (z_all ?_)))
      rw [z_inc (by omega)]
      refine z_gp (by omega) (z_all ?_)
      rw [Int.toNat_natCast, Int.toNat_natCast, hp k (by omega), hp (k + 1) hk]
      have hz3 : zNk p (k + 1) = if p (k + 1) < p k then zNk p k else k + 1 := rfl
      by_cases c : p (k + 1) < p k
      · refine z_ifp (by omega) ?_
        rw [z_add_e (by omega)]
        exact ih (by omega) (by rw [hz, hz3, if_pos c])
      · refine z_ifn (by omega) (z_ifn (by omega) ?_)
        have en : z_sub (n : Int) 1 = ((n - 1 : Nat) : Int) := by rw [z_sub_e (by omega)]; omega
        rw [en]
        exact third k (by rw [hz, hz3, if_neg c]) hk c (n - 1) (by omega) (by omega) rfl
  refine zb230_141 _ ?_
  rw [z_sub_e (by omega)]
  by_cases e : n = 0
  · subst e
    refine zb230_141_p4 _ _ (z_ifp (by omega) (z_ifp (by omega) (h0 rfl)))
  · have := first (n - 1) (by omega) rfl
    rw [show ((n - 1 : Nat) : Int) - 1 = (n : Int) - 2 by omega] at this
    exact this
end
