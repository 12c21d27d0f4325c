/-! sorting -/
def zMb (th run : Nat → Int) (t : Nat) : Nat → Int
  | 0 => 0
  | k + 1 => if t < k ∧ th k ≤ th t ∧ zMb th run t k < run k then run k else zMb th run t k
def zMx (run : Nat → Int) (n : Nat) : Nat → Int
  | 0 => 0
  | j + 1 => if zMx run n j < run (n - 1 - j) then run (n - 1 - j) else zMx run n j
/-- from t on: how many can stay at most, t among them -/
def zRn (th run : Nat → Int) (n j : Nat) : Prop := ∀ t, n - j ≤ t → t < n → run t = 1 + zMb th run t n
theorem zMb_c {th r1 r2 : Nat → Int} {t : Nat} : ∀ {k : Nat}, (∀ u, t < u → u < k → r1 u = r2 u) → zMb th r1 t k = zMb th r2 t k
  | 0, _ => rfl
  | k + 1, h => by
    unfold zMb
    rw [zMb_c (fun u hu hk => h u hu (by omega))]
    by_cases c : t < k
    · rw [h k c (by omega)]
    · rw [if_neg (fun q => c q.1), if_neg (fun q => c q.1)]
theorem zMb_0 {th run : Nat → Int} {t : Nat} : ∀ {k : Nat}, k ≤ t + 1 → zMb th run t k = 0
  | 0, _ => rfl
  | k + 1, h => by
    unfold zMb
    rw [if_neg (by omega)]
    exact zMb_0 (by omega)
theorem zRn_u {th r1 r2 : Nat → Int} {n : Nat} (h1 : zRn th r1 n n) (h2 : zRn th r2 n n) : ∀ (m t : Nat), n - t ≤ m → t < n → r1 t = r2 t
  | 0, t, hm, ht => by omega
  | m + 1, t, hm, ht => by
    rw [h1 t (by omega) ht, h2 t (by omega) ht, zMb_c (fun u hu hk => zRn_u h1 h2 m u (by omega) hk)]
theorem zMb_b {th run : Nat → Int} {n t : Nat} (h : ∀ u, t < u → u < n → 1 ≤ run u ∧ run u ≤ (n : Int) - u) : ∀ k, k ≤ n → 0 ≤ zMb th run t k ∧ (t < n → zMb th run t k ≤ (n : Int) - t - 1)
  | 0, _ => ⟨Int.le_refl 0, fun _ => by show (0 : Int) ≤ _; omega⟩
  | k + 1, hk => by
    have h1 := zMb_b (th := th) (run := run) (n := n) (t := t) h k (by omega)
    unfold zMb
    split
    · rename_i c
      have := h k c.1 (by omega)
      exact ⟨by omega, fun _ => by omega⟩
    · exact h1
/-- the best of what stands behind is one of them -/
theorem zMb_e {th run : Nat → Int} {t : Nat} : ∀ {k : Nat}, zMb th run t k = 0 ∨ ∃ u, t < u ∧ u < k ∧ th u ≤ th t ∧ run u = zMb th run t k
  | 0 => Or.inl rfl
  | k + 1 => by
    unfold zMb
    split
    · rename_i c
      exact Or.inr ⟨k, c.1, by omega, c.2.1, rfl⟩
    · rcases zMb_e (th := th) (run := run) (t := t) (k := k) with h | ⟨u, h1, h2, h3, h4⟩
      · exact Or.inl h
      · exact Or.inr ⟨u, h1, by omega, h3, h4⟩
theorem zMx_e {run : Nat → Int} {n : Nat} : ∀ {j : Nat}, j ≤ n → zMx run n j = 0 ∨ ∃ u, u < n ∧ run u = zMx run n j
  | 0, _ => Or.inl rfl
  | j + 1, h => by
    unfold zMx
    split
    · exact Or.inr ⟨n - 1 - j, by omega, rfl⟩
    · exact zMx_e (by omega)
theorem zMx_c {r1 r2 : Nat → Int} {n : Nat} : ∀ {j : Nat}, j ≤ n → (∀ u, n - j ≤ u → u < n → r1 u = r2 u) → zMx r1 n j = zMx r2 n j
  | 0, _, _ => rfl
  | j + 1, hj, h => by
    unfold zMx
    rw [zMx_c (by omega) (fun u hu hk => h u (by omega) hk), h (n - 1 - j) (by omega) (by omega)]
section
variable {d : Nat} {Q : Int → z_M → Prop}
theorem sp89 {V : z_M} {ρ : Nat → Int} {Λ : Nat → (Nat → Int) → Int} {n a b : Nat} (hT : zT 37 ρ V Λ) (hn : ρ 0 = (n : Int)) (ha : a < n) (hb : b < n) (h : Q (if zTH ρ b ≤ zTH ρ a then 1 else 0) V) : z_MS (d + 3) 89 true [.inr (.inr 37), .inl (a : Int), .inl (b : Int)] V Q := by
  have a0 := zT_0 hT
  have pa := zT_t hT (t := a) (by omega)
  have pb := zT_t hT (t := b) (by omega)
  have h1 : V 39 a = zTH ρ a := pa.1
  have h2 : V 39 b = zTH ρ b := pb.1
  refine zb89_37 _ _ (sp75 (d := d) (by omega) (fun _ => z_ifn (by decide) (sp75 (d := d) (by omega) (fun _ => z_ifn (by decide) ?_) (fun h => absurd (by omega) h))) (fun h => absurd (by omega) h))
  refine z_gp (by omega) (z_all (z_gp (by omega) (z_all ?_)))
  rw [Int.toNat_natCast, Int.toNat_natCast, h1, h2]
  by_cases c : zTH ρ b ≤ zTH ρ a
  · rw [if_neg (by omega)]; rw [if_pos c] at h; exact h
  · rw [if_pos (by omega)]; rw [if_neg c] at h; exact h
theorem z_max_e {a b : Int} : z_max a b = if a < b then b else a := rfl
theorem sp143 {V : z_M} {ρ : Nat → Int} {Λ : Nat → (Nat → Int) → Int} {n : Nat} (hT : zT 37 ρ V Λ) (hn : ρ 0 = (n : Int))
    (h : ∀ W run, (∀ a, ¬ a = 139 → W a = V a) → (∀ t, t < n → W 139 t = run t) → zRn (zTH ρ) run n n → (∀ t, t < n → 1 ≤ run t ∧ run t ≤ (n : Int) - t) → Q (zMx run n n) W) : z_MS (d + 4) 143 true [.inr (.inr 36)] V Q := by
  have a0 := zT_0 hT
  have lp : ∀ (k j : Nat) (W : z_M) (run : Nat → Int) (o3 o4 : Option z_V), j + k = n → (∀ a, ¬ a = 139 → W a = V a) → (∀ t, n - j ≤ t → t < n → W 139 t = run t) → zRn (zTH ρ) run n j → (∀ t, n - j ≤ t → t < n → 1 ≤ run t ∧ run t ≤ (n : Int) - t) → (0 ≤ zMx run n j ∧ zMx run n j ≤ n) → z_Ex (z_MS (d + 3)) 143 Q true 12 [some (.inr (.inr 36)), some (.inl (zMx run n j)), some (.inl ((n : Int) - j - 1)), o3, o4] [] 0 0 W := by
    intro k
    induction k with
    | zero =>
      intro j W run o3 o4 e w1 w2 w3 w4 w5
      have e2 : j = n := by omega
      subst e2
      exact zb143_36_p12 _ _ _ _ (z_ifp (by omega) (h W run w1 (fun t ht => w2 t (by omega) ht) w3 (fun t ht => w4 t (by omega) ht)))
    | succ k ih =>
      intro j W run o3 o4 e w1 w2 w3 w4 w5
      have hTW : zT 37 ρ W Λ := zT_c hT (w1 0 (by decide)) (fun a x y => w1 a (by omega)) (fun a x => w1 a (by omega))
      have e37 : W 37 = V 37 := w1 37 (by decide)
      have et : (n : Int) - j - 1 = ((n - 1 - j : Nat) : Int) := by omega
      refine zb143_36_p12 _ _ _ _ (z_ifn (by omega) ?_)
      rw [et, z_inc (by omega)]
      have hmb := zMb_b (th := zTH ρ) (run := run) (n := n) (t := n - 1 - j) (fun u hu hk => w4 u (by omega) hk)
      have inner : ∀ (k2 i2 : Nat), i2 + k2 = n → n - 1 - j < i2 → z_Ex (z_MS (d + 3)) 143 Q true 23 [some (.inr (.inr 36)), some (.inl (zMx run n j)), some (.inl ((n - 1 - j : Nat) : Int)), some (.inl (zMb (zTH ρ) run (n - 1 - j) i2)), some (.inl (i2 : Int))] [] 0 0 W := by
        intro k2
        induction k2 with
        | zero =>
          intro i2 e2 hi
          have e3 : i2 = n := by omega
          subst e3
          have hb := hmb i2 (Nat.le_refl i2)
          have hb2 := hb.2 (by omega)
          refine zb143_36_p23 _ _ _ _ (z_ifn (by rw [e37]; omega) (z_gp (by omega) (z_all ?_)))
          rw [Int.toNat_natCast, z_add_e (by omega), z_add_e (by omega), z_max_e]
          -- the new row of runs
          obtain ⟨run2, hr0, hr⟩ : ∃ run2 : Nat → Int, run2 (i2 - 1 - j) = 1 + zMb (zTH ρ) run (i2 - 1 - j) i2 ∧ ∀ u, ¬ u = i2 - 1 - j → run2 u = run u := ⟨fun u => if u = i2 - 1 - j then 1 + zMb (zTH ρ) run (i2 - 1 - j) i2 else run u, if_pos rfl, fun u hu => if_neg hu⟩
          have hmo := zMx_c (r1 := run2) (r2 := run) (n := i2) (j := j) (by omega) (fun u hu hk => hr u (by omega))
          have hmo2 : zMx run2 i2 (j + 1) = if zMx run i2 j < zMb (zTH ρ) run (i2 - 1 - j) i2 + 1 then zMb (zTH ρ) run (i2 - 1 - j) i2 + 1 else zMx run i2 j := by
            show (if zMx _ i2 j < _ then _ else _) = _
            rw [hmo, hr0, Int.add_comm]
          have := ih (j + 1) (z_up W 139 (i2 - 1 - j) (zMb (zTH ρ) run (i2 - 1 - j) i2 + 1)) run2 (some (.inl (zMb (zTH ρ) run (i2 - 1 - j) i2))) (some (.inl (i2 : Int))) (by omega) (fun a ha => by rw [z_up_cell ha]; exact w1 a ha) (fun t h1 h2 => ?_) (fun t h1 h2 => ?_) (fun t h1 h2 => ?_) ?_
          · rw [hmo2] at this
            rw [show ((i2 - 1 - j : Nat) : Int) + -1 = (i2 : Int) - ((j + 1 : Nat) : Int) - 1 by omega]
            exact this
          · by_cases eq : t = i2 - 1 - j
            · subst eq; rw [zUp_s, hr0, Int.add_comm]
            · rw [zUp_o (by omega), hr t eq]; exact w2 t (by omega) h2
          · by_cases eq : t = i2 - 1 - j
            · subst eq
              rw [hr0, zMb_c (fun u hu hk => hr u (by omega))]
            · rw [hr t eq, w3 t (by omega) h2, zMb_c (fun u hu hk => hr u (by omega))]
          · by_cases eq : t = i2 - 1 - j
            · subst eq; rw [hr0]; omega
            · rw [hr t eq]; exact w4 t (by omega) h2
          · rw [hmo2]; split <;> omega
        | succ k2 ih2 =>
          intro i2 e2 hi
          have hb := hmb i2 (by omega)
          have hb2 := hb.2 (by omega)
          have hw4 := w4 i2 (by omega) (by omega)
          have hm : zMb (zTH ρ) run (n - 1 - j) (i2 + 1) = if n - 1 - j < i2 ∧ zTH ρ i2 ≤ zTH ρ (n - 1 - j) ∧ zMb (zTH ρ) run (n - 1 - j) i2 < run i2 then run i2 else zMb (zTH ρ) run (n - 1 - j) i2 := rfl
          have nx := ih2 (i2 + 1) (by omega) (by omega)
          refine zb143_36_p23 _ _ _ _ (z_ifp (by rw [e37]; omega) (sp89 (d := d) hTW hn (by omega) (by omega) ?_))
          rw [z_inc (by omega)]
          by_cases c : zTH ρ i2 ≤ zTH ρ (n - 1 - j)
          · rw [if_pos c]
            refine z_ifn (by decide) (z_gp (by omega) (z_all ?_))
            rw [Int.toNat_natCast, w2 i2 (by omega) (by omega), z_max_e]
            by_cases c2 : zMb (zTH ρ) run (n - 1 - j) i2 < run i2
            · rw [hm, if_pos ⟨hi, c, c2⟩] at nx
              rw [if_pos c2]; exact nx
            · rw [hm, if_neg (fun q => c2 q.2.2)] at nx
              rw [if_neg c2]; exact nx
          · rw [if_neg c]
            rw [hm, if_neg (fun q => c q.2.1)] at nx
            exact z_ifp rfl nx
      have h0 := inner (j) (n - 1 - j + 1) (by omega) (by omega)
      rw [zMb_0 (Nat.le_refl _)] at h0
      exact h0
  refine zb143_36 ?_
  rw [show V 37 7 = (n : Int) by omega, z_sub_e (by omega)]
  have := lp n 0 V (fun _ => 0) none none (by omega) (fun _ _ => rfl) (fun t h1 h2 => by omega) (fun t h1 h2 => by omega) (fun t h1 h2 => by omega) ⟨Int.le_refl 0, by show (0 : Int) ≤ _; omega⟩
  rw [show (n : Int) - ((0 : Nat) : Int) - 1 = (n : Int) - 1 by omega] at this
  exact this
theorem sp239 {V V0 : z_M} {b0 : Nat} {ρ : Nat → Int} {Λ : Nat → (Nat → Int) → Int} {n : Nat} (hT : zT b0 ρ V0 Λ) (h143 : V 143 = ρ) (hn : ρ 0 = (n : Int))
    (h : ∀ W run, (∀ a, ¬ a = 167 → W a = V a) → (∀ t, t < n → W 167 t = run t) → zRn (zTH ρ) run n n → (∀ t, t < n → 1 ≤ run t ∧ run t ≤ (n : Int) - t) → Q (zMx run n n) W) : z_MS (d + 3) 239 true [.inr (.inr 141)] V Q := by
  have a0 := zT_0 hT
  have lp : ∀ (k j : Nat) (W : z_M) (run : Nat → Int) (o3 o4 : Option z_V), j + k = n → (∀ a, ¬ a = 167 → W a = V a) → (∀ t, n - j ≤ t → t < n → W 167 t = run t) → zRn (zTH ρ) run n j → (∀ t, n - j ≤ t → t < n → 1 ≤ run t ∧ run t ≤ (n : Int) - t) → (0 ≤ zMx run n j ∧ zMx run n j ≤ n) → z_Ex (z_MS (d + 2)) 239 Q true 9 [some (.inr (.inr 141)), some (.inl (zMx run n j)), some (.inl ((n : Int) - j - 1)), o3, o4] [] 0 0 W := by
    intro k
    induction k with
    | zero =>
      intro j W run o3 o4 e w1 w2 w3 w4 w5
      have e2 : j = n := by omega
      subst e2
      exact zb239_141_p9 _ _ _ _ (z_ifp (by omega) (h W run w1 (fun t ht => w2 t (by omega) ht) w3 (fun t ht => w4 t (by omega) ht)))
    | succ k ih =>
      intro j W run o3 o4 e w1 w2 w3 w4 w5
      have et : (n : Int) - j - 1 = ((n - 1 - j : Nat) : Int) := by omega
      refine zb239_141_p9 _ _ _ _ (z_ifn (by omega) ?_)
      rw [et]
      refine z_gp (by omega) (z_all ?_)
      rw [Int.toNat_natCast, z_inc (by omega)]
      have hmb := zMb_b (th := zTH ρ) (run := run) (n := n) (t := n - 1 - j) (fun u hu hk => w4 u (by omega) hk)
      have inner : ∀ (k2 i2 : Nat) (X : z_M) (o4 : Option z_V), i2 + k2 = n → n - 1 - j < i2 → (∀ a, ¬ a = 167 → X a = V a) → (∀ t, ¬ t = n - 1 - j → X 167 t = W 167 t) → X 167 (n - 1 - j) = zMb (zTH ρ) run (n - 1 - j) i2 + 1 → z_Ex (z_MS (d + 2)) 239 Q true 24 [some (.inr (.inr 141)), some (.inl (zMx run n j)), some (.inl ((n - 1 - j : Nat) : Int)), some (.inl (i2 : Int)), o4] [] 0 0 X := by
        intro k2
        induction k2 with
        | zero =>
          intro i2 X o4 e2 hi x1 x2 x3
          have e3 : i2 = n := by omega
          subst e3
          have hb := hmb i2 (Nat.le_refl i2)
          have hb2 := hb.2 (by omega)
          refine zb239_141_p24 _ _ _ _ (sp154 (d := d + 1) ?_)
          rw [x1 143 (by decide), h143, hn]
          refine z_ifn (by omega) (z_gp (by omega) (z_all ?_))
          rw [Int.toNat_natCast, x3, z_add_e (by omega)]
          obtain ⟨run2, hr0, hr⟩ : ∃ run2 : Nat → Int, run2 (i2 - 1 - j) = 1 + zMb (zTH ρ) run (i2 - 1 - j) i2 ∧ ∀ u, ¬ u = i2 - 1 - j → run2 u = run u := ⟨fun u => if u = i2 - 1 - j then 1 + zMb (zTH ρ) run (i2 - 1 - j) i2 else run u, if_pos rfl, fun u hu => if_neg hu⟩
          have hmo := zMx_c (r1 := run2) (r2 := run) (n := i2) (j := j) (by omega) (fun u hu hk => hr u (by omega))
          have hmo2 : zMx run2 i2 (j + 1) = if zMx run i2 j < zMb (zTH ρ) run (i2 - 1 - j) i2 + 1 then zMb (zTH ρ) run (i2 - 1 - j) i2 + 1 else zMx run i2 j := by
            show (if zMx _ i2 j < _ then _ else _) = _
            rw [hmo, hr0, Int.add_comm]
          have nx := ih (j + 1) X run2 (some (.inl (i2 : Int))) o4 (by omega) x1 (fun t h1 h2 => by
            by_cases eq : t = i2 - 1 - j
            · subst eq; rw [x3, hr0, Int.add_comm]
            · rw [x2 t eq, hr t eq]; exact w2 t (by omega) h2) (fun t h1 h2 => by
            by_cases eq : t = i2 - 1 - j
            · subst eq
              rw [hr0, zMb_c (fun u hu hk => hr u (by omega))]
            · rw [hr t eq, w3 t (by omega) h2, zMb_c (fun u hu hk => hr u (by omega))]) (fun t h1 h2 => by
            by_cases eq : t = i2 - 1 - j
            · subst eq; rw [hr0]; omega
            · rw [hr t eq]; exact w4 t (by omega) h2) (by rw [hmo2]; split <;> omega)
          rw [hmo2] at nx
          rw [show ((i2 - 1 - j : Nat) : Int) + -1 = (i2 : Int) - ((j + 1 : Nat) : Int) - 1 by omega]
          refine z_ifc (fun c => z_gp (by omega) (z_all ?_)) (fun c => ?_)
          · rw [if_pos c] at nx
            exact nx
          · rw [if_neg c] at nx
            exact nx
        | succ k2 ih2 =>
          intro i2 X o4 e2 hi x1 x2 x3
          have hb := hmb i2 (by omega)
          have hb2 := hb.2 (by omega)
          have hw4 := w4 i2 (by omega) (by omega)
          have hm : zMb (zTH ρ) run (n - 1 - j) (i2 + 1) = if n - 1 - j < i2 ∧ zTH ρ i2 ≤ zTH ρ (n - 1 - j) ∧ zMb (zTH ρ) run (n - 1 - j) i2 < run i2 then run i2 else zMb (zTH ρ) run (n - 1 - j) i2 := rfl
          have x4 : X 167 i2 = run i2 := by rw [x2 i2 (by omega)]; exact w2 i2 (by omega) (by omega)
          have e143 : X 143 = ρ := by rw [x1 143 (by decide), h143]
          refine zb239_141_p24 _ _ _ _ (sp154 (d := d + 1) ?_)
          rw [e143, hn]
          refine z_ifp (by omega) (sp157 (d := d + 1) (w := 0) (by omega) (by omega) (sp157 (d := d + 1) (w := 0) (by omega) (by omega) ?_))
          rw [e143, show 8 + 4 * i2 + 0 = 8 + 4 * i2 by omega, show 8 + 4 * (n - 1 - j) + 0 = 8 + 4 * (n - 1 - j) by omega]
          -- what is written at last
          have wr : ∀ (v : Int) (o4 : Option z_V), v = zMb (zTH ρ) run (n - 1 - j) (i2 + 1) + 1 → z_Ex (z_MS (d + 2)) 239 Q true 98 [some (.inr (.inr 141)), some (.inl (zMx run n j)), some (.inl ((n - 1 - j : Nat) : Int)), some (.inl (i2 : Int)), o4] [.inl v, .inl ((n - 1 - j : Nat) : Int), .inr (.inr 167)] 0 0 X := by
            intro v o4 hv
            refine zb239_141_p98 _ _ _ _ _ _ (z_gp (by omega) (z_all ?_))
            rw [Int.toNat_natCast, z_inc (by omega)]
            refine ih2 (i2 + 1) _ o4 (by omega) (by omega) (fun a ha => by rw [z_up_cell ha]; exact x1 a ha) (fun t ht => by rw [zUp_o (by omega)]; exact x2 t ht) (by rw [zUp_s, hv])
          have same : zMb (zTH ρ) run (n - 1 - j) (i2 + 1) = zMb (zTH ρ) run (n - 1 - j) i2 → ∀ o4 : Option z_V, z_Ex (z_MS (d + 2)) 239 Q true 92 [some (.inr (.inr 141)), some (.inl (zMx run n j)), some (.inl ((n - 1 - j : Nat) : Int)), some (.inl (i2 : Int)), o4] [.inl ((n - 1 - j : Nat) : Int), .inr (.inr 167)] 0 0 X := by
            intro hs o4
            refine zb239_141_p92 _ _ _ _ _ (z_gp (by omega) (z_all ?_))
            rw [Int.toNat_natCast, x3]
            exact wr _ _ (by rw [hs])
          have hc1 : zTH ρ i2 = ρ (8 + 4 * i2) := rfl
          have hc2 : zTH ρ (n - 1 - j) = ρ (8 + 4 * (n - 1 - j)) := rfl
          refine zb239_141_p52 _ _ _ _ _ (z_ifc (fun c => same ?_ _) (fun c => z_gp (by omega) (z_all (z_gp (by omega) (z_all ?_)))))
          · rw [hm, if_neg]
            rintro ⟨_, q, _⟩
            rw [if_neg (by omega)] at c
            exact absurd c (by decide)
          · have hle : zTH ρ i2 ≤ zTH ρ (n - 1 - j) := by
              by_cases q : ρ (8 + 4 * (n - 1 - j)) < ρ (8 + 4 * i2)
              · rw [if_pos q] at c; exact absurd rfl c
              · omega
            rw [Int.toNat_natCast, Int.toNat_natCast, x3, x4, z_add_e (by omega)]
            refine z_ifc (fun c2 => z_gp (by omega) (z_all ?_)) (fun c2 => same ?_ _)
            · rw [z_add_e (by omega)]
              exact wr _ _ (by rw [hm, if_pos ⟨hi, hle, by omega⟩])
            · rw [hm, if_neg (fun q => c2 (by omega))]
      refine inner j (n - 1 - j + 1) _ o4 (by omega) (by omega) (fun a ha => by rw [z_up_cell ha]; exact w1 a ha) (fun t ht => by rw [zUp_o (by omega)]) ?_
      rw [zUp_s, zMb_0 (Nat.le_refl _)]
      rfl
  refine zb239_141 (sp154 (d := d + 1) ?_)
  rw [h143, hn, z_sub_e (by omega)]
  have := lp n 0 V (fun _ => 0) none none (by omega) (fun _ _ => rfl) (fun t h1 h2 => by omega) (fun t h1 h2 => by omega) (fun t h1 h2 => by omega) ⟨Int.le_refl 0, by show (0 : Int) ≤ _; omega⟩
  rw [show (n : Int) - ((0 : Nat) : Int) - 1 = (n : Int) - 1 by omega] at this
  exact this
end
