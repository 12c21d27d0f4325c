/-! the way: the class and the reference -/
section
variable {d : Nat} {Q : Int → z_M → Prop}
theorem zLa_13 {n p k : Nat} {adj : Nat → Nat → Bool} {op : Nat → Bool} (hn : n ≤ 12) (hp : p ≤ n) (h : zLa (n + 1) adj op 0 k p = true) : k < 13 := by
  by_cases e : k < 13
  · exact e
  · rw [zLa_N (by omega) (by omega) (by omega)] at h
    exact absurd h (by decide)
/-- the class keeps in a layer only what leads on -/
theorem lp57p {U : z_M} {n r gl D k : Nat} {adj : Nat → Nat → Bool} {op : Nat → Bool} (h8 : U 97 8 = (n : Int)) (hn : n ≤ 12) (hr : r < 6) (hgl : gl ≤ n) (ha : ∀ q, q ≤ n → zBS (U (101 + r) q) (adj q)) (hhi : ∀ q p, n < p → adj q p = false) (hD : zLa (n + 1) adj op 0 D gl = true) (hD13 : D < 13) (hk : k < D) (h1 : zBS (U 114 k) (zLa (n + 1) adj op 0 k)) (h2 : zBS (U 114 (k + 1)) (zKp (n + 1) adj op D gl (k + 1))) (hlt : ∀ p, n < p → zLa (n + 1) adj op 0 k p = false)
    (h : ∀ z o2 o5, zBS z (zKp (n + 1) adj op D gl k) → z_Ex (z_MS d) 57 Q true 4 [some (.inr (.inr 97)), some (.inl (r : Int)), o2, some (.inl (z_add (k : Int) (-1))), some (.inl z), o5] [] 0 0 (z_up U 114 k z)) :
    ∀ (m j : Nat) (z : Int) (o2 : Option z_V), j + m = n + 1 → zBS z (fun p => decide (p < j) && zKp (n + 1) adj op D gl k p) → z_Ex (z_MS d) 57 Q true 14 [some (.inr (.inr 97)), some (.inl (r : Int)), o2, some (.inl (k : Int)), some (.inl z), some (.inl (j : Int))] [] 0 0 U
  | 0, j, z, o2, e, hz => by
    have e2 : j = n + 1 := by omega
    subst e2
    refine zb57_97_p14 _ _ _ _ _ (z_ifp (by omega) (z_gp (by omega) (z_all ?_)))
    rw [Int.toNat_natCast]
    refine h z _ _ (zBS_all hz (fun p hp => ?_))
    unfold zKp
    rw [hlt p hp]
    rfl
  | m + 1, j, z, o2, e, hz => by
    refine zb57_97_p14 _ _ _ _ _ (z_ifn (by omega) (z_gp (by omega) (z_all ?_)))
    rw [Int.toNat_natCast, zBS_bit h1 (by omega), z_inc (by omega), z_inc (by omega)]
    have hks := zKp_s (show gl < n + 1 by omega) hD hk (show j < n + 1 by omega)
    have skip : zKp (n + 1) adj op D gl k j = false → z_Ex (z_MS d) 57 Q true 14 [some (.inr (.inr 97)), some (.inl (r : Int)), o2, some (.inl (k : Int)), some (.inl z), some (.inl ((j + 1 : Nat) : Int))] [] 0 0 U :=
      fun hf => lp57p h8 hn hr hgl ha hhi hD hD13 hk h1 h2 hlt h m (j + 1) z o2 (by omega) (zBS_ex0 hz hf)
    cases hb : zLa (n + 1) adj op 0 k j with
    | false =>
      refine z_ifp rfl (skip ?_)
      rw [hks, hb]
      rfl
    | true =>
      refine z_ifn (by decide) (z_gp (by omega) (z_all ?_))
      rw [Int.toNat_natCast, zr100 hr, (zk100 (V := U) hr).2.2]
      refine z_gp (zk100 (V := U) hr).1 (z_gp (by omega) (z_all (z_gp (by omega) (z_all ?_))))
      rw [Int.toNat_natCast, Int.toNat_natCast]
      have hand := zBS_and (ha j (by omega)) h2
      refine z_ifc (fun c => skip ?_) (fun c => ?_)
      · rw [hks, hb, Bool.true_and, zAny_f]
        intro q _
        exact (zBS_z hand).mp c q
      · refine lp57p h8 hn hr hgl ha hhi hD hD13 hk h1 h2 hlt h m (j + 1) _ o2 (by omega) (zBS_ex1 hz ?_ (by omega))
        rw [hks, hb, Bool.true_and]
        cases hc : zAny (n + 1) (fun q => adj j q && zKp (n + 1) adj op D gl (k + 1) q) with
        | true => rfl
        | false =>
          refine absurd ((zBS_z hand).mpr (fun q => ?_)) c
          by_cases hq : q < n + 1
          · exact (zAny_f.mp hc) q hq
          · rw [hhi j q (by omega)]; rfl
theorem lp57 {U : z_M} {n r gl D : Nat} {adj : Nat → Nat → Bool} {op : Nat → Bool} (h8 : U 97 8 = (n : Int)) (hn : n ≤ 12) (hr : r < 6) (hgl : gl ≤ n) (ha : ∀ q, q ≤ n → zBS (U (101 + r) q) (adj q)) (hhi : ∀ q p, n < p → adj q p = false) (hop : ∀ p, n < p → op p = false) (hD : zLa (n + 1) adj op 0 D gl = true) (hD13 : D < 13)
    (h : ∀ W, (∀ a, ¬ a = 114 → W a = U a) → (∀ k, 1 ≤ k → k ≤ D → zBS (W 114 k) (zKp (n + 1) adj op D gl k)) → Q 0 W) :
    ∀ (k : Nat) (V : z_M) (o2 o4 o5 : Option z_V), k < D → (∀ a, ¬ a = 114 → V a = U a) → (∀ j, j ≤ k → zBS (V 114 j) (zLa (n + 1) adj op 0 j)) → (∀ j, k < j → j ≤ D → zBS (V 114 j) (zKp (n + 1) adj op D gl j)) → z_Ex (z_MS d) 57 Q true 4 [some (.inr (.inr 97)), some (.inl (r : Int)), o2, some (.inl (k : Int)), o4, o5] [] 0 0 V
  | 0, V, o2, o4, o5, hk, h1, h2, h3 => by
    exact zb57_97_p4 _ _ _ _ _ (z_ifn (by omega) (h V h1 (fun j a b => h3 j (by omega) b)))
  | k + 1, V, o2, o4, o5, hk, h1, h2, h3 => by
    refine zb57_97_p4 _ _ _ _ _ (z_ifp (by omega) ?_)
    have hlt : ∀ p, n < p → zLa (n + 1) adj op 0 (k + 1) p = false := fun p hp => by
      cases hc : zLa (n + 1) adj op 0 (k + 1) p with
      | false => rfl
      | true => have := zLa_lt hop (Nat.zero_le n) hc; omega
    refine lp57p (by rw [h1 97 (by decide)]; exact h8) hn hr hgl (fun q hq => by rw [h1 _ (by omega)]; exact ha q hq) hhi hD hD13 hk (h2 (k + 1) (Nat.le_refl _)) (h3 (k + 1 + 1) (by omega) (by omega)) hlt (fun z p2 p5 hz => ?_) (n + 1) 0 0 o2 (by omega) zBS_e0
    rw [z_dc1 (by omega)]
    refine lp57 h8 hn hr hgl ha hhi hop hD hD13 h k _ _ _ _ (by omega) (fun a x => by rw [z_up_cell x]; exact h1 a x) (fun j hj => ?_) (fun j x y => ?_)
    · rw [zUp_o (by omega)]; exact h2 j (by omega)
    · by_cases ej : j = k + 1
      · subst ej; rw [zUp_s]; exact hz
      · rw [zUp_o (by omega)]; exact h3 j (by omega) y
theorem sp57 {V : z_M} {n r gl D : Nat} {adj : Nat → Nat → Bool} {op : Nat → Bool} (h8 : V 97 8 = (n : Int)) (hn : n ≤ 12) (hr : r < 6) (hgl : gl ≤ n) (ha : ∀ q, q ≤ n → zBS (V (101 + r) q) (adj q)) (hhi : ∀ q p, n < p → adj q p = false) (hop : ∀ p, n < p → op p = false) (hD : zLa (n + 1) adj op 0 D gl = true) (hD1 : 1 ≤ D) (h1 : ∀ j, j < D → zBS (V 114 j) (zLa (n + 1) adj op 0 j)) (h2 : zBS (V 114 D) (zKp (n + 1) adj op D gl D))
    (h : ∀ W, (∀ a, ¬ a = 114 → W a = V a) → (∀ k, 1 ≤ k → k ≤ D → zBS (W 114 k) (zKp (n + 1) adj op D gl k)) → Q 0 W) :
    z_MS (d + 1) 57 true [.inr (.inr 97), .inl (r : Int), .inl (D : Int)] V Q := by
  have hD13 := zLa_13 hn hgl hD
  refine zb57_97 _ _ ?_
  have e : z_sub (D : Int) 1 = ((D - 1 : Nat) : Int) := by rw [z_sub_e (by omega)]; omega
  rw [e]
  refine lp57 h8 hn hr hgl ha hhi hop hD hD13 h (D - 1) V _ _ _ (by omega) (fun _ _ => rfl) (fun j hj => h1 j (by omega)) (fun j x y => ?_)
  have : j = D := by omega
  subst this
  exact h2
theorem zKp_D {n gl D : Nat} {adj : Nat → Nat → Bool} {op : Nat → Bool} (hD : zLa (n + 1) adj op 0 D gl = true) (p : Nat) : zKp (n + 1) adj op D gl D p = decide (p = gl) := by
  unfold zKp
  rw [Nat.sub_self]
  by_cases e : p = gl
  · subst e; rw [hD]; simp [zWk]
  · have : ¬ gl = p := fun q => e q.symm
    simp [zWk, e, this]
/-- the steps are written down -/
theorem lp56w {U : z_M} {n r gl D : Nat} {adj : Nat → Nat → Bool} {op : Nat → Bool} {o2 o3 o4 : Option z_V} (hn : n ≤ 12) (hr : r < 6) (hgl : gl ≤ n) (ha : ∀ q, q ≤ n → zBS (U (101 + r) q) (adj q)) (hhi : ∀ q p, n < p → adj q p = false) (hD : zLa (n + 1) adj op 0 D gl = true) (hD13 : D < 13) (hk : ∀ k, 1 ≤ k → k ≤ D → zBS (U 114 k) (zKp (n + 1) adj op D gl k))
    (h : ∀ W, (∀ a, ¬ a = 116 → W a = U a) → (∀ k, k < D → W 116 k = (zWy (n + 1) adj op D gl (k + 1) : Int) - 1) → Q (D : Int) W) :
    ∀ (m k : Nat) (V : z_M), k + m = D → (∀ a, ¬ a = 116 → V a = U a) → (∀ j, j < k → V 116 j = (zWy (n + 1) adj op D gl (j + 1) : Int) - 1) → z_Ex (z_MS (d + 1)) 56 Q true 128 [some (.inr (.inr 97)), some (.inl (r : Int)), o2, o3, o4, some (.inl (D : Int)), some (.inl (zWy (n + 1) adj op D gl k : Int)), some (.inl ((k + 1 : Nat) : Int))] [] 0 0 V
  | 0, k, V, e, h1, h2 => by
    have e2 : k = D := by omega
    subst e2
    exact zb56_97_p128 _ _ _ _ _ _ _ (z_ifp (by omega) (h V h1 h2))
  | m + 1, k, V, e, h1, h2 => by
    obtain ⟨i1, i2, i3⟩ := zWy_i (N := n + 1) (gl := gl) (by omega) (by omega) hD k (by omega)
    have hl := zWy_l (N := n + 1) (gl := gl) (by omega) (by omega) hD (k := k) (by omega)
    refine zb56_97_p128 _ _ _ _ _ _ _ (z_ifn (by omega) (z_gp (by omega) (z_all (z_gp (by omega) (z_all ?_)))))
    rw [Int.toNat_natCast, Int.toNat_natCast, zr100 hr, (zk100 (V := V) hr).2.2, h1 114 (by decide), h1 (101 + r) (by omega)]
    refine z_gp (zk100 (V := U) hr).1 (z_gp (by omega) (z_all ?_))
    rw [Int.toNat_natCast, z_dcs (by omega), z_inc (by omega)]
    have hz := zBS_and (hk (k + 1) (by omega) (by omega)) (ha (zWy (n + 1) adj op D gl k) (by omega))
    refine sp52 hz ?_
    have elow : zLow 13 (fun p => zKp (n + 1) adj op D gl (k + 1) p && adj (zWy (n + 1) adj op D gl k) p) = (zWy (n + 1) adj op D gl (k + 1) : Int) := by
      rw [← hl]
      rcases zLow_s (f := zCC (n + 1) adj op D gl (k + 1) (zWy (n + 1) adj op D gl k)) (n + 1) with ⟨q1, q2⟩ | ⟨p, q1, q2, q3, q4⟩
      · rw [q1]
        refine zLow_n (fun q hq => ?_)
        by_cases hqn : q < n + 1
        · rw [zKp_c hD (by omega) i3 hqn i1]; exact q2 q hqn
        · rw [hhi _ q (by omega), Bool.and_false]
      · rw [q1]
        refine zLow_u (by omega) (by rw [zKp_c hD (by omega) i3 q2 i1]; exact q3) (fun q hq => ?_)
        rw [zKp_c hD (by omega) i3 (by omega) i1]
        exact q4 q hq
    rw [elow]
    have hm : z_max 0 (zWy (n + 1) adj op D gl (k + 1) : Int) = (zWy (n + 1) adj op D gl (k + 1) : Int) := by unfold z_max; split <;> omega
    have i4 := (zWy_i (N := n + 1) (gl := gl) (by omega) (by omega) hD (k + 1) (by omega)).2.2
    rw [hm, z_sub_e (by omega)]
    refine z_gp (by omega) (z_all ?_)
    rw [Int.toNat_natCast]
    refine lp56w hn hr hgl ha hhi hD hD13 hk h m (k + 1) _ (by omega) (fun a x => by rw [z_up_cell x]; exact h1 a x) (fun j hj => ?_)
    by_cases ej : j = k
    · subst ej; exact zUp_s
    · rw [zUp_o (by omega)]; exact h2 j (by omega)
theorem lp56 {U : z_M} {n r gl : Nat} {adj : Nat → Nat → Bool} {op : Nat → Bool} {st : Int} (h8 : U 97 8 = (n : Int)) (hn : n ≤ 12) (hr : r < 6) (hgl : gl ≤ n) (hgl1 : 1 ≤ gl) (ha : ∀ q, q ≤ n → zBS (U (101 + r) q) (adj q)) (hhi : ∀ q p, n < p → adj q p = false) (hst : zBS st op) (hop : ∀ p, n < p → op p = false)
    (h0 : zDi (n + 1) adj op 0 gl = -1 → ∀ W, zOff 114 116 U W → Q (-1) W)
    (h1 : ∀ D : Nat, zDi (n + 1) adj op 0 gl = (D : Int) → 1 ≤ D → D < 13 → ∀ W, zOff 114 116 U W → (∀ k, k < D → W 116 k = (zWy (n + 1) adj op D gl (k + 1) : Int) - 1) → Q (D : Int) W) :
    ∀ (m k : Nat) (V : z_M) (sn : Int), k + m = 12 → (∀ a, ¬ a = 114 → V a = U a) → (∀ j, j ≤ k → zBS (V 114 j) (zLa (n + 1) adj op 0 j)) → zBS sn (zSe (n + 1) adj op 0 k) → (∀ j, j < k → zLa (n + 1) adj op 0 j gl = false) → z_Ex (z_MS (d + 2)) 56 Q true 28 [some (.inr (.inr 97)), some (.inl (r : Int)), some (.inl (gl : Int)), some (.inl st), some (.inl sn), some (.inl (k : Int)), some (.inl ((k + 1 : Nat) : Int)), none] [] 0 0 V := by
  -- where the goal lies in the layer k
  have found : ∀ (k : Nat) (V : z_M), k ≤ 12 → (∀ a, ¬ a = 114 → V a = U a) → (∀ j, j ≤ k → zBS (V 114 j) (zLa (n + 1) adj op 0 j)) → zLa (n + 1) adj op 0 k gl = true → ∀ o2 o3 o4 : Option z_V,
      z_MS (d + 2) 57 true [.inr (.inr 97), .inl (r : Int), .inl (k : Int)] (z_up V 114 k (z_shl 1 (gl : Int))) (fun _ W => z_Ex (z_MS (d + 2)) 56 Q true 128 [some (.inr (.inr 97)), some (.inl (r : Int)), o2, o3, o4, some (.inl (k : Int)), some (.inl 0), some (.inl 1)] [] 0 0 W) := by
    intro k V hk hV hL hg o2 o3 o4
    have hk1 : 1 ≤ k := by
      cases k with
      | zero => rw [zLa_0] at hg; have : gl = 0 := by simpa using hg
                omega
      | succ k => omega
    have hV8 : z_up V 114 k (z_shl 1 (gl : Int)) 97 8 = (n : Int) := by rw [z_up_cell (by decide), hV 97 (by decide)]; exact h8
    have haV : ∀ q, q ≤ n → zBS (z_up V 114 k (z_shl 1 (gl : Int)) (101 + r) q) (adj q) := fun q hq => by rw [z_up_cell (by omega), hV _ (by omega)]; exact ha q hq
    refine sp57 (d := d + 1) hV8 hn hr hgl haV hhi hop hg hk1 (fun j hj => by rw [zUp_o (by omega)]; exact hL j (by omega)) (by rw [zUp_s]; exact zBS_c (zBS_pow (by omega)) (fun p => (zKp_D hg p).symm)) (fun W w1 w2 => ?_)
    have oW : zOff 114 116 U W := fun a x => by rw [w1 a (by omega), z_up_cell (by omega)]; exact hV a (by omega)
    refine lp56w (d := d + 1) hn hr hgl (fun q hq => by rw [oW _ (by omega)]; exact ha q hq) hhi hg (by omega) w2 (fun X x1 x2 => ?_) k 0 W (by omega) (fun _ _ => rfl) (fun j hj => absurd hj (Nat.not_lt_zero j))
    have hdi : zDi (n + 1) adj op 0 gl = (k : Int) := by
      rcases zDi_s (adj := adj) (op := op) (show 0 < n + 1 by omega) (show n + 1 ≤ 13 by omega) (show gl < n + 1 by omega) with ⟨_, q2⟩ | ⟨j, q1, _, q3⟩
      · rw [q2 k] at hg; exact absurd hg (by decide)
      · rw [q1, zLa_u hg q3]
    exact h1 k hdi hk1 (by omega) X (fun a x => by rw [x1 a (by omega)]; exact oW a x) x2
  intro m
  induction m with
  | zero =>
    intro k V sn e hV hL hs hno
    have e2 : k = 12 := by omega
    subst e2
    refine zb56_97_p28 _ _ _ _ _ _ (z_ifn (by omega) ?_)
    rw [zBS_bit hs (by omega)]
    cases hb : zSe (n + 1) adj op 0 12 gl with
    | false =>
      refine z_ifp rfl (h0 ((zDi_se (by omega) (by omega) (by omega)).mpr hb) V (fun a x => hV a (by omega)))
    | true =>
      refine z_ifn (by decide) (z_gp (by omega) (z_all ?_))
      rw [Int.toNat_natCast]
      obtain ⟨j, hj, hl⟩ := zSe_la.mp hb
      have : j = 12 := by
        by_cases ej : j < 12
        · rw [hno j ej] at hl; exact absurd hl (by decide)
        · omega
      subst this
      exact found 12 V (by omega) hV hL hl _ _ _
  | succ m ih =>
    intro k V sn e hV hL hs hno
    refine zb56_97_p28 _ _ _ _ _ _ (z_ifp (by omega) ?_)
    rw [zBS_bit hs (by omega)]
    cases hb : zSe (n + 1) adj op 0 k gl with
    | true =>
      refine z_ifn (by decide) (z_ifn (by decide) (z_gp (by omega) (z_all ?_)))
      rw [Int.toNat_natCast]
      obtain ⟨j, hj, hl⟩ := zSe_la.mp hb
      have : j = k := by
        by_cases ej : j < k
        · rw [hno j ej] at hl; exact absurd hl (by decide)
        · omega
      subst this
      exact found j V (by omega) hV hL hl _ _ _
    | false =>
      refine z_ifp rfl ?_
      rw [z_dcs (by omega)]
      refine z_gp (by omega) (z_all ?_)
      rw [Int.toNat_natCast]
      refine sp51 (d := d + 1) (by rw [hV 97 (by decide)]; exact h8) hn hr (hL k (Nat.le_refl k)) (fun q hq => by rw [hV _ (by omega)]; exact ha q hq) (fun z hz => ?_)
      refine z_gp (by omega) (z_all (z_gp (by omega) (z_all ?_)))
      rw [Int.toNat_natCast, zUp_s, z_inc (by omega)]
      obtain ⟨q1, q2⟩ := zSe_step hz hst hs
      refine ih (k + 1) _ _ (by omega) (fun a x => by rw [z_up_cell x]; exact hV a x) (fun j hj => ?_) q2 (fun j hj => ?_)
      · by_cases ej : j = k + 1
        · subst ej; rw [zUp_s]; exact q1
        · rw [zUp_o (by omega)]; exact hL j (by omega)
      · by_cases ej : j = k
        · subst ej
          cases hc : zLa (n + 1) adj op 0 j gl with
          | false => rfl
          | true => rw [zLa_se hc] at hb; exact absurd hb (by decide)
        · exact hno j (by omega)
theorem sp56 {V : z_M} {n r gl : Nat} {adj : Nat → Nat → Bool} {ca inn op : Nat → Bool} (h8 : V 97 8 = (n : Int)) (hn : n ≤ 12) (hr : r < 6) (hgl : gl ≤ n) (hgl1 : 1 ≤ gl) (hca : zBS (V 99 r) ca) (hin : zBS (V 97 7) inn) (ho : ∀ p, op p = (ca p && inn p)) (ha : ∀ q, q ≤ n → zBS (V (101 + r) q) (adj q)) (hhi : ∀ q p, n < p → adj q p = false) (hop : ∀ p, n < p → op p = false)
    (h0 : zDi (n + 1) adj op 0 gl = -1 → ∀ W, zOff 114 116 V W → Q (-1) W)
    (h1 : ∀ D : Nat, zDi (n + 1) adj op 0 gl = (D : Int) → 1 ≤ D → D < 13 → ∀ W, zOff 114 116 V W → (∀ k, k < D → W 116 k = (zWy (n + 1) adj op D gl (k + 1) : Int) - 1) → Q (D : Int) W) :
    z_MS (d + 3) 56 true [.inr (.inr 97), .inl (r : Int), .inl (gl : Int)] V Q := by
  refine zb56_97 _ _ (z_gp (by omega) (z_all (z_all ?_)))
  rw [Int.toNat_natCast]
  have e97 : z_up V 114 0 1 97 = V 97 := z_up_cell (by decide)
  have b1 : zBS 1 (zLa (n + 1) adj op 0 0) := zBS_c zBS_1 (fun k => by rw [zLa_0]; by_cases e : k = 0 <;> simp [e])
  refine lp56 (U := z_up V 114 0 1) (gl := gl) (op := op) (adj := adj) (by rw [e97]; exact h8) hn hr hgl hgl1 (fun q hq => by rw [z_up_cell (by omega)]; exact ha q hq) hhi (zBS_c (zBS_and hca hin) (fun k => (ho k).symm)) hop (fun c W w => h0 c W (fun a x => by rw [w a x, z_up_cell (by omega)])) (fun D c x y W w w2 => h1 D c x y W (fun a q => by rw [w a q, z_up_cell (by omega)]) w2) 12 0 _ 1 rfl (fun _ _ => rfl) (fun j hj => ?_) b1 (fun j hj => absurd hj (Nat.not_lt_zero j))
  have : j = 0 := by omega
  subst this
  rw [zUp_s]
  exact b1
end
