/-! the way: the reference -/
section
variable {d : Nat} {Q : Int → z_M → Prop}
theorem lp211b {U : z_M} {r gl i : Nat} {ov : Int} (hi : i ≤ 12)
    (h : ∀ W o5, (∀ a, ¬ a = 161 → W a = U a) → (∀ x, ¬ (13 * i ≤ x ∧ x < 13 * i + 13) → W 161 x = U 161 x) → (∀ q, q < 13 → W 161 (13 * i + q) = U 159 q) → z_Ex (z_MS d) 211 Q true 9 [some (.inr (.inr 141)), some (.inl (r : Int)), some (.inl (gl : Int)), some (.inl ov), some (.inl ((i + 1 : Nat) : Int)), o5, none, none] [] 0 0 W) :
    ∀ (m j : Nat) (V : z_M), j + m = 13 → (∀ a, ¬ a = 161 → V a = U a) → (∀ x, ¬ (13 * i ≤ x ∧ x < 13 * i + 13) → V 161 x = U 161 x) → (∀ q, q < j → V 161 (13 * i + q) = U 159 q) → z_Ex (z_MS d) 211 Q true 29 [some (.inr (.inr 141)), some (.inl (r : Int)), some (.inl (gl : Int)), some (.inl ov), some (.inl (i : Int)), some (.inl (j : Int)), none, none] [] 0 0 V
  | 0, j, V, e, h1, h2, h3 => by
    have e2 : j = 13 := by omega
    subst e2
    refine zb211_141_p29 _ _ _ _ _ (z_ifn (by omega) ?_)
    rw [z_inc (by omega)]
    exact h V _ h1 h2 h3
  | m + 1, j, V, e, h1, h2, h3 => by
    refine zb211_141_p29 _ _ _ _ _ (z_ifp (by omega) (z_gp (by omega) (z_all ?_)))
    have e1 : z_add (z_mul 13 (i : Int)) (j : Int) = ((13 * i + j : Nat) : Int) := by simp (disch := omega) only [z_mul_e, z_add_e, z_sub_e]; omega
    rw [e1, z_inc (i := j) (by omega)]
    refine z_gp (by omega) (z_all ?_)
    rw [Int.toNat_natCast, Int.toNat_natCast]
    refine lp211b hi h m (j + 1) _ (by omega) (fun a x => by rw [z_up_cell x]; exact h1 a x) (fun x hx => by rw [zUp_o (by omega)]; exact h2 x hx) (fun q hq => ?_)
    by_cases eq : q = j
    · subst eq
      rw [zUp_s, h1 159 (by decide)]
    · rw [zUp_o (by omega)]; exact h3 q (by omega)
theorem lp211a {U : z_M} {n r gl : Nat} {lev : Nat → Int} {up dr ov : Int} {op of : Nat → Bool} (hS : zFS U n r lev up dr) (hgl : gl ≤ n) (hgl1 : 1 ≤ gl) (hov : zBS ov of) (hop : ∀ q, op q = (decide (q = 0) || of (q - 1)))
    (h : ∀ W, (∀ a, ¬ a = 159 → ¬ a = 161 → W a = U a) → (∀ p q, p ≤ n → q < 13 → W 161 (13 * p + q) = zDi (n + 1) (zAd n lev up (up + dr)) op p q) → z_Ex (z_MS (d + 4)) 211 Q true 84 [some (.inr (.inr 141)), some (.inl (r : Int)), some (.inl ((gl - 1 : Nat) : Int)), some (.inl ov), some (.inl (zDi (n + 1) (zAd n lev up (up + dr)) op 0 gl)), some (.inl 0), some (.inl 1), none] [] 0 0 W) :
    ∀ (m i : Nat) (V : z_M) (o5 : Option z_V), i + m = n + 1 → (∀ a, ¬ a = 159 → ¬ a = 161 → V a = U a) → (∀ p q, p < i → q < 13 → V 161 (13 * p + q) = zDi (n + 1) (zAd n lev up (up + dr)) op p q) → z_Ex (z_MS (d + 4)) 211 Q true 9 [some (.inr (.inr 141)), some (.inl (r : Int)), some (.inl ((gl - 1 : Nat) : Int)), some (.inl ov), some (.inl (i : Int)), o5, none, none] [] 0 0 V
  | 0, i, V, o5, e, h1, h2 => by
    have e2 : i = n + 1 := by omega
    subst e2
    have s2 := hS.2.1
    refine zb211_141_p9 _ _ _ _ _ (sp154 (d := d + 3) ?_)
    rw [h1 143 (by decide) (by decide), hS.1, z_inc (i := gl - 1) (by omega), show gl - 1 + 1 = gl by omega]
    refine z_ifp (by omega) (z_gp (by omega) (z_all ?_))
    have e0 := h2 0 gl (by omega) (by omega)
    rw [Nat.mul_zero, Nat.zero_add] at e0
    rw [Int.toNat_natCast, e0]
    exact h V h1 (fun p q hp hq => h2 p q (by omega) hq)
  | m + 1, i, V, o5, e, h1, h2 => by
    have s2 := hS.2.1
    refine zb211_141_p9 _ _ _ _ _ (sp154 (d := d + 3) ?_)
    rw [h1 143 (by decide) (by decide), hS.1]
    refine z_ifn (by omega) ?_
    refine sp207 (d := d + 1) (zFS_c hS (h1 143 (by decide) (by decide)) (h1 156 (by decide) (by decide))) (by omega) hov hop (fun W w1 w2 => ?_)
    refine lp211b (d := d + 4) (by omega) (fun X o5 x1 x2 x3 => ?_) 13 0 W rfl (fun _ _ => rfl) (fun _ _ => rfl) (fun q hq => absurd hq (Nat.not_lt_zero q))
    refine lp211a hS hgl hgl1 hov hop h m (i + 1) X o5 (by omega) (fun a a1 a2 => by rw [x1 a a2, w1 a a1]; exact h1 a a1 a2) (fun p q hp hq => ?_)
    by_cases ep : p = i
    · subst ep
      rw [x3 q hq, w2 q hq]
    · rw [x2 _ (by omega), w1 161 (by decide)]
      exact h2 p q (by omega) hq
theorem lp211s {V : z_M} {n gl D k : Nat} {adj : Nat → Nat → Bool} {op : Nat → Bool} {o1 o3 : Option z_V} (hn : n ≤ 12) (hgl : gl ≤ n) (hgl1 : 1 ≤ gl) (hirr : ∀ p, adj p p = false) (hD : zLa (n + 1) adj op 0 D gl = true) (hD13 : D < 13) (hk : k < D) (hw : ∀ p q, p ≤ n → q < 13 → V 161 (13 * p + q) = zDi (n + 1) adj op p q)
    (h : ∀ W o7, W = z_up V 160 k ((zWy (n + 1) adj op D gl (k + 1) : Int) - 1) → z_Ex (z_MS d) 211 Q true 84 [some (.inr (.inr 141)), o1, some (.inl ((gl - 1 : Nat) : Int)), o3, some (.inl (D : Int)), some (.inl (zWy (n + 1) adj op D gl (k + 1) : Int)), some (.inl ((k + 1 + 1 : Nat) : Int)), o7] [] 0 0 W) :
    ∀ (m p : Nat), p + m = zWy (n + 1) adj op D gl (k + 1) → z_Ex (z_MS d) 211 Q true 94 [some (.inr (.inr 141)), o1, some (.inl ((gl - 1 : Nat) : Int)), o3, some (.inl (D : Int)), some (.inl (zWy (n + 1) adj op D gl k : Int)), some (.inl ((k + 1 : Nat) : Int)), some (.inl (p : Int))] [] 0 0 V
  | m, p, e => by
    obtain ⟨i1, i2, i3⟩ := zWy_i (N := n + 1) (gl := gl) (by omega) (by omega) hD k (by omega)
    have i4 := (zWy_i (N := n + 1) (gl := gl) (by omega) (by omega) hD (k + 1) (by omega)).2.2
    have hl := zWy_l (N := n + 1) (gl := gl) (by omega) (by omega) hD (k := k) (by omega)
    have hdc := zDi_c (N := n + 1) (gl := gl) (by omega) (by omega) hirr hD hk i3 (show p < n + 1 by omega) i1
    have e1 : z_add (z_mul 13 (zWy (n + 1) adj op D gl k : Int)) (p : Int) = ((13 * zWy (n + 1) adj op D gl k + p : Nat) : Int) := by simp (disch := omega) only [z_mul_e, z_add_e, z_sub_e]; omega
    have e2 : z_add (z_add (z_mul 13 (p : Int)) ((gl - 1 : Nat) : Int)) 1 = ((13 * p + gl : Nat) : Int) := by simp (disch := omega) only [z_mul_e, z_add_e, z_sub_e]; omega
    refine zb211_141_p94 _ _ _ _ _ _ _ ?_
    rw [e1, e2, z_sub_e (by omega), z_inc (i := k + 1) (by omega), z_dcs (by omega)]
    refine z_gp (by omega) (z_all ?_)
    rw [Int.toNat_natCast, hw _ p (by omega) (by omega)]
    have step : zCC (n + 1) adj op D gl (k + 1) (zWy (n + 1) adj op D gl k) p = false → z_Ex (z_MS d) 211 Q true 94 [some (.inr (.inr 141)), o1, some (.inl ((gl - 1 : Nat) : Int)), o3, some (.inl (D : Int)), some (.inl (zWy (n + 1) adj op D gl k : Int)), some (.inl ((k + 1 : Nat) : Int)), some (.inl (z_add (p : Int) 1))] [] 0 0 V := by
      intro hf
      rw [z_inc (by omega)]
      cases m with
      | zero =>
        rcases zLow_s (f := zCC (n + 1) adj op D gl (k + 1) (zWy (n + 1) adj op D gl k)) (n + 1) with ⟨q1, _⟩ | ⟨q, q1, _, q3, _⟩
        · omega
        · have : q = p := by omega
          subst this
          rw [hf] at q3; exact absurd q3 (by decide)
      | succ m => exact lp211s hn hgl hgl1 hirr hD hD13 hk hw h m (p + 1) (by omega)
    refine z_ifc (fun c1 => z_gp (by omega) (z_all ?_)) (fun c1 => step ?_)
    · rw [Int.toNat_natCast, hw p gl (by omega) (by omega)]
      refine z_ifc (fun c2 => ?_) (fun c2 => step ?_)
      · have hc := hdc.mp ⟨c1, by omega⟩
        have hp : p = zWy (n + 1) adj op D gl (k + 1) := by
          rcases zLow_s (f := zCC (n + 1) adj op D gl (k + 1) (zWy (n + 1) adj op D gl k)) (n + 1) with ⟨q1, _⟩ | ⟨q, q1, _, _, q4⟩
          · omega
          · by_cases eq : p < q
            · rw [q4 p eq] at hc; exact absurd hc (by decide)
            · omega
        subst hp
        refine z_gp (by omega) (z_all ?_)
        rw [Int.toNat_natCast, z_sub_e (by omega)]
        exact h _ _ rfl
      · cases hb : zCC (n + 1) adj op D gl (k + 1) (zWy (n + 1) adj op D gl k) p with
        | false => rfl
        | true => exact absurd (by have := (hdc.mpr hb).2; omega) c2
    · cases hb : zCC (n + 1) adj op D gl (k + 1) (zWy (n + 1) adj op D gl k) p with
      | false => rfl
      | true => exact absurd (hdc.mpr hb).1 c1
  termination_by m => m
theorem lp211k {U : z_M} {n gl D : Nat} {adj : Nat → Nat → Bool} {op : Nat → Bool} {o1 o3 : Option z_V} (hn : n ≤ 12) (hgl : gl ≤ n) (hgl1 : 1 ≤ gl) (hirr : ∀ p, adj p p = false) (hD : zLa (n + 1) adj op 0 D gl = true) (hD13 : D < 13) (hw : ∀ p q, p ≤ n → q < 13 → U 161 (13 * p + q) = zDi (n + 1) adj op p q)
    (h : ∀ W, (∀ a, ¬ a = 160 → W a = U a) → (∀ k, k < D → W 160 k = (zWy (n + 1) adj op D gl (k + 1) : Int) - 1) → Q (D : Int) W) :
    ∀ (m k : Nat) (V : z_M) (o7 : Option z_V), k + m = D → (∀ a, ¬ a = 160 → V a = U a) → (∀ j, j < k → V 160 j = (zWy (n + 1) adj op D gl (j + 1) : Int) - 1) → z_Ex (z_MS d) 211 Q true 84 [some (.inr (.inr 141)), o1, some (.inl ((gl - 1 : Nat) : Int)), o3, some (.inl (D : Int)), some (.inl (zWy (n + 1) adj op D gl k : Int)), some (.inl ((k + 1 : Nat) : Int)), o7] [] 0 0 V
  | 0, k, V, o7, e, h1, h2 => by
    have e2 : k = D := by omega
    subst e2
    exact zb211_141_p84 _ _ _ _ _ _ _ (z_ifp (by omega) (h V h1 h2))
  | m + 1, k, V, o7, e, h1, h2 => by
    refine zb211_141_p84 _ _ _ _ _ _ _ (z_ifn (by omega) ?_)
    refine lp211s hn hgl hgl1 hirr hD hD13 (by omega) (fun p q hp hq => by rw [h1 161 (by decide)]; exact hw p q hp hq) (fun W o7 hW => ?_) _ 0 (Nat.zero_add _)
    refine lp211k hn hgl hgl1 hirr hD hD13 hw h m (k + 1) W o7 (by omega) (fun a x => by subst hW; rw [z_up_cell x]; exact h1 a x) (fun j hj => ?_)
    subst hW
    by_cases ej : j = k
    · subst ej; exact zUp_s
    · rw [zUp_o (by omega)]; exact h2 j (by omega)
theorem sp211 {V V0 : z_M} {b0 : Nat} {ρ : Nat → Int} {Λ : Nat → (Nat → Int) → Int} {n R m r gl : Nat} {lev : Nat → Int} {car : Nat → Nat → Bool} {tq : Nat → Nat} {g : Nat → Bool} (hT : zT b0 ρ V0 Λ) (hC : zMC V ρ n R m lev car tq g) (hl0 : lev 0 = 0) (hlb : ∀ p, p ≤ n → 0 ≤ lev p ∧ lev p ≤ 108) (hr : r < R) (hgl : gl ≤ n) (hgl1 : 1 ≤ gl)
    (h0 : zDi (n + 1) (zAd n lev (zSR ρ r) (zSR ρ r + ρ 7)) (zOp n (car r) g) 0 gl = -1 → ∀ W, zFm 44 44 159 161 V W → Q (-1) W)
    (h1 : ∀ D : Nat, zDi (n + 1) (zAd n lev (zSR ρ r) (zSR ρ r + ρ 7)) (zOp n (car r) g) 0 gl = (D : Int) → 1 ≤ D → D < 13 → ∀ W, zFm 44 44 159 161 V W → (∀ k, k < D → W 160 k = (zWy (n + 1) (zAd n lev (zSR ρ r) (zSR ρ r + ρ 7)) (zOp n (car r) g) D gl (k + 1) : Int) - 1) → Q (D : Int) W) :
    z_MS (d + 5) 211 true [.inr (.inr 141), .inl (r : Int), .inl ((gl - 1 : Nat) : Int)] V Q := by
  have a1 := zT_1 hT
  have a0 := zT_0 hT
  have hS := zMC_fs hT hC hr hl0 hlb
  obtain ⟨c1, c2, c3, c4, c5, c6, c7, c8⟩ := hC
  refine zb211_141 _ _ (sp208 (d := d + 3) (by omega) ?_)
  refine lp211a hS hgl hgl1 (zBS_andn (c6 r hr) c8) (op := zOp n (car r) g) (fun q => zOp_m q) (fun W w1 w2 => ?_) (n + 1) 0 V _ (by omega) (fun _ _ _ => rfl) (fun p q hp => absurd hp (Nat.not_lt_zero p))
  have fW : zFm 44 44 159 161 V W := ⟨fun a x y => w1 a (by omega) (by omega), fun k _ => by rw [w1 141 (by decide) (by decide)]⟩
  rcases zDi_s (adj := zAd n lev (zSR ρ r) (zSR ρ r + ρ 7)) (op := zOp n (car r) g) (show 0 < n + 1 by omega) (show n + 1 ≤ 13 by omega) (show gl < n + 1 by omega) with ⟨q1, _⟩ | ⟨D, q1, q2, q3⟩
  · rw [q1]
    exact zb211_141_p84 _ _ _ _ _ _ _ (z_ifp (by decide) (h0 q1 W fW))
  · rw [q1]
    have hD1 : 1 ≤ D := by
      cases D with
      | zero => rw [zLa_0] at q3; have : gl = 0 := by simpa using q3
                omega
      | succ D => omega
    exact lp211k (d := d + 4) (by omega) hgl hgl1 (fun p => zAd_1 rfl) q3 q2 w2 (fun X x1 x2 => h1 D q1 hD1 q2 X ⟨fun a x y => by rw [x1 a (by omega)]; exact fW.1 a x y, fun k hk => by rw [x1 141 (by decide)]; exact fW.2 k hk⟩ x2) D 0 W _ (by omega) (fun _ _ => rfl) (fun j hj => absurd hj (Nat.not_lt_zero j))
end
