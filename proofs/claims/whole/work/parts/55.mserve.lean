/-! the reference: who is served -/
section
variable {d : Nat} {Q : Int → z_M → Prop}
/-- whether a place may serve -/
def zCn (n : Nat) (lev : Nat → Int) (up : Int) (t : Nat) (D : Nat → Int) (p : Nat) : Bool := !decide (D p = -1) && zGr n lev up (t + 1) p
theorem lp223j {V : z_M} {n r t i : Nat} {z b : Int} {D : Nat → Int} {can : Nat → Bool} {o5 : Option z_V} (hn : n ≤ 12) (hi : i ≤ n) (hD : ∀ x, x < 13 → V 159 x = D x) (hz : zBe i D can z) (hb : b = if can i = true then 1 else 0)
    (h : ∀ z o5, zBe (i + 1) D can z → z_Ex (z_MS d) 223 Q true 50 [some (.inr (.inr 141)), some (.inl (r : Int)), some (.inl (t : Int)), some (.inl z), some (.inl ((i + 1 : Nat) : Int)), o5] [] 0 0 V) :
    z_Ex (z_MS d) 223 Q true 107 [some (.inr (.inr 141)), some (.inl (r : Int)), some (.inl (t : Int)), some (.inl z), some (.inl (i : Int)), o5] [.inl b] 0 0 V := by
  refine zb223_141_p107 _ _ _ _ _ _ ?_
  rw [z_inc (by omega)]
  refine z_ifc (fun h0 => ?_) (fun h0 => ?_)
  · refine h z _ (zBe_0 hz ?_)
    cases hc : can i with
    | false => rfl
    | true => rw [hb, hc] at h0; exact absurd h0 (by decide)
  · have hc : can i = true := by
      cases hc : can i with
      | true => rfl
      | false => rw [hb, hc] at h0; exact absurd rfl h0
    refine z_ifc (fun h1 => h _ _ (zBe_1 hz hc h1)) (fun h1 => ?_)
    rcases hz with ⟨q1, _⟩ | ⟨p0, q1, q2, q3, q4, q5⟩
    · exact absurd q1 h1
    · subst q1
      refine z_gp (by omega) (z_all (z_gp (by omega) (z_all ?_)))
      rw [Int.toNat_natCast, Int.toNat_natCast, hD i (by omega), hD p0 (by omega)]
      exact h _ _ (zBe_2 (Or.inr ⟨p0, rfl, q2, q3, q4, q5⟩) hc)
theorem lp223 {V : z_M} {n r t : Nat} {lev : Nat → Int} {up dr : Int} {D : Nat → Int} (hS : zFS V n r lev up dr) (ht : t < n) (hD : ∀ x, x < 13 → V 159 x = D x)
    (h : ∀ z, zBe (n + 1) D (zCn n lev up t D) z → zI (z = -1) (Q 0 V) (zGu (0 ≤ (r : Int) ∧ (r : Int) < 6) (∀ W, W = z_up V 162 r z → ∀ W2, W2 = z_up W 141 44 (z_or (W 141 44) (z_shl 1 (t : Int))) → Q 1 W2))) :
    ∀ k i z o5, i + k = n + 1 → zBe i D (zCn n lev up t D) z → z_Ex (z_MS (d + 1)) 223 Q true 50 [some (.inr (.inr 141)), some (.inl (r : Int)), some (.inl (t : Int)), some (.inl z), some (.inl (i : Int)), o5] [] 0 0 V
  | 0, i, z, o5, e, hz => by
    have e2 : i = n + 1 := by omega
    subst e2
    refine zb223_141_p50 _ _ _ _ _ (sp154 (d := d) ?_)
    rw [hS.1]
    exact z_ifp (by omega) (h z hz)
  | k + 1, i, z, o5, e, hz => by
    obtain ⟨s1, s2, s3, s4, s5, s6, s7, s8⟩ := hS
    have l1 := s6 i (by omega)
    have l2 := s6 (t + 1) (by omega)
    refine zb223_141_p50 _ _ _ _ _ (sp154 (d := d) ?_)
    rw [s1]
    refine z_ifn (by omega) (z_gp (by omega) (z_all ?_))
    rw [Int.toNat_natCast, hD i (by omega), z_inc (by omega)]
    have next : ∀ b, b = (if zCn n lev up t D i = true then (1 : Int) else 0) → z_Ex (z_MS (d + 1)) 223 Q true 107 [some (.inr (.inr 141)), some (.inl (r : Int)), some (.inl (t : Int)), some (.inl z), some (.inl (i : Int)), o5] [.inl b] 0 0 V :=
      fun b hb => lp223j (d := d + 1) s2 (by omega) hD hz hb (fun z o5 hz => lp223 ⟨s1, s2, s3, s4, s5, s6, s7, s8⟩ ht hD h k (i + 1) z o5 (by omega) hz)
    refine z_ifc (fun c => next 0 ?_) (fun c => z_ifc (fun c2 => next 0 ?_) (fun c2 => ?_))
    · unfold zCn
      rw [c]
      rfl
    · unfold zCn
      rw [zGr_1 (by omega)]
      simp
    · refine sp205 s4 s5 s2 (by omega) (z_gp (by omega) (z_all ?_))
      rw [Int.toNat_natCast, s4 t ht, z_sub_e (by omega)]
      refine sp148 (by omega) (fun y hy => sp158 s3 ?_)
      rw [s7.1]
      refine next _ ?_
      unfold zCn
      rw [show decide (D i = -1) = false by simp [c]]
      by_cases cc : up < y
      · rw [if_pos cc, zGr_2 (by omega)]
        simp
      · rw [if_neg cc, zGr_t (by omega) (by omega) (by omega) (by omega)]
        simp
theorem sp223 {V V0 : z_M} {b0 : Nat} {ρ : Nat → Int} {Λ : Nat → (Nat → Int) → Int} {n R m r t : Nat} {lev : Nat → Int} {car : Nat → Nat → Bool} {tq : Nat → Nat} {g0 : Nat → Bool} {w : Nat → Nat} {g : Nat → Bool} (hT : zT b0 ρ V0 Λ) (hC : zMC V ρ n R m lev car tq g0) (hM : zMD V n w g) (hl0 : lev 0 = 0) (hlb : ∀ p, p ≤ n → 0 ≤ lev p ∧ lev p ≤ 108) (hr : r < R) (ht : t < n)
    (h0 : zSv n R lev (zSR ρ) (ρ 7) car w g r t = -1 → ∀ W, zFm 44 44 159 162 V W → zMC W ρ n R m lev car tq g0 → zMD W n w g → Q 0 W)
    (h1 : ∀ (p : Nat) W, zSv n R lev (zSR ρ) (ρ 7) car w g r t = (p : Int) → p ≤ n → zFm 44 44 159 162 V W → zMC W ρ n R m lev car tq g0 → zMD W n (zUw w r p) (zUg g t) → Q 1 W) :
    z_MS (d + 4) 223 true [.inr (.inr 141), .inl (r : Int), .inl (t : Int)] V Q := by
  have hS := zMC_fs hT hC hr hl0 hlb
  have a0 := zT_0 hT
  have a1 := zT_1 hT
  obtain ⟨c1, c2, c3, c4, c5, c6, c7, c8⟩ := hC
  obtain ⟨m1, m2⟩ := hM
  refine zb223_141 _ _ (sp146 (d := d + 2) m1 (by omega) ?_)
  cases hg : g t with
  | true =>
    rw [show (decide (t < n) && true) = true by simp [ht]]
    refine z_ifn (by decide) (h0 ?_ V zFm_r ⟨c1, c2, c3, c4, c5, c6, c7, c8⟩ ⟨m1, m2⟩)
    unfold zSv
    rw [if_pos (Or.inl hg)]
  | false =>
    rw [show (decide (t < n) && false) = false by simp]
    refine z_ifp rfl ?_
    refine sp222 (d := d + 2) (R := R) (by rw [c1, c3]) (by omega) (by omega) (fun q hq => (m2 q hq).1) ?_
    by_cases hw : zAny R (fun q => decide (w q = t + 1)) = true
    · rw [if_pos hw]
      refine z_ifn (by decide) (h0 ?_ V zFm_r ⟨c1, c2, c3, c4, c5, c6, c7, c8⟩ ⟨m1, m2⟩)
      unfold zSv
      rw [if_pos (Or.inr hw)]
    · rw [if_neg hw]
      refine z_ifp rfl (z_gp (by omega) (z_all (z_gp (by omega) (z_all ?_))))
      rw [Int.toNat_natCast, (m2 r (by omega)).1]
      have esv : zSv n R lev (zSR ρ) (ρ 7) car w g r t = zNe (n + 1) (zLa (n + 1) (zAd n lev (zSR ρ r) (zSR ρ r + ρ 7)) (zOp n (car r) g) (w r)) (zGr n lev (zSR ρ r) (t + 1)) 13 := by
        unfold zSv
        rw [if_neg (by rintro (h | h); exact absurd (hg.symm.trans h) (by decide); exact hw h)]
      refine sp207 (d := d) (op := zOp n (car r) g) hS (m2 r (by omega)).2 (zBS_andn (c6 r hr) m1) (fun q => zOp_m q) (fun W w1 w2 => ?_)
      have hSW := zFS_c hS (w1 143 (by decide)) (w1 156 (by decide))
      refine lp223 (d := d + 2) hSW ht w2 (fun z hz => ?_) (n + 1) 0 _ _ (by omega) (Or.inl ⟨rfl, fun p hp => absurd hp (Nat.not_lt_zero p)⟩)
      have hne := zBe_ne (show w r < n + 1 by have := (m2 r (by omega)).2; omega) (by omega) (fun p _ => rfl) hz
      have fW : zFm 44 44 159 162 V W := ⟨fun a x y => w1 a (by omega), fun k _ => by rw [w1 141 (by decide)]⟩
      have cW : zMC W ρ n R m lev car tq g0 := zMC_c ⟨c1, c2, c3, c4, c5, c6, c7, c8⟩ (w1 143 (by decide)) (w1 156 (by decide)) (w1 157 (by decide)) (w1 158 (by decide)) (by rw [w1 141 (by decide)])
      have dW : zMD W n w g := zMD_c ⟨m1, m2⟩ (w1 162 (by decide)) (by rw [w1 141 (by decide)])
      refine z_ifc (fun hz1 => h0 (by rw [esv, hne, hz1]) W fW cW dW) (fun hz1 => ?_)
      rw [← esv] at hne
      obtain ⟨p, hp, hp2⟩ := zSv_lt (show ¬ zSv n R lev (zSR ρ) (ρ 7) car w g r t = -1 by rw [hne]; exact hz1)
      have hzp : z = (p : Int) := by rw [← hne, hp]
      subst hzp
      refine z_gp (by omega) (z_all (z_all ?_))
      have e141 : z_up W 162 r (p : Int) 141 = W 141 := z_up_cell (by decide)
      rw [e141]
      refine h1 p _ hp hp2 (zFm_f (zFm_u fW (by omega)) (by omega)) ?_ ⟨?_, fun q hq => ?_⟩
      · refine zMC_c cW ?_ ?_ ?_ ?_ ?_
        · rw [z_up_cell (by decide), z_up_cell (by decide)]
        · rw [z_up_cell (by decide), z_up_cell (by decide)]
        · rw [z_up_cell (by decide), z_up_cell (by decide)]
        · rw [z_up_cell (by decide), z_up_cell (by decide)]
        · rw [zUp_o (by omega), e141]
      · rw [zUp_s]
        refine zBS_c (zBS_or dW.1 (zBS_pow (by omega))) (fun k => ?_)
        unfold zUg
        by_cases e : k = t
        · subst e
          simp [ht]
        · simp [e]
      · rw [z_up_cell (by decide)]
        unfold zUw
        by_cases e : q = r
        · subst e
          rw [zUp_s, if_pos rfl]
          exact ⟨rfl, hp2⟩
        · rw [zUp_o (by omega), if_neg e]
          exact dW.2 q hq
theorem lp224 {U V0 : z_M} {b0 : Nat} {ρ : Nat → Int} {Λ : Nat → (Nat → Int) → Int} {n R m : Nat} {lev : Nat → Int} {car : Nat → Nat → Bool} {tq : Nat → Nat} {g0 : Nat → Bool} {w : Nat → Nat} {g : Nat → Bool} (hT : zT b0 ρ V0 Λ) (hC : zMC U ρ n R m lev car tq g0) (hM : zMD U n w g) (hl0 : lev 0 = 0) (hlb : ∀ p, p ≤ n → 0 ≤ lev p ∧ lev p ≤ 108)
    (h : ∀ W z, (∀ a, ¬ a = 159 → W a = U a) → zBS z (fun r => decide (r < R) && zSd n lev (zSR ρ) (ρ 7) car w g r) → Q z W) :
    ∀ k i V z, i + k = R → (∀ a, ¬ a = 159 → V a = U a) → zBS z (fun r => decide (r < i) && zSd n lev (zSR ρ) (ρ 7) car w g r) → z_Ex (z_MS (d + 3)) 224 Q true 4 [some (.inr (.inr 141)), some (.inl z), some (.inl (i : Int))] [] 0 0 V
  | 0, i, V, z, e, hV, hz => by
    have e2 : i = R := by omega
    subst e2
    refine zb224_141_p4 _ _ (z_ifn (by rw [hV 143 (by decide), hC.1, hC.2.2.1]; omega) (h V z hV hz))
  | k + 1, i, V, z, e, hV, hz => by
    have a0 := zT_0 hT
    have a1 := zT_1 hT
    have hS := zMC_fs hT hC (r := i) (by omega) hl0 hlb
    have hC2 := hC
    obtain ⟨c1, c2, c3, c4, c5, c6, c7, c8⟩ := hC2
    have m2 := hM.2 i (by omega)
    have e162 : V 162 = U 162 := hV 162 (by decide)
    refine zb224_141_p4 _ _ (z_ifp (by rw [hV 143 (by decide), c1, c3]; omega) (z_gp (by omega) (z_all ?_)))
    rw [Int.toNat_natCast, e162, m2.1, z_inc (by omega)]
    refine z_ifc (fun h0 => ?_) (fun h0 => ?_)
    · refine lp224 hT hC hM hl0 hlb h k (i + 1) V z (by omega) hV (zBS_ex0 hz ?_)
      unfold zSd
      simp [show w i = 0 by omega]
    · refine z_gp (by omega) (z_all (z_gp (by omega) (z_all ?_)))
      rw [hV 157 (by decide), hV 141 (by decide)]
      refine sp207 (d := d) (op := zOp n (car i) g) (zFS_c hS (hV 143 (by decide)) (hV 156 (by decide))) m2.2 (zBS_andn (c6 i (by omega)) hM.1) (fun q => zOp_m q) (fun W w1 w2 => ?_)
      rw [w2 0 (by decide)]
      have hz0 := zNe_0 (adj := zAd n lev (zSR ρ i) (zSR ρ i + ρ 7)) (op := zOp n (car i) g) (show w i < n + 1 by omega) (by omega)
      by_cases hc : zDi (n + 1) (zAd n lev (zSR ρ i) (zSR ρ i + ρ 7)) (zOp n (car i) g) (w i) 0 = -1
      · rw [if_pos hc]
        refine lp224 hT hC hM hl0 hlb h k (i + 1) W _ (by omega) (fun a ha => (w1 a ha).trans (hV a ha)) (zBS_ex1 hz ?_ (by omega))
        unfold zSd
        rw [hz0.mpr hc]
        simp
        omega
      · rw [if_neg hc]
        refine lp224 hT hC hM hl0 hlb h k (i + 1) W _ (by omega) (fun a ha => (w1 a ha).trans (hV a ha)) (zBS_ex0 (zBS_c (zBS_or hz zBS_0) (fun k => Bool.or_false _)) ?_)
        unfold zSd
        rw [show decide (zNe (n + 1) (zLa (n + 1) (zAd n lev (zSR ρ i) (zSR ρ i + ρ 7)) (zOp n (car i) g) (w i)) (fun k => decide (k = 0)) 13 = -1) = false by simp; exact fun q => hc (hz0.mp q)]
        simp
theorem sp224 {V V0 : z_M} {b0 : Nat} {ρ : Nat → Int} {Λ : Nat → (Nat → Int) → Int} {n R m : Nat} {lev : Nat → Int} {car : Nat → Nat → Bool} {tq : Nat → Nat} {g0 : Nat → Bool} {w : Nat → Nat} {g : Nat → Bool} (hT : zT b0 ρ V0 Λ) (hC : zMC V ρ n R m lev car tq g0) (hM : zMD V n w g) (hl0 : lev 0 = 0) (hlb : ∀ p, p ≤ n → 0 ≤ lev p ∧ lev p ≤ 108)
    (h : ∀ W z, (∀ a, ¬ a = 159 → W a = V a) → zBS z (fun r => decide (r < R) && zSd n lev (zSR ρ) (ρ 7) car w g r) → Q z W) : z_MS (d + 4) 224 true [.inr (.inr 141)] V Q :=
  zb224_141 (lp224 hT hC hM hl0 hlb h R 0 V 0 (by omega) (fun _ _ => rfl) zBS_e0)
theorem lp221 {U : z_M} (h : ∀ W, (∀ a, ¬ a = 162 → W a = U a) → (∀ r, r < 6 → W 162 r = 0) → Q 0 W) :
    ∀ (k i : Nat) (V : z_M), i + k = 6 → (∀ a, ¬ a = 162 → V a = U a) → (∀ r, r < i → V 162 r = 0) → z_Ex (z_MS d) 221 Q true 10 [some (.inr (.inr 141)), some (.inl (i : Int))] [] 0 0 V
  | 0, i, V, e, h1, h2 => by
    have e2 : i = 6 := by omega
    subst e2
    exact zb221_141_p10 _ (z_ifn (by omega) (h V h1 h2))
  | k + 1, i, V, e, h1, h2 => by
    refine zb221_141_p10 _ (z_ifp (by omega) (z_gp (by omega) (z_all ?_)))
    rw [z_inc (by omega), Int.toNat_natCast]
    refine lp221 h k (i + 1) _ (by omega) (fun a ha => by rw [z_up_cell ha]; exact h1 a ha) (fun r hr => ?_)
    by_cases e3 : r = i
    · subst e3; exact zUp_s
    · rw [zUp_o (by omega)]; exact h2 r (by omega)
theorem sp221 {V : z_M} {ρ : Nat → Int} {n R m : Nat} {lev : Nat → Int} {car : Nat → Nat → Bool} {tq : Nat → Nat} {g0 : Nat → Bool} (hC : zMC V ρ n R m lev car tq g0) (h : ∀ W, zFm 44 44 159 162 V W → zMC W ρ n R m lev car tq g0 → zMD W n (fun _ => 0) g0 → Q 0 W) : z_MS (d + 1) 221 true [.inr (.inr 141)] V Q := by
  refine zb221_141 (z_all (lp221 (fun W w1 w2 => ?_) 6 0 _ rfl (fun _ _ => rfl) (fun r hr => absurd hr (Nat.not_lt_zero r))))
  have e141 : W 141 = z_up V 141 44 (V 141 36) 141 := w1 141 (by decide)
  refine h W ⟨fun a x y => by rw [w1 a (by omega), z_up_cell x], fun k hk => by rw [e141, zUp_o (by omega)]⟩ (zMC_c hC ?_ ?_ ?_ ?_ ?_) ⟨?_, fun r hr => ⟨w2 r hr, Nat.zero_le _⟩⟩
  · rw [w1 143 (by decide), z_up_cell (by decide)]
  · rw [w1 156 (by decide), z_up_cell (by decide)]
  · rw [w1 157 (by decide), z_up_cell (by decide)]
  · rw [w1 158 (by decide), z_up_cell (by decide)]
  · rw [e141, zUp_o (by omega)]
  · rw [e141, zUp_s]
    exact hC.2.2.2.2.2.2.2
theorem sp225 {V : z_M} {a : Nat} (ha : a ≤ 7) (h : Q (V 143 (68 + 2 * a)) V) : z_MS (d + 1) 225 true [.inr (.inr 141), .inl (a : Int)] V Q := by
  refine zb225_141 _ ?_
  have e : z_add 68 (z_mul 2 (a : Int)) = ((68 + 2 * a : Nat) : Int) := by simp (disch := omega) only [z_mul_e, z_add_e, z_sub_e]; omega
  rw [e]
  refine z_gp (by omega) (z_all ?_)
  rw [Int.toNat_natCast]
  exact h
end
