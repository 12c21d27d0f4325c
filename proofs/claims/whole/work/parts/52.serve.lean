/-! the class's scene: who is served -/
theorem zSC_A {V : z_M} {n R : Nat} {lev str : Nat → Int} {dr : Int} {car : Nat → Nat → Bool} {A B : Nat → Bool} (h : zSC V n R lev str dr car A) (hA : ∀ q, q < R → B q = true → A q = true) : zSC V n R lev str dr car B :=
  ⟨h.1, h.2.1, h.2.2.1, fun r hr hB => h.2.2.2 r hr (hA r hr hB)⟩
theorem zDY_c {V W : z_M} {n : Nat} {w : Nat → Nat} {g : Nat → Bool} (h : zDY V n w g) (h1 : W 97 = V 97) (h2 : W 115 = V 115) : zDY W n w g := by
  unfold zDY at h ⊢
  rw [h1, h2]
  exact h
theorem zIn_g {n t : Nat} {g : Nat → Bool} (k : Nat) : (zIn n g k && !decide (k = t + 1)) = zIn n (zUg g t) k := by
  unfold zIn zUg
  by_cases e : k = 0
  · subst e
    simp
  · by_cases e2 : k = t + 1
    · subst e2
      simp
    · have : ¬ k - 1 = t := by omega
      simp [e, e2, this]
section
variable {d : Nat} {Q : Int → z_M → Prop}
theorem sp138 {V : z_M} {ρ : Nat → Int} {Λ : Nat → (Nat → Int) → Int} {r n R : Nat} (hSt : zSt V) (hT : zT 37 ρ V Λ) (hr : r < R) (hn : ρ 0 = (n : Int)) (hR : ρ 1 = (R : Int))
    (h : ∀ W, zOff 94 115 V W → zSC W n R (zLE ρ (fun t => t)) (zSR ρ) (ρ 7) (zCR ρ Λ (fun t => t)) (fun q => decide (q = r)) → zDY W n (fun _ => 0) (zG0 ρ (fun t => t)) → Q 0 W) :
    z_MS (d + 6) 138 true [.inr (.inr 36), .inl (r : Int)] V Q := by
  have a0 := zT_0 hT
  refine zb138_36 _ (sp48_6 (d := d + 2) (π := fun t => t) hT hn hR (by omega) (fun t ht => ⟨zSt_6 hSt (by omega), ht⟩) (fun W w1 w2 w3 w4 w5 => ?_))
  have oW : zOff 94 115 V W := fun a ha => w1 a (by omega) (by omega) (by omega)
  refine sp49 (A := fun _ => false) (zT_off hT oW (by decide) (by decide) (by decide)) (by omega) hn hR (fun p hp => zLE_b hT hn (fun t ht => ht) hp) ⟨w2, w3, w4, fun r hr hA => absurd hA (by simp)⟩ (fun X x1 x2 x3 x4 => h X (zOff_t oW (zOff_w x1 (by decide) (by decide))) (zSC_A x4 (fun q _ hq => by simpa using hq)) (zDY_c w5 x2 (x1 115 (by omega))))
theorem lp139 {U : z_M} {ρ : Nat → Int} {Λ : Nat → (Nat → Int) → Int} {n R : Nat} (hT : zT 37 ρ U Λ) (hn : ρ 0 = (n : Int)) (hR : ρ 1 = (R : Int)) (hD : zDY U n (fun _ => 0) (zG0 ρ (fun t => t)))
    (h : ∀ W, zOff 94 115 U W → zSC W n R (zLE ρ (fun t => t)) (zSR ρ) (ρ 7) (zCR ρ Λ (fun t => t)) (fun _ => true) → zDY W n (fun _ => 0) (zG0 ρ (fun t => t)) → Q 0 W) :
    ∀ k i V, i + k = R → zOff 94 113 U V → V 97 = U 97 → zSC V n R (zLE ρ (fun t => t)) (zSR ρ) (ρ 7) (zCR ρ Λ (fun t => t)) (fun q => decide (q < i)) → z_Ex (z_MS (d + 5)) 139 Q true 16 [some (.inr (.inr 36)), some (.inl (i : Int))] [] 0 0 V
  | 0, i, V, e, g1, g2, g3 => by
    have e2 : i = R := by omega
    subst e2
    have a1 := zT_1 hT
    refine zb139_36_p16 _ (z_ifn (by rw [g1 37 (by omega)]; omega) (h V (zOff_w g1 (by decide) (by decide)) (zSC_A g3 (fun q hq _ => by simpa using hq)) (zDY_c hD g2 (g1 115 (by omega)))))
  | k + 1, i, V, e, g1, g2, g3 => by
    have a1 := zT_1 hT
    refine zb139_36_p16 _ (z_ifp (by rw [g1 37 (by omega)]; omega) ?_)
    rw [z_inc (by omega)]
    refine sp49 (zT_off hT g1 (by decide) (by decide) (by decide)) (by omega) hn hR (fun p hp => zLE_b hT hn (fun t ht => ht) hp) g3 (fun X x1 x2 x3 x4 => ?_)
    refine lp139 hT hn hR hD h k (i + 1) X (by omega) (zOff_t g1 x1) (x2.trans g2) (zSC_A x4 (fun q _ hq => ?_))
    have hq2 : q < i + 1 := by simpa using hq
    by_cases e3 : q = i
    · simp [e3]
    · have : q < i := by omega
      simp [this]
theorem sp139 {V : z_M} {ρ : Nat → Int} {Λ : Nat → (Nat → Int) → Int} {n R : Nat} (hSt : zSt V) (hT : zT 37 ρ V Λ) (hn : ρ 0 = (n : Int)) (hR : ρ 1 = (R : Int))
    (h : ∀ W, zOff 94 115 V W → zSC W n R (zLE ρ (fun t => t)) (zSR ρ) (ρ 7) (zCR ρ Λ (fun t => t)) (fun _ => true) → zDY W n (fun _ => 0) (zG0 ρ (fun t => t)) → Q 0 W) :
    z_MS (d + 6) 139 true [.inr (.inr 36)] V Q := by
  have a0 := zT_0 hT
  refine zb139_36 (sp48_6 (d := d + 2) (π := fun t => t) hT hn hR (by omega) (fun t ht => ⟨zSt_6 hSt (by omega), ht⟩) (fun W w1 w2 w3 w4 w5 => ?_))
  have oW : zOff 94 115 V W := fun a ha => w1 a (by omega) (by omega) (by omega)
  exact lp139 (zT_off hT oW (by decide) (by decide) (by decide)) hn hR w5 (fun X x1 x2 x3 => h X (zOff_t oW x1) x2 x3) R 0 W (by omega) zOff_r rfl ⟨w2, w3, w4, fun r hr hA => absurd hA (by simp)⟩
theorem sp59 {V : z_M} {n R r t : Nat} {lev str : Nat → Int} {dr : Int} {car : Nat → Nat → Bool} {A : Nat → Bool} {w : Nat → Nat} {g : Nat → Bool} (hS : zSC V n R lev str dr car A) (hD : zDY V n w g) (hn : n ≤ 12) (hR : R ≤ 6) (hr : r < R) (hA : A r = true) (ht : t < n)
    (h0 : zSv n R lev str dr car w g r t = -1 → Q 0 V)
    (h1 : ∀ (p : Nat) W, zSv n R lev str dr car w g r t = (p : Int) → p ≤ n → (∀ a, ¬ a = 97 → ¬ a = 115 → W a = V a) → W 97 8 = V 97 8 → W 97 9 = V 97 9 → zDY W n (zUw w r p) (zUg g t) → Q 1 W) :
    z_MS (d + 3) 59 true [.inr (.inr 97), .inl (r : Int), .inl (t : Int)] V Q := by
  obtain ⟨s1, s2, s3, s4⟩ := hS
  obtain ⟨m1, m2⟩ := s4 r hr hA
  obtain ⟨d1, d2⟩ := hD
  refine zb59_97 _ _ ?_
  rw [s2, z_sub_e (by omega), z_inc (by omega)]
  refine sp133 (fun _ => z_ifn (by decide) ?_) (fun hc => absurd (by omega) hc)
  rw [s1, z_sub_e (by omega)]
  refine sp133 (fun _ => z_ifn (by decide) ?_) (fun hc => absurd (by omega) hc)
  rw [zBS_bit d1 (by omega)]
  have ein : zIn n g (t + 1) = !g t := by unfold zIn; simp; omega
  cases hg : g t with
  | true =>
    rw [ein, hg]
    refine z_ifp rfl (h0 ?_)
    unfold zSv
    rw [if_pos (Or.inl hg)]
  | false =>
    rw [ein, hg]
    refine z_ifn (by decide) ?_
    refine sp60 s2 hR (fun q hq => (d2 q hq).1) ?_
    by_cases hw : zAny R (fun q => decide (w q = t + 1)) = true
    · rw [if_pos hw]
      refine z_ifn (by decide) (h0 ?_)
      unfold zSv
      rw [if_pos (Or.inr hw)]
    · rw [if_neg hw]
      refine z_ifp rfl (z_gp (by omega) (z_all (z_gp (by omega) (z_all ?_))))
      rw [Int.toNat_natCast, zr107 (by omega), (zk107 (V := V) (r := r) (by omega)).2.2, (d2 r (by omega)).1]
      refine z_gp (zk107 (V := V) (by omega)).1 (z_gp (by omega) (z_all ?_))
      rw [Int.toNat_natCast]
      have esv : zSv n R lev str dr car w g r t = zNe (n + 1) (zLa (n + 1) (zAd n lev (str r) (str r + dr)) (zOp n (car r) g) (w r)) (zGr n lev (str r) (t + 1)) 13 := by
        unfold zSv
        rw [if_neg (by rintro (h | h); exact absurd (hg.symm.trans h) (by decide); exact hw h)]
      rw [esv] at h0
      rw [esv] at h1
      refine sp54 (op := zOp n (car r) g) s1 hn (by omega) (m2 (t + 1) (by omega)).2 m1 d1 (fun _ => rfl) (fun p hp => zOp_hi hp) (d2 r (by omega)).2 (fun q hq => (m2 q hq).1) ?_
      refine z_ifc h0 (fun hc => ?_)
      obtain ⟨p, hp, hp2⟩ := zNe_lt hc
      rw [hp] at h1 ⊢
      refine z_gp (by omega) (z_all (z_all ?_))
      have c97 : z_up V 115 r (p : Int) 97 = V 97 := z_up_cell (by decide)
      rw [c97]
      refine h1 p _ rfl (by omega) (fun a x y => by rw [z_up_cell x, z_up_cell y]) (by rw [zUp_o (by omega), c97]) (by rw [zUp_o (by omega), c97]) ⟨?_, fun q hq => ?_⟩
      · rw [zUp_s]
        exact zBS_c (zBS_andn d1 (zBS_pow (by omega))) zIn_g
      · rw [z_up_cell (by decide)]
        unfold zUw
        by_cases e : q = r
        · subst e
          rw [zUp_s, if_pos rfl]
          exact ⟨rfl, by omega⟩
        · rw [zUp_o (by omega), if_neg e]
          exact d2 q hq
theorem lp62 {V : z_M} {n R : Nat} {lev str : Nat → Int} {dr : Int} {car : Nat → Nat → Bool} {A : Nat → Bool} {w : Nat → Nat} {g : Nat → Bool} (hS : zSC V n R lev str dr car A) (hD : zDY V n w g) (hn : n ≤ 12) (hR : R ≤ 6) (hA : ∀ r, r < R → ¬ w r = 0 → A r = true)
    (h : ∀ z, zBS z (fun r => decide (r < R) && zSd n lev str dr car w g r) → Q z V) :
    ∀ k i z, i + k = R → zBS z (fun r => decide (r < i) && zSd n lev str dr car w g r) → z_Ex (z_MS (d + 2)) 62 Q true 4 [some (.inr (.inr 97)), some (.inl z), some (.inl (i : Int))] [] 0 0 V
  | 0, i, z, e, hz => by
    have e2 : i = R := by omega
    subst e2
    exact zb62_97_p4 _ _ (z_ifn (by rw [hS.2.1]; omega) (h z hz))
  | k + 1, i, z, e, hz => by
    obtain ⟨s1, s2, s3, s4⟩ := hS
    have d2 := hD.2 i (by omega)
    refine zb62_97_p4 _ _ (z_ifp (by omega) (z_gp (by omega) (z_all ?_)))
    rw [Int.toNat_natCast, d2.1, z_inc (by omega)]
    refine z_ifc (fun h0 => ?_) (fun h0 => ?_)
    · refine lp62 ⟨s1, s2, s3, s4⟩ hD hn hR hA h k (i + 1) z (by omega) (zBS_ex0 hz ?_)
      unfold zSd
      simp [show w i = 0 by omega]
    · obtain ⟨m1, m2⟩ := s4 i (by omega) (hA i (by omega) (by omega))
      refine z_gp (by omega) (z_all ?_)
      refine sp54 (op := zOp n (car i) g) s1 hn (by omega) zBS_1 m1 hD.1 (fun _ => rfl) (fun p hp => zOp_hi hp) d2.2 (fun q hq => (m2 q hq).1) ?_
      refine z_ifc (fun hc => ?_) (fun hc => ?_)
      · refine lp62 ⟨s1, s2, s3, s4⟩ hD hn hR hA h k (i + 1) _ (by omega) (zBS_ex1 hz ?_ (by omega))
        unfold zSd
        rw [hc]
        simp
        omega
      · refine lp62 ⟨s1, s2, s3, s4⟩ hD hn hR hA h k (i + 1) z (by omega) (zBS_ex0 hz ?_)
        unfold zSd
        simp [hc]
theorem sp62 {V : z_M} {n R : Nat} {lev str : Nat → Int} {dr : Int} {car : Nat → Nat → Bool} {A : Nat → Bool} {w : Nat → Nat} {g : Nat → Bool} (hS : zSC V n R lev str dr car A) (hD : zDY V n w g) (hn : n ≤ 12) (hR : R ≤ 6) (hA : ∀ r, r < R → ¬ w r = 0 → A r = true)
    (h : ∀ z, zBS z (fun r => decide (r < R) && zSd n lev str dr car w g r) → Q z V) : z_MS (d + 3) 62 true [.inr (.inr 97)] V Q :=
  zb62_97 (lp62 hS hD hn hR hA h R 0 0 (by omega) zBS_e0)
theorem sp64 {V : z_M} {n : Nat} {w : Nat → Nat} {g : Nat → Bool} (h8 : V 97 8 = (n : Int)) (hD : zDY V n w g) (hn : n ≤ 12) (h : ∀ z, zBS z (fun t => decide (t < n) && g t) → Q z V) : z_MS (d + 1) 64 true [.inr (.inr 97)] V Q := by
  refine zb64_97 ?_
  rw [h8]
  refine h _ (zBS_c (zBS_nand (zBS_ones (by omega)) (zBS_shr hD.1)) (fun k => ?_))
  unfold zIn
  by_cases e : k < n
  · have : k + 1 ≤ n := by omega
    simp [e, this]
  · simp [e]
theorem sp63 {V : z_M} {n : Nat} {w : Nat → Nat} {g : Nat → Bool} (hD : zDY V n w g) (h : ∀ z, zBS z (fun t => decide (t < n) && !g t) → Q z V) : z_MS (d + 1) 63 true [.inr (.inr 97)] V Q := by
  refine zb63_97 (h _ (zBS_c (zBS_shr hD.1) (fun k => ?_)))
  unfold zIn
  simp
  rw [show decide (k + 1 ≤ n) = decide (k < n) by simp; omega]
theorem lp61_6 {U : z_M} {ρ : Nat → Int} {Λ : Nat → (Nat → Int) → Int} {n R m : Nat} {lev str : Nat → Int} {dr : Int} {car : Nat → Nat → Bool} {A : Nat → Bool} {w : Nat → Nat} {g : Nat → Bool} {rq tq : Nat → Nat} (hT : zT 37 ρ U Λ) (hn0 : ρ 0 = (n : Int)) (hR0 : ρ 1 = (R : Int)) (hm : ρ 4 = (m : Int)) (hL : n ≤ 12) (hS : zSC U n R lev str dr car A)
    (hq : ∀ a, a < m → U 49 a = (rq a : Int) ∧ A (rq a) = true ∧ ∃ b : Nat, U 50 a = (b : Int) ∧ b < n ∧ U 6 b = (tq a : Int) ∧ tq a < n)
    (h : ∀ W z, (∀ a, ¬ a = 97 → ¬ a = 115 → W a = U a) → W 97 8 = U 97 8 → W 97 9 = U 97 9 → zDY W n (zPl (zSv n R lev str dr car) rq tq (w, g) m).1 (zPl (zSv n R lev str dr car) rq tq (w, g) m).2 → zBS z (fun a => decide (a < m) && zPb (zSv n R lev str dr car) rq tq (w, g) a) → Q z W) :
    ∀ k i V z o, i + k = m → (∀ a, ¬ a = 97 → ¬ a = 115 → V a = U a) → V 97 8 = U 97 8 → V 97 9 = U 97 9 → zDY V n (zPl (zSv n R lev str dr car) rq tq (w, g) i).1 (zPl (zSv n R lev str dr car) rq tq (w, g) i).2 → zBS z (fun a => decide (a < i) && zPb (zSv n R lev str dr car) rq tq (w, g) a) → z_Ex (z_MS (d + 3)) 61 Q true 5 [some (.inr (.inr 97)), some (.inr (.inr 37)), some (.inr (.inr 6)), some (.inl z), some (.inl (i : Int)), o] [] 0 0 V
  | 0, i, V, z, o, e, g1, g2, g3, g4, g5 => by
    have e2 : i = m := by omega
    subst e2
    have a4 := zT_4 hT
    refine zb61_97_37_6_p5 _ _ _ (z_ifn (by rw [g1 37 (by decide) (by decide)]; omega) (h V z g1 g2 g3 g4 g5))
  | k + 1, i, V, z, o, e, g1, g2, g3, g4, g5 => by
    have a4 := zT_4 hT
    have a0 := zT_0 hT
    have a1 := zT_1 hT
    have aa := zT_a hT (a := i) (by omega)
    obtain ⟨q1, q2, b, q3, q4, q5, q6⟩ := hq i (by omega)
    have q7 : U 49 i = ρ (68 + 2 * i) := aa.1
    refine zb61_97_37_6_p5 _ _ _ (z_ifp (by rw [g1 37 (by decide) (by decide)]; omega) (z_gp (by omega) (z_all ?_)))
    rw [Int.toNat_natCast, g1 50 (by decide) (by decide), q3, z_sub_e (by decide), z_inc (by omega)]
    refine sp133 (fun _ => z_ifn (by decide) ?_) (fun hc => absurd (by omega) hc)
    refine z_gp (by omega) (z_all (z_gp (by omega) (z_all ?_)))
    rw [Int.toNat_natCast, g1 49 (by decide) (by decide), q1, g1 6 (by decide) (by decide), q5]
    have hSV : zSC V n R lev str dr car A := zSC_up (by omega) hS g2 g3 (fun a x y => g1 a (by omega) (by omega))
    have hpl : zPl (zSv n R lev str dr car) rq tq (w, g) (i + 1) = zWs (zSv n R lev str dr car) (zPl (zSv n R lev str dr car) rq tq (w, g) i) (rq i) (tq i) := rfl
    refine sp59 hSV g4 (by omega) (by omega) (by omega) q2 q6 (fun h0 => z_ifp rfl ?_) (fun p W hp hp2 w1 w2 w3 w4 => z_ifn (by decide) ?_)
    · refine lp61_6 hT hn0 hR0 hm hL hS hq h k (i + 1) V z _ (by omega) g1 g2 g3 ?_ (zBS_ex0 g5 ?_)
      · rw [hpl]
        unfold zWs
        rw [if_pos h0]
        exact g4
      · unfold zPb
        rw [h0]
        rfl
    · refine lp61_6 hT hn0 hR0 hm hL hS hq h k (i + 1) W _ _ (by omega) (fun a x y => (w1 a x y).trans (g1 a x y)) (w2.trans g2) (w3.trans g3) ?_ (zBS_ex1 g5 ?_ (by omega))
      · rw [hpl]
        unfold zWs
        rw [if_neg (by rw [hp]; omega), hp, Int.toNat_natCast]
        exact w4
      · unfold zPb
        rw [hp]
        simp
theorem sp61_6 {V : z_M} {ρ : Nat → Int} {Λ : Nat → (Nat → Int) → Int} {n R m : Nat} {lev str : Nat → Int} {dr : Int} {car : Nat → Nat → Bool} {A : Nat → Bool} {w : Nat → Nat} {g : Nat → Bool} {rq tq : Nat → Nat} (hT : zT 37 ρ V Λ) (hn0 : ρ 0 = (n : Int)) (hR0 : ρ 1 = (R : Int)) (hm : ρ 4 = (m : Int)) (hL : n ≤ 12) (hS : zSC V n R lev str dr car A) (hD : zDY V n w g)
    (hq : ∀ a, a < m → V 49 a = (rq a : Int) ∧ A (rq a) = true ∧ ∃ b : Nat, V 50 a = (b : Int) ∧ b < n ∧ V 6 b = (tq a : Int) ∧ tq a < n)
    (h : ∀ W z, (∀ a, ¬ a = 97 → ¬ a = 115 → W a = V a) → W 97 8 = V 97 8 → W 97 9 = V 97 9 → zDY W n (zPl (zSv n R lev str dr car) rq tq (w, g) m).1 (zPl (zSv n R lev str dr car) rq tq (w, g) m).2 → zBS z (fun a => decide (a < m) && zPb (zSv n R lev str dr car) rq tq (w, g) a) → Q z W) :
    z_MS (d + 4) 61 true [.inr (.inr 97), .inr (.inr 37), .inr (.inr 6)] V Q :=
  zb61_97_37_6 (lp61_6 hT hn0 hR0 hm hL hS hq h m 0 V 0 none (by omega) (fun _ _ _ => rfl) rfl rfl hD zBS_e0)
theorem lp61_133 {U : z_M} {ρ : Nat → Int} {Λ : Nat → (Nat → Int) → Int} {n R m : Nat} {lev str : Nat → Int} {dr : Int} {car : Nat → Nat → Bool} {A : Nat → Bool} {w : Nat → Nat} {g : Nat → Bool} {rq tq : Nat → Nat} (hT : zT 37 ρ U Λ) (hn0 : ρ 0 = (n : Int)) (hR0 : ρ 1 = (R : Int)) (hm : ρ 4 = (m : Int)) (hL : n ≤ 6) (hS : zSC U n R lev str dr car A)
    (hq : ∀ a, a < m → U 49 a = (rq a : Int) ∧ A (rq a) = true ∧ ∃ b : Nat, U 50 a = (b : Int) ∧ b < n ∧ U 133 b = (tq a : Int) ∧ tq a < n)
    (h : ∀ W z, (∀ a, ¬ a = 97 → ¬ a = 115 → W a = U a) → W 97 8 = U 97 8 → W 97 9 = U 97 9 → zDY W n (zPl (zSv n R lev str dr car) rq tq (w, g) m).1 (zPl (zSv n R lev str dr car) rq tq (w, g) m).2 → zBS z (fun a => decide (a < m) && zPb (zSv n R lev str dr car) rq tq (w, g) a) → Q z W) :
    ∀ k i V z o, i + k = m → (∀ a, ¬ a = 97 → ¬ a = 115 → V a = U a) → V 97 8 = U 97 8 → V 97 9 = U 97 9 → zDY V n (zPl (zSv n R lev str dr car) rq tq (w, g) i).1 (zPl (zSv n R lev str dr car) rq tq (w, g) i).2 → zBS z (fun a => decide (a < i) && zPb (zSv n R lev str dr car) rq tq (w, g) a) → z_Ex (z_MS (d + 3)) 61 Q true 5 [some (.inr (.inr 97)), some (.inr (.inr 37)), some (.inr (.inr 133)), some (.inl z), some (.inl (i : Int)), o] [] 0 0 V
  | 0, i, V, z, o, e, g1, g2, g3, g4, g5 => by
    have e2 : i = m := by omega
    subst e2
    have a4 := zT_4 hT
    refine zb61_97_37_133_p5 _ _ _ (z_ifn (by rw [g1 37 (by decide) (by decide)]; omega) (h V z g1 g2 g3 g4 g5))
  | k + 1, i, V, z, o, e, g1, g2, g3, g4, g5 => by
    have a4 := zT_4 hT
    have a0 := zT_0 hT
    have a1 := zT_1 hT
    have aa := zT_a hT (a := i) (by omega)
    obtain ⟨q1, q2, b, q3, q4, q5, q6⟩ := hq i (by omega)
    have q7 : U 49 i = ρ (68 + 2 * i) := aa.1
    refine zb61_97_37_133_p5 _ _ _ (z_ifp (by rw [g1 37 (by decide) (by decide)]; omega) (z_gp (by omega) (z_all ?_)))
    rw [Int.toNat_natCast, g1 50 (by decide) (by decide), q3, z_sub_e (by decide), z_inc (by omega)]
    refine sp133 (fun _ => z_ifn (by decide) ?_) (fun hc => absurd (by omega) hc)
    refine z_gp (by omega) (z_all (z_gp (by omega) (z_all ?_)))
    rw [Int.toNat_natCast, g1 49 (by decide) (by decide), q1, g1 133 (by decide) (by decide), q5]
    have hSV : zSC V n R lev str dr car A := zSC_up (by omega) hS g2 g3 (fun a x y => g1 a (by omega) (by omega))
    have hpl : zPl (zSv n R lev str dr car) rq tq (w, g) (i + 1) = zWs (zSv n R lev str dr car) (zPl (zSv n R lev str dr car) rq tq (w, g) i) (rq i) (tq i) := rfl
    refine sp59 hSV g4 (by omega) (by omega) (by omega) q2 q6 (fun h0 => z_ifp rfl ?_) (fun p W hp hp2 w1 w2 w3 w4 => z_ifn (by decide) ?_)
    · refine lp61_133 hT hn0 hR0 hm hL hS hq h k (i + 1) V z _ (by omega) g1 g2 g3 ?_ (zBS_ex0 g5 ?_)
      · rw [hpl]
        unfold zWs
        rw [if_pos h0]
        exact g4
      · unfold zPb
        rw [h0]
        rfl
    · refine lp61_133 hT hn0 hR0 hm hL hS hq h k (i + 1) W _ _ (by omega) (fun a x y => (w1 a x y).trans (g1 a x y)) (w2.trans g2) (w3.trans g3) ?_ (zBS_ex1 g5 ?_ (by omega))
      · rw [hpl]
        unfold zWs
        rw [if_neg (by rw [hp]; omega), hp, Int.toNat_natCast]
        exact w4
      · unfold zPb
        rw [hp]
        simp
theorem sp61_133 {V : z_M} {ρ : Nat → Int} {Λ : Nat → (Nat → Int) → Int} {n R m : Nat} {lev str : Nat → Int} {dr : Int} {car : Nat → Nat → Bool} {A : Nat → Bool} {w : Nat → Nat} {g : Nat → Bool} {rq tq : Nat → Nat} (hT : zT 37 ρ V Λ) (hn0 : ρ 0 = (n : Int)) (hR0 : ρ 1 = (R : Int)) (hm : ρ 4 = (m : Int)) (hL : n ≤ 6) (hS : zSC V n R lev str dr car A) (hD : zDY V n w g)
    (hq : ∀ a, a < m → V 49 a = (rq a : Int) ∧ A (rq a) = true ∧ ∃ b : Nat, V 50 a = (b : Int) ∧ b < n ∧ V 133 b = (tq a : Int) ∧ tq a < n)
    (h : ∀ W z, (∀ a, ¬ a = 97 → ¬ a = 115 → W a = V a) → W 97 8 = V 97 8 → W 97 9 = V 97 9 → zDY W n (zPl (zSv n R lev str dr car) rq tq (w, g) m).1 (zPl (zSv n R lev str dr car) rq tq (w, g) m).2 → zBS z (fun a => decide (a < m) && zPb (zSv n R lev str dr car) rq tq (w, g) a) → Q z W) :
    z_MS (d + 4) 61 true [.inr (.inr 97), .inr (.inr 37), .inr (.inr 133)] V Q :=
  zb61_97_37_133 (lp61_133 hT hn0 hR0 hm hL hS hq h m 0 V 0 none (by omega) (fun _ _ _ => rfl) rfl rfl hD zBS_e0)
end
