/-! tracks -/
def zFx (n : Nat) (adj : Nat → Nat → Bool) (op : Nat → Bool) (D : Nat) : Nat → Int
  | 0 => 0
  | j + 1 => z_or (zFx n adj op D j) (z_shl 1 ((zWy (n + 1) adj op D n (j + 1) : Int) - 1))
/-- the trail of one who goes to the top: -1 where there is none -/
def zTx (n : Nat) (adj : Nat → Nat → Bool) (op : Nat → Bool) : Int := if n = 0 ∨ zDi (n + 1) adj op 0 n = -1 then -1 else zFx n adj op (zDi (n + 1) adj op 0 n).toNat (zDi (n + 1) adj op 0 n).toNat
theorem zTx_D {n D : Nat} {adj : Nat → Nat → Bool} {op : Nat → Bool} (hn : 1 ≤ n) (h : zDi (n + 1) adj op 0 n = (D : Int)) : zTx n adj op = zFx n adj op D D := by
  unfold zTx
  rw [if_neg (by omega), h, Int.toNat_natCast]
theorem zTx_n {n : Nat} {adj : Nat → Nat → Bool} {op : Nat → Bool} (h : n = 0 ∨ zDi (n + 1) adj op 0 n = -1) : zTx n adj op = -1 := if_pos h
theorem z_or_0 {a b : Int} : z_or (z_or a b) 0 = z_or a b := by
  unfold z_or z_i32
  show (Int32.ofInt ((Int32.ofInt a ||| Int32.ofInt b).toInt) ||| Int32.ofInt 0).toInt = (Int32.ofInt a ||| Int32.ofInt b).toInt
  simp
def zTu (T : Nat → Int) (s : Nat) : Nat → Int
  | 0 => 0
  | r + 1 => if s.testBit r = true then z_or (zTu T s r) (T r) else zTu T s r
theorem zTu_0 {T : Nat → Int} {s : Nat} : ∀ r, z_or (zTu T s r) 0 = zTu T s r
  | 0 => by show z_or 0 0 = 0; decide +kernel
  | r + 1 => by
    unfold zTu
    split
    · exact z_or_0
    · exact zTu_0 r
def zTb (T : Nat → Int) (s R : Nat) : Bool := zAny R (fun r => s.testBit r && decide (T r = -1))
def zTm (T : Nat → Int) (R : Nat) (a : Int) (s : Nat) : Bool := !zTb T s R && decide (zTu T s R = a)
/-- over all sets below s: how many fit, the least of them, what is in all of them -/
def zFq (M : Nat → Bool) : Nat → Nat × Nat × Int
  | 0 => (0, 0, 0)
  | s + 1 => if M s = true then ((zFq M s).1 + 1, if (zFq M s).1 = 0 then s else if zCn12 s < zCn12 (zFq M s).2.1 then s else (zFq M s).2.1, if (zFq M s).1 = 0 then (s : Int) else z_and (zFq M s).2.2 s) else zFq M s
theorem zFq_b {M : Nat → Bool} : ∀ s, (zFq M s).1 ≤ s ∧ (zFq M s).2.1 ≤ s
  | 0 => ⟨Nat.le_refl 0, Nat.le_refl 0⟩
  | s + 1 => by
    have h := zFq_b (M := M) s
    unfold zFq
    split
    · refine ⟨by show _ + 1 ≤ _; omega, ?_⟩
      show (if _ then _ else if _ then _ else _) ≤ _
      split
      · omega
      · split <;> omega
    · omega
def zFr2 (st : Nat × Nat × Int) (i l3 l4 l5 : Int) : Prop := l3 = (st.1 : Int) ∧ (st.1 = 0 → l4 = -1 ∧ l5 = i) ∧ (¬ st.1 = 0 → l4 = (st.2.1 : Int) ∧ l5 = st.2.2)
def zFz (st : Nat × Nat × Int) (a : Int) : Int := if a = 0 then (st.1 : Int) else if st.1 = 0 then -1 else if a = 1 then (st.2.1 : Int) else st.2.2
theorem zSh : ∀ k : Fin 13, z_shl 1 (k.val : Int) = ((2 ^ k.val : Nat) : Int) := by decide +kernel
theorem zSh_e {k : Nat} (h : k ≤ 12) : z_shl 1 (k : Int) = ((2 ^ k : Nat) : Int) := zSh ⟨k, by omega⟩
theorem zP2 : ∀ k : Fin 13, 1 ≤ 2 ^ k.val ∧ 2 ^ k.val ≤ 4096 := by decide +kernel
theorem zP2_e {k : Nat} (h : k ≤ 12) : 1 ≤ 2 ^ k ∧ 2 ^ k ≤ 4096 := zP2 ⟨k, by omega⟩
theorem zP6 : ∀ k : Fin 7, 2 ^ k.val ≤ 64 := by decide +kernel
theorem zAn6 : ∀ k : Fin 7, ∀ s : Fin 64, s.val < 2 ^ k.val → z_and (((2 ^ k.val : Nat) : Int) - 1) (s.val : Int) = (s.val : Int) := by decide +kernel
theorem zAn63 : ∀ s : Fin 64, z_and 63 (s.val : Int) = (s.val : Int) := by decide +kernel
section
variable {d : Nat} {Q : Int → z_M → Prop}
theorem sp58 {V : z_M} {n r : Nat} {adj : Nat → Nat → Bool} {ca inn op : Nat → Bool} (h8 : V 97 8 = (n : Int)) (hn : n ≤ 12) (hr : r < 6) (hca : zBS (V 99 r) ca) (hin : zBS (V 97 7) inn) (ho : ∀ p, op p = (ca p && inn p)) (ha : ∀ q, q ≤ n → zBS (V (101 + r) q) (adj q)) (hhi : ∀ q p, n < p → adj q p = false) (hop : ∀ p, n < p → op p = false)
    (h : ∀ W, zOff 114 116 V W → Q (zTx n adj op) W) : z_MS (d + 4) 58 true [.inr (.inr 97), .inl (r : Int)] V Q := by
  refine zb58_97 _ ?_
  rw [h8]
  refine z_ifc (fun c => z_ifp rfl ?_) (fun c => ?_)
  · have := h V zOff_r
    rw [zTx_n (Or.inl (by omega))] at this
    exact this
  refine sp56 (d := d) (gl := n) (op := op) h8 hn hr (Nat.le_refl n) (by omega) hca hin ho ha hhi hop (fun q X x1 => z_ifp rfl ?_) (fun D q hD1 hD2 X x1 x2 => z_ifn (by omega) ?_)
  · have := h X x1
    rw [zTx_n (Or.inr q)] at this
    exact this
  · have lp : ∀ (k j : Nat), j + k = D → z_Ex (z_MS (d + 3)) 58 Q true 33 [some (.inr (.inr 97)), some (.inl (r : Int)), some (.inl (D : Int)), some (.inl (zFx n adj op D j)), some (.inl (j : Int))] [] 0 0 X := by
      intro k
      induction k with
      | zero =>
        intro j e
        have e2 : j = D := by omega
        subst e2
        have := h X x1
        rw [zTx_D (by omega) q] at this
        exact zb58_97_p33 _ _ _ _ (z_ifn (by omega) this)
      | succ k ih =>
        intro j e
        refine zb58_97_p33 _ _ _ _ (z_ifp (by omega) (z_ifp (by omega) (z_gp (by omega) (z_all ?_))))
        rw [Int.toNat_natCast, x2 j (by omega), z_inc (by omega)]
        exact ih (j + 1) (by omega)
    exact lp D 0 (by omega)
theorem sp142 {V : z_M} {ρ : Nat → Int} {Λ : Nat → (Nat → Int) → Int} {n R s : Nat} {lev str : Nat → Int} {dr : Int} {car : Nat → Nat → Bool} {g : Nat → Bool} (hT : zT 37 ρ V Λ) (hR : ρ 1 = (R : Int)) (hs : s < 2147483648) (hn : n ≤ 12) (h2 : zSC V n R lev str dr car (fun _ => true)) (h3 : zBS (V 97 7) (zIn n g))
    (h : ∀ W, zOff 114 116 V W → Q (if zTb (fun r => zTx n (zAd n lev (str r) (str r + dr)) (zOp n (car r) g)) s R = true then -1 else zTu (fun r => zTx n (zAd n lev (str r) (str r + dr)) (zOp n (car r) g)) s R) W) : z_MS (d + 5) 142 true [.inr (.inr 36), .inl (s : Int)] V Q := by
  have a1 := zT_1 hT
  generalize hTT : (fun r => zTx n (zAd n lev (str r) (str r + dr)) (zOp n (car r) g)) = T at h
  have lp : ∀ (k r : Nat) (W : z_M) (o4 : Option z_V), r + k = R → zOff 114 116 V W → zAny r (fun r => s.testBit r && decide (T r = -1)) = false → z_Ex (z_MS (d + 4)) 142 Q true 4 [some (.inr (.inr 36)), some (.inl (s : Int)), some (.inl (zTu T s r)), some (.inl (r : Int)), o4] [] 0 0 W := by
    intro k
    induction k with
    | zero =>
      intro r W o4 e hW hb
      have e2 : r = R := by omega
      subst e2
      have := h W hW
      unfold zTb at this
      rw [hb] at this
      exact zb142_36_p4 _ _ _ _ (z_ifn (by rw [hW 37 (by omega)]; omega) this)
    | succ k ih =>
      intro r W o4 e hW hb
      refine zb142_36_p4 _ _ _ _ (z_ifp (by rw [hW 37 (by omega)]; omega) ?_)
      rw [zBS_bit (zBS_nat hs) (by omega), z_inc (by omega)]
      by_cases c : s.testBit r = true
      · rw [if_pos c]
        obtain ⟨m1, m2⟩ := h2.2.2.2 r (by omega) rfl
        refine z_ifn (by decide) (sp58 (d := d) (n := n) (op := zOp n (car r) g) (by rw [hW 97 (by omega)]; exact h2.1) hn (by omega) (by rw [hW 99 (by omega)]; exact m1) (by rw [hW 97 (by omega)]; exact h3) (fun _ => rfl) (fun q hq => by rw [hW _ (by omega)]; exact (m2 q hq).1) (fun q p hp => zAd_hi hp) (fun p hp => zOp_hi hp) (fun X x1 => ?_))
        have eT : zTx n (zAd n lev (str r) (str r + dr)) (zOp n (car r) g) = T r := by rw [← hTT]
        rw [eT]
        have hX := zOff_t hW x1
        refine z_ifc (fun c2 => ?_) (fun c2 => ?_)
        · have hz : zTb T s R = true := zAny_iff.mpr ⟨r, by omega, by rw [c, c2]; rfl⟩
          have := h X hX
          rw [hz] at this
          exact this
        · have := ih (r + 1) X (some (.inl (T r))) (by omega) hX (by
            rw [zAny, hb, c]
            simp [c2])
          rw [zTu, if_pos c] at this
          exact this
      · rw [if_neg c]
        have c2 : s.testBit r = false := by simpa using c
        have := ih (r + 1) W o4 (by omega) hW (by rw [zAny, hb, c2]; rfl)
        rw [zTu, if_neg c] at this
        exact z_ifp rfl this
  exact zb142_36 _ (lp R 0 V none (by omega) zOff_r rfl)
theorem zMC_fm2 {U V W : z_M} {ρ : Nat → Int} {n R m : Nat} {lev : Nat → Int} {car : Nat → Nat → Bool} {tq : Nat → Nat} {g : Nat → Bool} (h : zMC U ρ n R m lev car tq g) (h1 : zFm 44 44 159 161 U V) (h2 : zFm 44 44 166 166 V W) : zMC W ρ n R m lev car tq g :=
  zMC_c h (by rw [h2.1 143 (by decide) (by omega), h1.1 143 (by decide) (by omega)]) (by rw [h2.1 156 (by decide) (by omega), h1.1 156 (by decide) (by omega)]) (by rw [h2.1 157 (by decide) (by omega), h1.1 157 (by decide) (by omega)]) (by rw [h2.1 158 (by decide) (by omega), h1.1 158 (by decide) (by omega)]) (by rw [h2.2 36 (by omega), h1.2 36 (by omega)])
theorem lp238 {U V0 : z_M} {b0 : Nat} {ρ : Nat → Int} {Λ : Nat → (Nat → Int) → Int} {n R m : Nat} {lev : Nat → Int} {car : Nat → Nat → Bool} {tq : Nat → Nat} {g : Nat → Bool} {l1 l2 : Int} (hT : zT b0 ρ V0 Λ) (hl0 : lev 0 = 0) (hlb : ∀ p, p ≤ n → 0 ≤ lev p ∧ lev p ≤ 108) (hn : ρ 0 = (n : Int)) (hR : ρ 1 = (R : Int))
    (h : ∀ W, zFm 44 44 159 166 U W → (∀ r, r < R → W 166 r = zTx n (zAd n lev (zSR ρ r) (zSR ρ r + ρ 7)) (zOp n (car r) g)) → z_Ex (z_MS (d + 6)) 238 Q true 149 [some (.inr (.inr 141)), some (.inl l1), some (.inl l2), some (.inl 0), some (.inl (-1)), some (.inl 63), some (.inl 0), none, none, none] [] 0 0 W) :
    ∀ (k r : Nat) (V : z_M) (o4 o5 : Option z_V), r + k = R → zFm 44 44 159 166 U V → zMC V ρ n R m lev car tq g → (∀ q, q < r → V 166 q = zTx n (zAd n lev (zSR ρ q) (zSR ρ q + ρ 7)) (zOp n (car q) g)) → z_Ex (z_MS (d + 6)) 238 Q true 43 [some (.inr (.inr 141)), some (.inl l1), some (.inl l2), some (.inl (r : Int)), o4, o5, none, none, none, none] [] 0 0 V
  | 0, r, V, o4, o5, e, v1, v2, v3 => by
    have e2 : r = R := by omega
    subst e2
    exact zb238_141_p43 _ _ _ _ _ (z_ifn (by rw [v2.1, hR]; omega) (h V v1 v3))
  | k + 1, r, V, o4, o5, e, v1, v2, v3 => by
    have a1 := zT_1 hT
    have a0 := zT_0 hT
    have nx : ∀ (W : z_M) (o4 o5 : Option z_V), zFm 44 44 159 166 U W → zMC W ρ n R m lev car tq g → (∀ q, q < r → W 166 q = V 166 q) → W 166 r = zTx n (zAd n lev (zSR ρ r) (zSR ρ r + ρ 7)) (zOp n (car r) g) → z_Ex (z_MS (d + 6)) 238 Q true 43 [some (.inr (.inr 141)), some (.inl l1), some (.inl l2), some (.inl ((r + 1 : Nat) : Int)), o4, o5, none, none, none, none] [] 0 0 W := by
      intro W o4 o5 w1 w2 w3 w4
      refine lp238 hT hl0 hlb hn hR h k (r + 1) W o4 o5 (by omega) w1 w2 (fun q hq => ?_)
      by_cases eq : q = r
      · subst eq; exact w4
      · rw [w3 q (by omega)]; exact v3 q (by omega)
    refine zb238_141_p43 _ _ _ _ _ (z_ifp (by rw [v2.1, hR]; omega) (z_gp (by omega) (z_all ?_)))
    rw [Int.toNat_natCast]
    have f1 : zFm 44 44 159 166 V (z_up V 166 r (-1)) := zFm_u zFm_r (by omega)
    have g1 : zMC (z_up V 166 r (-1)) ρ n R m lev car tq g := zMC_c v2 (by rw [z_up_cell (by decide)]) (by rw [z_up_cell (by decide)]) (by rw [z_up_cell (by decide)]) (by rw [z_up_cell (by decide)]) (by rw [z_up_cell (by decide)])
    refine sp154 (d := d + 5) ?_
    rw [g1.1, hn]
    refine z_ifc (fun c => zb238_141_p87 _ _ _ _ _ (z_ifn (by decide) ?_)) (fun c => ?_)
    · rw [z_inc (by omega)]
      refine nx _ _ _ (zFm_t v1 f1) g1 (fun q hq => zUp_o (by omega)) ?_
      rw [zUp_s, zTx_n (Or.inl (by omega))]
    refine sp154 (d := d + 5) ?_
    rw [g1.1, hn, z_sub_e (by omega), show (n : Int) - 1 = ((n - 1 : Nat) : Int) by omega]
    refine sp211 (d := d + 1) (gl := n) hT g1 hl0 hlb (by omega) (Nat.le_refl n) (by omega) (fun q Z z1 => zb238_141_p87 _ _ _ _ _ (z_ifn (by decide) ?_)) (fun D q hD1 hD2 Z z1 z2 => ?_)
    · rw [z_inc (by omega)]
      have e166 : Z 166 = z_up V 166 r (-1) 166 := z1.1 166 (by decide) (by omega)
      refine nx _ _ _ (zFm_t v1 (zFm_t f1 (zFm_w z1 (by omega)))) (zMC_fm2 g1 z1 zFm_r) (fun q hq => by rw [e166]; exact zUp_o (by omega)) ?_
      rw [e166, zUp_s, zTx_n (Or.inr q)]
    · have e166 : Z 166 = z_up V 166 r (-1) 166 := z1.1 166 (by decide) (by omega)
      have lp : ∀ (k2 j : Nat) (X : z_M), j + k2 = D → zFm 44 44 166 166 Z X → (∀ q, ¬ q = r → X 166 q = V 166 q) → (j = 0 ∨ X 166 r = zFx n (zAd n lev (zSR ρ r) (zSR ρ r + ρ 7)) (zOp n (car r) g) D j) → z_Ex (z_MS (d + 6)) 238 Q true 87 [some (.inr (.inr 141)), some (.inl l1), some (.inl l2), some (.inl (r : Int)), some (.inl (D : Int)), some (.inl (j : Int)), none, none, none, none] [] 0 0 X := by
        intro k2
        induction k2 with
        | zero =>
          intro j X e2 x1 x2 x3
          have e3 : j = D := by omega
          subst e3
          refine zb238_141_p87 _ _ _ _ _ (z_ifn (by omega) ?_)
          rw [z_inc (by omega)]
          refine nx _ _ _ (zFm_t v1 (zFm_t f1 (zFm_t (zFm_w z1 (by omega)) (zFm_w x1 (by omega))))) (zMC_fm2 g1 z1 x1) (fun q hq => x2 q (by omega)) ?_
          · rw [zTx_D (by omega) q]
            rcases x3 with x3 | x3
            · omega
            · exact x3
        | succ k2 ih =>
          intro j X e2 x1 x2 x3
          have e160 : X 160 = Z 160 := x1.1 160 (by decide) (by omega)
          refine zb238_141_p87 _ _ _ _ _ (z_ifp (by omega) (z_ifc (fun c => z_gp (by omega) (z_all (z_gp (by omega) (z_all ?_)))) (fun c => z_gp (by omega) (z_all (z_gp (by omega) (z_all (z_gp (by omega) (z_all ?_))))))))
          · have ej : j = 0 := by omega
            subst ej
            rw [Int.toNat_natCast, Int.toNat_natCast, e160, z2 0 (by omega), z_inc (i := 0) (by omega)]
            refine ih 1 _ (by omega) (zFm_u x1 (by omega)) (fun q hq => by rw [zUp_o (by omega)]; exact x2 q hq) (Or.inr zUp_s)
          · rw [Int.toNat_natCast, Int.toNat_natCast, e160, z2 j (by omega), z_inc (i := j) (by omega)]
            have x4 : X 166 r = zFx n (zAd n lev (zSR ρ r) (zSR ρ r + ρ 7)) (zOp n (car r) g) D j := by
              rcases x3 with x3 | x3
              · omega
              · exact x3
            rw [x4]
            refine ih (j + 1) _ (by omega) (zFm_u x1 (by omega)) (fun q hq => by rw [zUp_o (by omega)]; exact x2 q hq) (Or.inr zUp_s)
      exact lp D 0 Z (by omega) zFm_r (fun q hq => by rw [e166]; exact zUp_o (by omega)) (Or.inl rfl)
end
