/-! free, cut, boards: the reference -/
theorem z_demorgan (o s : Int) : z_or (z_xor o (-1)) s = z_xor (z_and o (z_xor s (-1))) (-1) := by
  unfold z_or z_xor z_and z_i32
  simp only [Int32.ofInt_toInt]
  have h : (Int32.ofInt o ^^^ Int32.ofInt (-1)) ||| Int32.ofInt s = (Int32.ofInt o &&& (Int32.ofInt s ^^^ Int32.ofInt (-1))) ^^^ Int32.ofInt (-1) := by
    refine Int32.toBitVec_inj.mp ?_
    refine BitVec.eq_of_getLsbD_eq fun k hk => ?_
    have h1 : (Int32.ofInt (-1)).toBitVec.getLsbD k = true := by
      have : ∀ j : Fin 32, (Int32.ofInt (-1)).toBitVec.getLsbD j.val = true := by decide +kernel
      exact this ⟨k, hk⟩
    show ((Int32.ofInt o).toBitVec ^^^ (Int32.ofInt (-1)).toBitVec ||| (Int32.ofInt s).toBitVec).getLsbD k = (((Int32.ofInt o).toBitVec &&& ((Int32.ofInt s).toBitVec ^^^ (Int32.ofInt (-1)).toBitVec)) ^^^ (Int32.ofInt (-1)).toBitVec).getLsbD k
    rw [BitVec.getLsbD_or, BitVec.getLsbD_xor, BitVec.getLsbD_xor, BitVec.getLsbD_and, BitVec.getLsbD_xor, h1]
    cases (Int32.ofInt o).toBitVec.getLsbD k <;> cases (Int32.ofInt s).toBitVec.getLsbD k <;> rfl
  rw [h]
theorem zDi_se {N p : Nat} {adj : Nat → Nat → Bool} {op : Nat → Bool} (hN : 0 < N) (hN2 : N ≤ 13) (hp : p < N) : zDi N adj op 0 p = -1 ↔ zSe N adj op 0 12 p = false := by
  rcases zDi_s (adj := adj) (op := op) hN hN2 hp with ⟨h1, h2⟩ | ⟨k, h1, h2, h3⟩
  · refine ⟨fun _ => ?_, fun _ => h1⟩
    cases hc : zSe N adj op 0 12 p with
    | false => rfl
    | true =>
      obtain ⟨j, _, hl⟩ := zSe_la.mp hc
      rw [h2 j] at hl; exact absurd hl (by decide)
  · constructor
    · intro h; omega
    · intro h
      rw [zSe_la.mpr ⟨k, by omega, h3⟩] at h
      exact absurd h (by decide)
def zCm (V : z_M) (st : Nat × Option Nat × Nat) : Prop := V 141 40 = (st.1 : Int) ∧ V 141 42 = (st.2.2 : Int) ∧ V 141 41 = (match st.2.1 with | none => (-1 : Int) | some b => (b : Int))
theorem zCm_c {V W : z_M} {st : Nat × Option Nat × Nat} (h : zCm V st) (h1 : W 141 = V 141) : zCm W st := by
  unfold zCm at h ⊢
  rw [h1]
  exact h
section
variable {d : Nat} {Q : Int → z_M → Prop}
theorem sp208 {V : z_M} {r : Nat} (hr : r < 6) (h : Q (z_and (V 157 r) (z_xor (V 141 36) (-1))) V) : z_MS (d + 1) 208 true [.inr (.inr 141), .inl (r : Int)] V Q := by
  refine zb208_141 _ (z_gp (by omega) (z_all ?_))
  rw [Int.toNat_natCast]
  exact h
theorem sp209 {V : z_M} {n r : Nat} {lev : Nat → Int} {up dr ov : Int} {op of : Nat → Bool} (hS : zFS V n r lev up dr) (hov : zBS ov of) (hop : ∀ q, op q = (decide (q = 0) || of (q - 1)))
    (h : ∀ W, (∀ a, ¬ a = 159 → W a = V a) → Q (if zSe (n + 1) (zAd n lev up (up + dr)) op 0 12 n = true then 1 else 0) W) : z_MS (d + 4) 209 true [.inr (.inr 141), .inl (r : Int), .inl ov] V Q := by
  have s2 := hS.2.1
  refine zb209_141 _ _ (sp207 (s := 0) hS (by omega) hov hop (fun W w1 w2 => sp154 (d := d + 2) ?_))
  rw [w1 143 (by decide), hS.1]
  refine z_gp (by omega) (z_all ?_)
  rw [Int.toNat_natCast, w2 n (by omega)]
  have hz := zDi_se (adj := zAd n lev up (up + dr)) (op := op) (p := n) (show 0 < n + 1 by omega) (by omega) (by omega)
  have hh := h W w1
  by_cases hc : zDi (n + 1) (zAd n lev up (up + dr)) op 0 n = -1
  · rw [if_pos hc]
    rw [hz.mp hc] at hh
    exact hh
  · rw [if_neg hc]
    cases hb : zSe (n + 1) (zAd n lev up (up + dr)) op 0 12 n with
    | false => exact absurd (hz.mpr hb) hc
    | true => rw [hb] at hh; exact hh
theorem lp213u {V : z_M} {st : Nat × Option Nat × Nat} {s : Nat} {mo : Bool} {more : Int} {o6 o7 : Option z_V} {l1 l2 l3 l4 : Int} (hi : zCi s st) (hs : s < 4096) (hx : zCm V st) (hm : (st.2.1 = none → 0 < more) ∧ ∀ b, st.2.1 = some b → (0 < more ↔ zBt mo (zCn12 b) (zCn12 s) = true) ∧ (more = 0 ↔ zCn12 s = zCn12 b))
    (h : ∀ W o6 o7, zFm 40 42 159 159 V W → zCm W (zCw mo st s) → z_Ex (z_MS d) 213 Q true 18 [some (.inr (.inr 141)), some (.inl l1), some (.inl l2), some (.inl l3), some (.inl l4), some (.inl ((s + 1 : Nat) : Int)), o6, o7] [] 0 0 W) :
    z_Ex (z_MS d) 213 Q true 117 [some (.inr (.inr 141)), some (.inl l1), some (.inl l2), some (.inl l3), some (.inl l4), some (.inl (s : Int)), o6, o7] [.inl more] 0 0 V := by
  obtain ⟨a, o, w⟩ := st
  obtain ⟨i1, i2, i3, i4⟩ := hi
  obtain ⟨x1, x2, x3⟩ := hx
  dsimp only at i1 i2 i3 i4 x1 x2 x3 hm
  refine zb213_141_p117 _ _ _ _ _ _ _ _ (z_all ?_)
  refine zb213_141_p157 _ _ _ _ _ _ _ _ (z_all (z_all ?_))
  rw [x1, z_inc (by omega), zUp_o (by omega), x2, z_inc (by omega), z_inc (by omega)]
  refine h _ _ _ (zFm_f (zFm_f (zFm_f zFm_r (by omega)) (by omega)) (by omega)) ?_
  have e41 : ∀ u v, z_up (z_up V 141 40 u) 141 42 v 141 41 = V 141 41 := fun u v => by rw [zUp_o (by omega), zUp_o (by omega)]
  rw [e41, x3]
  cases o with
  | none =>
    have hp := hm.1 rfl
    rw [if_pos hp, if_pos hp]
    refine ⟨?_, ?_, ?_⟩
    · rw [zUp_o (by omega), zUp_o (by omega), zUp_s]; rfl
    · rw [zUp_o (by omega), zUp_s]; rfl
    · rw [zUp_s]; rfl
  | some b =>
    obtain ⟨m1, m2⟩ := hm.2 b rfl
    unfold zCw
    dsimp only
    by_cases c1 : zBt mo (zCn12 b) (zCn12 s) = true
    · have hp := m1.mpr c1
      rw [if_pos hp, if_pos hp, if_pos c1]
      refine ⟨?_, ?_, ?_⟩
      · rw [zUp_o (by omega), zUp_o (by omega), zUp_s]
      · rw [zUp_o (by omega), zUp_s]; rfl
      · rw [zUp_s]
    · have hp : ¬ 0 < more := fun q => c1 (m1.mp q)
      rw [if_neg hp, if_neg hp, if_neg c1]
      by_cases c2 : zCn12 s = zCn12 b
      · rw [if_pos (m2.mpr c2), if_pos c2]
        refine ⟨?_, ?_, ?_⟩
        · rw [zUp_o (by omega), zUp_o (by omega), zUp_s]
        · rw [zUp_o (by omega), zUp_s]
        · rw [zUp_s]
      · rw [if_neg (fun q => c2 (m2.mp q)), if_neg c2]
        refine ⟨?_, ?_, ?_⟩
        · rw [zUp_o (by omega), zUp_o (by omega), zUp_s]
        · rw [zUp_o (by omega), zUp_s]
        · rw [zUp_s]
theorem lp213m {V : z_M} {st : Nat × Option Nat × Nat} {s kd : Nat} {b : Bool} {o6 o7 : Option z_V} {l1 l2 : Int} (hi : zCi s st) (hs : s < 4096) (hx : zCm V st)
    (h : ∀ W o6 o7, zFm 40 42 159 159 V W → zCm W (if (b == !decide (kd = 1)) = true then zCw (decide (kd = 0)) st s else st) → z_Ex (z_MS (d + 1)) 213 Q true 18 [some (.inr (.inr 141)), some (.inl l1), some (.inl l2), some (.inl (kd : Int)), some (.inl (if kd = 0 then 1 else -1)), some (.inl ((s + 1 : Nat) : Int)), o6, o7] [] 0 0 W) :
    z_Ex (z_MS (d + 1)) 213 Q true 86 [some (.inr (.inr 141)), some (.inl l1), some (.inl l2), some (.inl (kd : Int)), some (.inl (if kd = 0 then 1 else -1)), some (.inl (s : Int)), o6, o7] [.inl (if (kd : Int) = 1 then 0 else 1), .inl (if b = true then 1 else 0)] 0 0 V := by
  obtain ⟨a, o, w⟩ := st
  have hx2 := hx
  have hi2 := hi
  obtain ⟨i1, i2, i3, i4⟩ := hi2
  obtain ⟨x1, x2, x3⟩ := hx2
  dsimp only at i1 i2 i3 i4 x1 x2 x3
  refine zb213_141_p86 _ _ _ _ _ _ _ _ _ ?_
  rw [z_inc (by omega)]
  refine z_ifc (fun hz => ?_) (fun hz => ?_)
  · have hb : (b == !decide (kd = 1)) = true := by
      by_cases e1 : kd = 1
      · rw [if_pos (by omega : (kd : Int) = 1)] at hz
        cases b with
        | true => exact absurd hz (by decide)
        | false => simp [e1]
      · rw [if_neg (by omega : ¬ (kd : Int) = 1)] at hz
        cases b with
        | false => exact absurd hz (by decide)
        | true => simp [e1]
    rw [if_pos hb] at h
    rw [x3]
    cases o with
    | none =>
      refine z_ifp rfl ?_
      exact lp213u (d := d + 1) (mo := decide (kd = 0)) hi hs hx ⟨fun _ => by decide, fun b hb => by cases hb⟩ h
    | some b0 =>
      have h5 := i3 b0 rfl
      refine z_ifn (by show ¬ ((b0 : Int) = -1); omega) (sp147 (d := d) (by omega) ?_)
      rw [x3]
      refine sp147 (d := d) (by omega) ?_
      have l1 := zCn_le (s := s)
      have l2 := zCn_le (s := b0)
      rw [z_sub_e (by omega)]
      refine lp213u (d := d + 1) (mo := decide (kd = 0)) hi hs hx ⟨(fun hb => by cases hb), fun b hb => ?_⟩ h
      injection hb with hb
      subst hb
      unfold zBt
      by_cases e0 : kd = 0
      · rw [if_pos e0, z_mul_e (by omega)]
        simp [e0]
        omega
      · rw [if_neg e0, z_mul_e (by omega)]
        simp [e0]
        omega
  · have hb : ¬ (b == !decide (kd = 1)) = true := by
      by_cases e1 : kd = 1
      · rw [if_pos (by omega : (kd : Int) = 1)] at hz
        cases b with
        | true => simp [e1]
        | false => exact absurd rfl hz
      · rw [if_neg (by omega : ¬ (kd : Int) = 1)] at hz
        cases b with
        | false => simp [e1]
        | true => exact absurd rfl hz
    rw [if_neg hb] at h
    exact h V _ _ zFm_r hx
theorem zOp_gs {n kd s : Nat} {c g : Nat → Bool} (hs : ∀ k, s.testBit k = true → k < n) (q : Nat) : zOp n c (zGs kd g s) q = (decide (q = 0) || (if kd = 2 then (decide (q - 1 < n) && c (q - 1)) && !((decide (q - 1 < n) && g (q - 1)) && !s.testBit (q - 1)) else ((decide (q - 1 < n) && c (q - 1)) && !(decide (q - 1 < n) && g (q - 1))) && !s.testBit (q - 1))) := by
  rw [zOp_m]
  unfold zGs
  by_cases e : kd = 2
  · simp only [if_pos e]
    cases decide (q = 0) <;> cases decide (q - 1 < n) <;> cases c (q - 1) <;> cases g (q - 1) <;> cases s.testBit (q - 1) <;> rfl
  · simp only [if_neg e]
    cases decide (q = 0) <;> cases decide (q - 1 < n) <;> cases c (q - 1) <;> cases g (q - 1) <;> cases s.testBit (q - 1) <;> rfl
theorem lp213 {U V0 : z_M} {b0 : Nat} {ρ : Nat → Int} {Λ : Nat → (Nat → Int) → Int} {n R m r kd c : Nat} {lev : Nat → Int} {car : Nat → Nat → Bool} {tq : Nat → Nat} {g : Nat → Bool} (hT : zT b0 ρ V0 Λ) (hC : zMC U ρ n R m lev car tq g) (hl0 : lev 0 = 0) (hlb : ∀ p, p ≤ n → 0 ≤ lev p ∧ lev p ≤ 108) (hr : r < R) (hkd : kd ≤ 2) (hc : zBS (c : Int) (zCf kd n g)) (hc2 : c < 4096)
    (h : ∀ W, zFm 40 42 159 159 U W → zCm W (zCl (decide (kd = 0)) (zCp kd n (zAd n lev (zSR ρ r) (zSR ρ r + ρ 7)) (car r) g) (c + 1)) → Q 0 W) :
    ∀ (k s : Nat) (V : z_M) (o6 o7 : Option z_V), s + k = c + 1 → zFm 40 42 159 159 U V → zCm V (zCl (decide (kd = 0)) (zCp kd n (zAd n lev (zSR ρ r) (zSR ρ r + ρ 7)) (car r) g) s) → z_Ex (z_MS (d + 5)) 213 Q true 18 [some (.inr (.inr 141)), some (.inl (r : Int)), some (.inl (c : Int)), some (.inl (kd : Int)), some (.inl (if kd = 0 then 1 else -1)), some (.inl (s : Int)), o6, o7] [] 0 0 V
  | 0, s, V, o6, o7, e, hV, hx => by
    have e2 : s = c + 1 := by omega
    subst e2
    exact zb213_141_p18 _ _ _ _ _ _ _ (z_ifp (by omega) (h V hV hx))
  | k + 1, s, V, o6, o7, e, hV, hx => by
    have hs : s < 4096 := by omega
    have a1 := zT_1 hT
    have a0 := zT_0 hT
    have hS := zMC_fs hT hC hr hl0 hlb
    have hC2 := hC
    obtain ⟨c1, c2, c3, c4, c5, c6, c7, c8⟩ := hC2
    have hst := zCl_b (mo := decide (kd = 0)) (P := zCp kd n (zAd n lev (zSR ρ r) (zSR ρ r + ρ 7)) (car r) g) s
    have hSV := zFS_c hS (hV.1 143 (by decide) (by omega)) (hV.1 156 (by decide) (by omega))
    refine zb213_141_p18 _ _ _ _ _ _ _ (z_ifn (by omega) ?_)
    rw [z_inc (by omega)]
    refine z_ifc (fun hsub => ?_) (fun hsub => ?_)
    · have hsb := (zSub_i hc hs).mp hsub
      have hbit : ∀ k, s.testBit k = true → k < n := fun k hk => zCf_lt (zSub_b hsb hs hk)
      have hP : zCp kd n (zAd n lev (zSR ρ r) (zSR ρ r + ρ 7)) (car r) g s = (zSe (n + 1) (zAd n lev (zSR ρ r) (zSR ρ r + ρ 7)) (zOp n (car r) (zGs kd g s)) 0 12 n == !decide (kd = 1)) := by
        unfold zCp
        rw [hsb, Bool.true_and]
      have fin : ∀ ov of, zBS ov of → (∀ q, zOp n (car r) (zGs kd g s) q = (decide (q = 0) || of (q - 1))) → ∀ o6 o7, z_Ex (z_MS (d + 5)) 213 Q true 67 [some (.inr (.inr 141)), some (.inl (r : Int)), some (.inl (c : Int)), some (.inl (kd : Int)), some (.inl (if kd = 0 then 1 else -1)), some (.inl (s : Int)), o6, o7] [.inl ov] 0 0 V := by
        intro ov of hov hop o6 o7
        refine zb213_141_p67 _ _ _ _ _ _ _ _ (sp209 (d := d + 1) hSV hov hop (fun W w1 => ?_))
        refine lp213m (d := d + 4) (st := zCl (decide (kd = 0)) (zCp kd n (zAd n lev (zSR ρ r) (zSR ρ r + ρ 7)) (car r) g) s) hst hs (zCm_c hx (w1 141 (by decide))) (fun X p6 p7 x1 x2 => ?_)
        refine lp213 hT hC hl0 hlb hr hkd hc hc2 h k (s + 1) X p6 p7 (by omega) (zFm_t hV (zFm_t ⟨fun a x y => w1 a (by omega), fun k _ => by rw [w1 141 (by decide)]⟩ x1)) ?_
        unfold zCl
        rw [hP]
        exact x2
      have e157 : V 157 r = U 157 r := by rw [hV.1 157 (by decide) (by omega)]
      have e36 : V 141 36 = U 141 36 := hV.2 36 (by omega)
      refine z_ifc (fun k2 => ?_) (fun k2 => ?_)
      · have e2 : kd = 2 := by omega
        refine z_gp (by omega) (z_all ?_)
        rw [Int.toNat_natCast, e157, e36, z_demorgan]
        refine fin _ _ (zBS_andn (c6 r hr) (zBS_andn c8 (zBS_nat (by omega)))) (fun q => ?_) _ _
        rw [zOp_gs hbit]
        simp only [if_pos e2]
      · have e2 : ¬ kd = 2 := by omega
        refine sp208 (d := d + 4) (by omega) ?_
        rw [e157, e36]
        refine fin _ _ (zBS_andn (zBS_andn (c6 r hr) c8) (zBS_nat (by omega))) (fun q => ?_) _ _
        rw [zOp_gs hbit]
        simp only [if_neg e2]
    · refine lp213 hT hC hl0 hlb hr hkd hc hc2 h k (s + 1) V _ _ (by omega) hV ?_
      unfold zCl
      have hp : zCp kd n (zAd n lev (zSR ρ r) (zSR ρ r + ρ 7)) (car r) g s = false := by
        unfold zCp
        cases hb : zSub (zCf kd n g) s with
        | false => rfl
        | true => exact absurd ((zSub_i hc hs).mpr hb) hsub
      rw [hp]
      exact hx
theorem sp213 {V V0 : z_M} {b0 : Nat} {ρ : Nat → Int} {Λ : Nat → (Nat → Int) → Int} {n R m r kd c : Nat} {lev : Nat → Int} {car : Nat → Nat → Bool} {tq : Nat → Nat} {g : Nat → Bool} (hT : zT b0 ρ V0 Λ) (hC : zMC V ρ n R m lev car tq g) (hl0 : lev 0 = 0) (hlb : ∀ p, p ≤ n → 0 ≤ lev p ∧ lev p ≤ 108) (hr : r < R) (hkd : kd ≤ 2) (hc : zBS (c : Int) (zCf kd n g)) (hc2 : c < 4096)
    (h : ∀ W, zFm 40 42 159 159 V W → zCm W (zCl (decide (kd = 0)) (zCp kd n (zAd n lev (zSR ρ r) (zSR ρ r + ρ 7)) (car r) g) (c + 1)) → Q 0 W) :
    z_MS (d + 6) 213 true [.inr (.inr 141), .inl (r : Int), .inl (c : Int), .inl (kd : Int), .inl (if kd = 0 then 1 else -1)] V Q := by
  refine zb213_141 _ _ _ _ (z_all (z_all (z_all ?_)))
  have f : zFm 40 42 159 159 V (z_up (z_up (z_up V 141 40 0) 141 41 (-1)) 141 42 0) := zFm_f (zFm_f (zFm_f zFm_r (by omega)) (by omega)) (by omega)
  refine lp213 hT (zMC_c hC (f.1 143 (by decide) (by omega)) (f.1 156 (by decide) (by omega)) (f.1 157 (by decide) (by omega)) (f.1 158 (by decide) (by omega)) (f.2 36 (by omega))) hl0 hlb hr hkd hc hc2 (fun W w1 w2 => h W (zFm_t f w1) w2) (c + 1) 0 _ _ _ (by omega) zFm_r ⟨rfl, rfl, rfl⟩
theorem sp214 {V : z_M} {n : Nat} {g : Nat → Bool} (h0 : V 143 0 = (n : Int)) (hn : 1 ≤ n ∧ n ≤ 12) (h36 : zBS (V 141 36) (fun t => decide (t < n) && g t)) (h : ∀ c : Nat, c < 4096 → zBS (c : Int) (fun k => decide (k + 1 < n) && !g k) → Q (c : Int) V) : z_MS (d + 2) 214 true [.inr (.inr 141)] V Q := by
  refine zb214_141 (sp154 (d := d) (sp154 (d := d) ?_))
  rw [h0]
  obtain ⟨n', rfl⟩ : ∃ n', n = n' + 1 := ⟨n - 1, by omega⟩
  rw [z_dcs (by omega)]
  have hz : zBS (z_and (z_and (z_sub (z_shl 1 ((n' + 1 : Nat) : Int)) 1) (z_xor (V 141 36) (-1))) (z_xor (z_shl 1 (n' : Int)) (-1))) (fun k => decide (k + 1 < n' + 1) && !g k) := zBS_c (zBS_andn (zBS_andn (zBS_ones (by omega)) h36) (zBS_pow (by omega))) (fun k => by
    by_cases e : k < n'
    · have h1 : k < n' + 1 := by omega
      have h2 : ¬ k = n' := by omega
      simp [e, h1, h2]
    · by_cases e2 : k = n'
      · simp [e2]
      · have h1 : ¬ k < n' + 1 := by omega
        simp [e, h1])
  have h0 := hz.1
  obtain ⟨c, hc⟩ := Int.eq_ofNat_of_zero_le h0
  rw [hc] at hz ⊢
  have hlt := zBS_lt 12 hz (fun k hk => by simp; omega)
  exact h c (by omega) hz
theorem sp215 {V : z_M} {st : Nat × Option Nat × Nat} {what : Int} {n : Nat} (hn : n ≤ 5000) (hi : zCi n st) (hx : zCm V st) (hw : 0 ≤ what ∧ what ≤ 3) (h : Q (zCz st what) V) : z_MS (d + 2) 215 true [.inr (.inr 141), .inl what] V Q := by
  obtain ⟨a, o, w⟩ := st
  obtain ⟨i1, i2, i3, i4⟩ := hi
  obtain ⟨x1, x2, x3⟩ := hx
  dsimp only at i1 i2 i3 i4 x1 x2 x3
  unfold zCz at h
  refine zb215_141 _ ?_
  rw [x1, x2, x3]
  refine z_ifc (fun c => ?_) (fun c => z_ifc (fun c2 => ?_) (fun c2 => ?_))
  · rw [if_neg (by omega), if_pos c] at h; exact h
  · rw [if_pos c2] at h; exact h
  · rw [if_neg c2, if_neg c] at h
    cases o with
    | none => exact z_ifp rfl h
    | some b =>
      have := i3 b rfl
      refine z_ifn (by show ¬ ((b : Int) = -1); omega) (z_ifc (fun c3 => ?_) (fun c3 => ?_))
      · refine sp147 (d := d) (by omega) ?_
        have h' : Q (if what = 0 then (zCn12 b : Int) else (b : Int)) V := h
        rw [if_pos c3] at h'
        exact h'
      · have h' : Q (if what = 0 then (zCn12 b : Int) else (b : Int)) V := h
        rw [if_neg c3] at h'
        exact h'
end
