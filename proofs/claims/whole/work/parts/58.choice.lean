/-! free, cut, boards: sets of treads -/
def zCf (kd n : Nat) (g : Nat → Bool) (k : Nat) : Bool := if kd = 2 then decide (k < n) && g k else decide (k + 1 < n) && !g k
def zGs (kd : Nat) (g : Nat → Bool) (s : Nat) (k : Nat) : Bool := if kd = 2 then g k && !s.testBit k else g k || s.testBit k
def zSub (f : Nat → Bool) (s : Nat) : Bool := !zAny 12 (fun k => s.testBit k && !f k)
def zCp (kd n : Nat) (adj : Nat → Nat → Bool) (c g : Nat → Bool) (s : Nat) : Bool := zSub (zCf kd n g) s && (zSe (n + 1) adj (zOp n c (zGs kd g s)) 0 12 n == !decide (kd = 1))
def zCx (V : z_M) (st : Nat × Option Nat × Nat) : Prop := V 117 3 = (st.1 : Int) ∧ V 117 2 = (st.2.2 : Int) ∧ ∀ b, st.2.1 = some b → V 117 1 = (b : Int) ∧ V 117 0 = (zCn12 b : Int)
def zCz (st : Nat × Option Nat × Nat) (what : Int) : Int := if what = 2 then (st.2.2 : Int) else if what = 3 then (st.1 : Int) else match st.2.1 with | none => -1 | some b => if what = 0 then (zCn12 b : Int) else (b : Int)
theorem zSub_i {f : Nat → Bool} {s : Nat} {c : Int} (hc : zBS c f) (hs : s < 4096) : z_and (s : Int) (z_xor c (-1)) = 0 ↔ zSub f s = true := by
  rw [zBS_z (zBS_andn (zBS_nat (by omega)) hc)]
  unfold zSub
  rw [Bool.not_eq_true', zAny_f]
  constructor
  · intro h q _; exact h q
  · intro h k
    by_cases hk : k < 12
    · exact h k hk
    · have : s.testBit k = false := Nat.testBit_lt_two_pow (Nat.lt_of_lt_of_le hs (Nat.pow_le_pow_right (n := 2) (by omega) (show 12 ≤ k by omega)))
      rw [this]; rfl
theorem zSub_b {f : Nat → Bool} {s k : Nat} (h : zSub f s = true) (hs : s < 4096) (hk : s.testBit k = true) : f k = true := by
  unfold zSub at h
  rw [Bool.not_eq_true', zAny_f] at h
  have hk2 : k < 12 := by
    by_cases e : k < 12
    · exact e
    · have : s.testBit k = false := Nat.testBit_lt_two_pow (Nat.lt_of_lt_of_le hs (Nat.pow_le_pow_right (n := 2) (by omega) (show 12 ≤ k by omega)))
      rw [this] at hk; exact absurd hk (by decide)
  have := h k hk2
  rw [hk] at this
  simpa using this
theorem zCf_lt {kd n k : Nat} {g : Nat → Bool} (h : zCf kd n g k = true) : k < n := by
  unfold zCf at h
  split at h
  · rw [Bool.and_eq_true] at h; simpa using h.1
  · rw [Bool.and_eq_true] at h
    have : k + 1 < n := by simpa using h.1
    omega
theorem zCn_le {s : Nat} : zCn12 s ≤ 12 := zCt_le
section
variable {d : Nat} {Q : Int → z_M → Prop}
theorem lpj9 {U V : z_M} {s : Nat} {a b w : Nat} {o1 o2 : Option z_V} (hV : ∀ x, ¬ x = 117 → V x = U x) (h3 : V 117 3 = (a : Int)) (h2 : V 117 2 = (w : Int)) (h1 : V 117 1 = (b : Int)) (h0 : V 117 0 = (zCn12 b : Int)) (ha : a ≤ 4096) (hw : w ≤ 4096)
    (h : ∀ W, (∀ x, ¬ x = 117 → W x = U x) → zCx W (if zCn12 s = zCn12 b then (a + 1, some b, w + 1) else (a + 1, some b, w)) → Q 0 W) : z_Ex (z_MS d) 9 Q true 50 [some (.inr (.inr 117)), o1, o2, some (.inl (zCn12 s : Int))] [] 0 0 V := by
  refine zb9_117_p50 _ _ _ ?_
  rw [h0]
  refine z_ifc (fun c => z_all (z_all ?_)) (fun c => z_all ?_)
  · rw [if_pos (by omega)] at h
    rw [h2, z_inc (by omega), zUp_o (by omega), h3, z_inc (by omega)]
    refine h _ (fun x hx => by rw [z_up_cell hx, z_up_cell hx]; exact hV x hx) ⟨zUp_s, by rw [zUp_o (by omega)]; exact zUp_s, fun c hc => ?_⟩
    injection hc with hc
    subst hc
    exact ⟨by rw [zUp_o (by omega), zUp_o (by omega)]; exact h1, by rw [zUp_o (by omega), zUp_o (by omega)]; exact h0⟩
  · rw [if_neg (by omega)] at h
    rw [h3, z_inc (by omega)]
    refine h _ (fun x hx => by rw [z_up_cell hx]; exact hV x hx) ⟨zUp_s, by rw [zUp_o (by omega)]; exact h2, fun c hc => ?_⟩
    injection hc with hc
    subst hc
    exact ⟨by rw [zUp_o (by omega)]; exact h1, by rw [zUp_o (by omega)]; exact h0⟩
theorem sp9 {V : z_M} {s : Nat} {mo : Bool} {st : Nat × Option Nat × Nat} {fl : Int} (hs : s < 4096) (hi : zCi s st) (hx : zCx V st) (hf : fl = if mo then 1 else 0) (h : ∀ W, (∀ x, ¬ x = 117 → W x = V x) → zCx W (zCw mo st s) → Q 0 W) : z_MS (d + 2) 9 true [.inr (.inr 117), .inl (s : Int), .inl fl] V Q := by
  obtain ⟨a, o, w⟩ := st
  obtain ⟨i1, i2, i3, i4⟩ := hi
  obtain ⟨x1, x2, x3⟩ := hx
  dsimp only at i1 i2 i3 i4 x1 x2 x3
  have hle := zCn_le (s := s)
  refine zb9_117 _ _ (sp256 ?_)
  rw [zBc_e hs]
  have fresh : zCw mo (a, o, w) s = (a + 1, some s, 1) → z_Ex (z_MS (d + 1)) 9 Q true 50 [some (.inr (.inr 117)), some (.inl (s : Int)), some (.inl fl), some (.inl (zCn12 s : Int))] [] 0 0 (z_up (z_up (z_up V 117 0 (zCn12 s : Int)) 117 1 (s : Int)) 117 2 0) := by
    intro hz
    rw [hz] at h
    refine lpj9 (U := V) (a := a) (b := s) (w := 0) (fun x hx => by rw [z_up_cell hx, z_up_cell hx, z_up_cell hx]) (by rw [zUp_o (by omega), zUp_o (by omega), zUp_o (by omega)]; exact x1) zUp_s (by rw [zUp_o (by omega)]; exact zUp_s) (by rw [zUp_o (by omega), zUp_o (by omega)]; exact zUp_s) (by omega) (by omega) ?_
    rw [if_pos rfl]
    exact h
  rw [x1]
  cases o with
  | none =>
    have := i4 rfl
    refine z_ifp (by omega) (z_all (z_all (z_all (fresh ?_))))
    rfl
  | some b =>
    obtain ⟨b1, b2⟩ := i3 b rfl
    obtain ⟨y1, y2⟩ := x3 b rfl
    have same : ¬ zBt mo (zCn12 b) (zCn12 s) = true → z_Ex (z_MS (d + 1)) 9 Q true 50 [some (.inr (.inr 117)), some (.inl (s : Int)), some (.inl fl), some (.inl (zCn12 s : Int))] [] 0 0 V := by
      intro hn
      have hz : zCw mo (a, some b, w) s = if zCn12 s = zCn12 b then (a + 1, some b, w + 1) else (a + 1, some b, w) := by
        unfold zCw
        dsimp only
        rw [if_neg hn]
      rw [hz] at h
      exact lpj9 (U := V) (fun _ _ => rfl) x1 x2 y1 y2 (by omega) (by omega) h
    have better : zBt mo (zCn12 b) (zCn12 s) = true → zCw mo (a, some b, w) s = (a + 1, some s, 1) := by
      intro hb
      unfold zCw
      dsimp only
      rw [if_pos hb]
    refine z_ifn (by omega) ?_
    rw [y2]
    cases mo with
    | false =>
      refine z_ifp (by rw [hf]; rfl) (z_ifc (fun c => z_all (z_all (z_all (fresh (better ?_))))) (fun c => same ?_))
      · unfold zBt; simp; try omega
      · unfold zBt; simp; try omega
    | true =>
      refine z_ifn (by rw [hf]; decide) (z_ifc (fun c => z_all (z_all (z_all (fresh (better ?_))))) (fun c => same ?_))
      · unfold zBt; simp; try omega
      · unfold zBt; simp; try omega
theorem sp10 {V : z_M} {st : Nat × Option Nat × Nat} {what : Int} {n : Nat} (hi : zCi n st) (hx : zCx V st) (hw : 0 ≤ what ∧ what ≤ 3) (h : Q (zCz st what) V) : z_MS (d + 1) 10 true [.inr (.inr 117), .inl what] V Q := by
  obtain ⟨a, o, w⟩ := st
  obtain ⟨i1, i2, i3, i4⟩ := hi
  obtain ⟨x1, x2, x3⟩ := hx
  dsimp only at i1 i2 i3 i4 x1 x2 x3
  unfold zCz at h
  refine zb10_117 _ ?_
  rw [x1, x2]
  refine z_ifc (fun c => ?_) (fun c => z_ifc (fun c2 => ?_) (fun c2 => ?_))
  · rw [if_pos c] at h; exact h
  · rw [if_neg c, if_pos c2] at h; exact h
  · rw [if_neg c, if_neg c2] at h
    cases o with
    | none =>
      have := i4 rfl
      exact z_ifp (by omega) h
    | some b =>
      have := i3 b rfl
      obtain ⟨y1, y2⟩ := x3 b rfl
      rw [y1, y2]
      exact z_ifn (by omega) h
theorem zIn_gs0 {n kd s : Nat} {g : Nat → Bool} (hk : ¬ kd = 2) (k : Nat) : (zIn n g k && !(decide (0 < k) && s.testBit (k - 1))) = zIn n (zGs kd g s) k := by
  unfold zIn zGs
  rw [if_neg hk]
  by_cases e : k = 0
  · simp [e]
  · have : 0 < k := by omega
    simp [e, this]
    cases decide (k ≤ n) <;> cases g (k - 1) <;> cases s.testBit (k - 1) <;> rfl
theorem zIn_gs2 {n kd s : Nat} {g : Nat → Bool} (hk : kd = 2) (hs : ∀ k, s.testBit k = true → k < n) (k : Nat) : (zIn n g k || (decide (0 < k) && s.testBit (k - 1))) = zIn n (zGs kd g s) k := by
  unfold zIn zGs
  rw [if_pos hk]
  by_cases e : k = 0
  · simp [e]
  · have h0 : 0 < k := by omega
    cases hb : s.testBit (k - 1) with
    | false => simp [e, h0]
    | true =>
      have := hs (k - 1) hb
      have hkn : k ≤ n := by omega
      simp [e, h0, hkn]
theorem lpj8 {U : z_M} {n R r kd c : Nat} {lev str : Nat → Int} {dr : Int} {car : Nat → Nat → Bool} {A : Nat → Bool} {g : Nat → Bool} {o5 : Option z_V} (hS : zSC U n R lev str dr car A) (hD : zBS (U 97 7) (zIn n g)) (hn : n ≤ 12) (hR : R ≤ 6) (hr : r < R) (hA : A r = true) (hkd : kd ≤ 2) (hc : zBS (c : Int) (zCf kd n g)) (hc2 : c < 4096)
    (h : ∀ W, (∀ x, ¬ x = 117 → W x = U x) → zCx W (zCl (decide (kd = 0)) (zCp kd n (zAd n lev (str r) (str r + dr)) (car r) g) (c + 1)) → Q 0 W) :
    ∀ (k s : Nat) (V : z_M), s + k = c + 1 → (∀ x, ¬ x = 117 → ¬ x = 97 → V x = U x) → (∀ j, ¬ j = 7 → V 97 j = U 97 j) → zCx V (zCl (decide (kd = 0)) (zCp kd n (zAd n lev (str r) (str r + dr)) (car r) g) s) → z_Ex (z_MS (d + 4)) 8 Q true 52 [some (.inr (.inr 117)), some (.inr (.inr 97)), some (.inl (r : Int)), some (.inl (kd : Int)), some (.inl (U 97 7)), o5, some (.inl (c : Int)), some (.inl (s : Int))] [] 0 0 V
  | 0, s, V, e, h1, h2, h3 => by
    have e2 : s = c + 1 := by omega
    subst e2
    refine zb8_117_97_p52 _ _ _ _ _ _ (z_ifp (by omega) (z_all ?_))
    refine h _ (fun x hx => ?_) ?_
    · funext j
      by_cases ex : x = 97
      · subst ex
        by_cases ej : j = 7
        · subst ej; exact zUp_s
        · rw [zUp_o (by omega)]; exact h2 j ej
      · rw [z_up_cell ex, h1 x hx ex]
    · unfold zCx at h3 ⊢
      rw [z_up_cell (by decide)]
      exact h3
  | k + 1, s, V, e, h1, h2, h3 => by
    have hs : s < 4096 := by omega
    have hst := zCl_b (mo := decide (kd = 0)) (P := zCp kd n (zAd n lev (str r) (str r + dr)) (car r) g) s
    refine zb8_117_97_p52 _ _ _ _ _ _ (z_ifn (by omega) ?_)
    rw [z_inc (by omega)]
    have skip : zCp kd n (zAd n lev (str r) (str r + dr)) (car r) g s = false → ∀ W, (∀ x, ¬ x = 117 → ¬ x = 97 → W x = U x) → (∀ j, ¬ j = 7 → W 97 j = U 97 j) → W 117 = V 117 → z_Ex (z_MS (d + 4)) 8 Q true 52 [some (.inr (.inr 117)), some (.inr (.inr 97)), some (.inl (r : Int)), some (.inl (kd : Int)), some (.inl (U 97 7)), o5, some (.inl (c : Int)), some (.inl ((s + 1 : Nat) : Int))] [] 0 0 W := by
      intro hp W w1 w2 w3
      refine lpj8 hS hD hn hR hr hA hkd hc hc2 h k (s + 1) W (by omega) w1 w2 ?_
      unfold zCl
      rw [hp]
      unfold zCx at h3 ⊢
      rw [w3]
      exact h3
    refine z_ifc (fun hsub => z_all ?_) (fun hsub => skip ?_ V h1 h2 rfl)
    · have hsb := (zSub_i hc hs).mp hsub
      have hbit : ∀ k, s.testBit k = true → k < n := fun k hk => zCf_lt (zSub_b hsb hs hk)
      generalize hW : z_up V 97 7 _ = W
      have w1 : ∀ x, ¬ x = 117 → ¬ x = 97 → W x = U x := fun x a b => by subst hW; rw [z_up_cell b]; exact h1 x a b
      have w2 : ∀ j, ¬ j = 7 → W 97 j = U 97 j := fun j a => by subst hW; rw [zUp_o (by omega)]; exact h2 j a
      have w3 : W 117 = V 117 := by subst hW; exact z_up_cell (by decide)
      have w7 : zBS (W 97 7) (zIn n (zGs kd g s)) := by
        subst hW
        rw [zUp_s]
        by_cases e2 : kd = 2
        · rw [if_pos (by omega)]
          exact zBS_c (zBS_or hD (zBS_shl (zBS_nat (by omega)) (by omega))) (zIn_gs2 e2 hbit)
        · rw [if_neg (by omega)]
          exact zBS_c (zBS_andn hD (zBS_shl (zBS_nat (by omega)) (by omega))) (zIn_gs0 e2)
      clear hW
      have hSW : zSC W n R lev str dr car A := zSC_up hR hS (w2 8 (by decide)) (w2 9 (by decide)) (fun a x y => w1 a (by omega) (by omega))
      obtain ⟨m1, m2⟩ := hSW.2.2.2 r hr hA
      refine sp55 (d := d + 1) (op := zOp n (car r) (zGs kd g s)) hSW.1 hn (by omega) m1 w7 (fun _ => rfl) (fun p hp => zOp_hi hp) (fun q hq => (m2 q hq).1) ?_
      have hP : zCp kd n (zAd n lev (str r) (str r + dr)) (car r) g s = (zSe (n + 1) (zAd n lev (str r) (str r + dr)) (zOp n (car r) (zGs kd g s)) 0 12 n == !decide (kd = 1)) := by
        unfold zCp
        rw [hsb, Bool.true_and]
      refine z_ifc (fun hz => ?_) (fun hz => skip ?_ W w1 w2 w3)
      · have hPt : zCp kd n (zAd n lev (str r) (str r + dr)) (car r) g s = true := by
          rw [hP]
          by_cases e1 : kd = 1
          · rw [if_pos (by omega : (kd : Int) = 1)] at hz
            cases hb : zSe (n + 1) (zAd n lev (str r) (str r + dr)) (zOp n (car r) (zGs kd g s)) 0 12 n with
            | true => rw [hb] at hz; exact absurd hz (by decide)
            | false => simp [e1]
          · rw [if_neg (by omega : ¬ (kd : Int) = 1)] at hz
            cases hb : zSe (n + 1) (zAd n lev (str r) (str r + dr)) (zOp n (car r) (zGs kd g s)) 0 12 n with
            | false => rw [hb] at hz; exact absurd hz (by decide)
            | true => simp [e1]
        refine sp9 (d := d + 2) (mo := decide (kd = 0)) (st := zCl (decide (kd = 0)) (zCp kd n (zAd n lev (str r) (str r + dr)) (car r) g) s) hs hst (by unfold zCx at h3 ⊢; rw [w3]; exact h3) ?_ (fun X x1 x2 => ?_)
        · by_cases e0 : kd = 0
          · rw [if_pos (by omega)]; simp [e0]
          · rw [if_neg (by omega)]; simp [e0]
        · refine lpj8 hS hD hn hR hr hA hkd hc hc2 h k (s + 1) X (by omega) (fun x a b => by rw [x1 x a]; exact w1 x a b) (fun j a => by rw [x1 97 (by decide)]; exact w2 j a) ?_
          unfold zCl
          rw [if_pos hPt]
          exact x2
      · rw [hP]
        by_cases e1 : kd = 1
        · rw [if_pos (by omega : (kd : Int) = 1)] at hz
          cases hb : zSe (n + 1) (zAd n lev (str r) (str r + dr)) (zOp n (car r) (zGs kd g s)) 0 12 n with
          | true => simp [e1]
          | false => rw [hb] at hz; exact absurd rfl hz
        · rw [if_neg (by omega : ¬ (kd : Int) = 1)] at hz
          cases hb : zSe (n + 1) (zAd n lev (str r) (str r + dr)) (zOp n (car r) (zGs kd g s)) 0 12 n with
          | false => simp [e1]
          | true => rw [hb] at hz; exact absurd rfl hz
    · unfold zCp
      cases hb : zSub (zCf kd n g) s with
      | false => rfl
      | true => exact absurd ((zSub_i hc hs).mpr hb) hsub
theorem sp8 {V : z_M} {n R r kd : Nat} {lev str : Nat → Int} {dr : Int} {car : Nat → Nat → Bool} {A : Nat → Bool} {w : Nat → Nat} {g : Nat → Bool} (hS : zSC V n R lev str dr car A) (hD : zDY V n w g) (hn : n ≤ 12) (hn1 : 1 ≤ n) (hR : R ≤ 6) (hr : r < R) (hA : A r = true) (hkd : kd ≤ 2)
    (h : ∀ W (c : Nat), c < 4096 → zBS (c : Int) (zCf kd n g) → (∀ x, ¬ x = 117 → W x = V x) → zCx W (zCl (decide (kd = 0)) (zCp kd n (zAd n lev (str r) (str r + dr)) (car r) g) (c + 1)) → Q 0 W) :
    z_MS (d + 5) 8 true [.inr (.inr 117), .inr (.inr 97), .inl (r : Int), .inl (kd : Int)] V Q := by
  refine zb8_117_97 _ _ (z_all (z_all ?_))
  generalize hU : z_up (z_up V 117 3 0) 117 2 0 = U
  have u1 : ∀ x, ¬ x = 117 → U x = V x := fun x hx => by subst hU; rw [z_up_cell hx, z_up_cell hx]
  have u3 : U 117 3 = 0 := by subst hU; rfl
  have u2 : U 117 2 = 0 := by subst hU; rfl
  clear hU
  have hSU : zSC U n R lev str dr car A := zSC_up hR hS (by rw [u1 97 (by decide)]) (by rw [u1 97 (by decide)]) (fun a x y => u1 a (by omega))
  have hDU : zDY U n w g := zDY_c hD (u1 97 (by decide)) (u1 115 (by decide))
  have fin : ∀ z, zBS z (zCf kd n g) → ∀ o5, z_Ex (z_MS (d + 4)) 8 Q true 52 [some (.inr (.inr 117)), some (.inr (.inr 97)), some (.inl (r : Int)), some (.inl (kd : Int)), some (.inl (U 97 7)), o5, some (.inl z), some (.inl 0)] [] 0 0 U := by
    intro z hz o5
    have h0 := hz.1
    obtain ⟨c, rfl⟩ := Int.eq_ofNat_of_zero_le h0
    have hlt := zBS_lt 12 hz (fun k hk => by
      cases hb : zCf kd n g k with
      | false => rfl
      | true => have := zCf_lt hb; omega)
    refine lpj8 hSU hDU.1 hn hR hr hA hkd hz (by omega) (fun W w1 w2 => h W c (by omega) hz (fun x hx => (w1 x hx).trans (u1 x hx)) w2) (c + 1) 0 U (by omega) (fun _ _ _ => rfl) (fun _ _ => rfl) ⟨u3, u2, fun b hb => by cases hb⟩
  refine z_ifc (fun c2 => ?_) (fun c2 => ?_)
  · refine sp64 (d := d + 3) hSU.1 hDU hn (fun z hz => fin z (zBS_c hz (fun k => ?_)) _)
    unfold zCf
    rw [if_pos (by omega)]
  · refine sp63 (d := d + 3) hDU (fun z hz => fin _ (zBS_c (zBS_and hz (zBS_shr (by rw [hSU.1]; exact zBS_ones (by omega)))) (fun k => ?_)) _)
    unfold zCf
    rw [if_neg (by omega)]
    by_cases e : k + 1 < n
    · have : k < n := by omega
      simp [e, this]
    · simp [e]
end
