/-! walking: the reference -/
theorem sp146 {d : Nat} {Q : Int → z_M → Prop} {V : z_M} {a : Int} {f : Nat → Bool} {k : Nat} (h : zBS a f) (hk : k < 32) (hq : Q (if f k = true then 1 else 0) V) : z_MS (d + 1) 146 true [.inl a, .inl (k : Int)] V Q := by
  refine zb146 _ _ ?_
  rw [zBS_bit h hk]
  cases hf : f k with
  | true => rw [hf] at hq; exact hq
  | false => rw [hf] at hq; exact hq
theorem sp148 {d : Nat} {Q : Int → z_M → Prop} {V : z_M} {a : Int} (h : -1000000 ≤ a ∧ a ≤ 1000000) (hq : ∀ z, (z = a ∧ 0 ≤ a ∨ z = -a ∧ a < 0) → Q z V) : z_MS (d + 1) 148 true [.inl a] V Q := by
  refine zb148 _ ?_
  rw [z_neg_e (by omega)]
  refine hq _ ?_
  split <;> omega
theorem sp205 {d : Nat} {Q : Int → z_M → Prop} {V : z_M} {n p : Nat} {lev : Nat → Int} (hl : ∀ t, t < n → V 156 t = lev (t + 1)) (h0 : lev 0 = 0) (hn : n ≤ 12) (hp : p ≤ n) (h : Q (lev p) V) : z_MS (d + 1) 205 true [.inr (.inr 141), .inl (p : Int)] V Q := by
  refine zb205_141 _ (z_ifc (fun e => ?_) (fun e => ?_))
  · have : p = 0 := by omega
    subst this
    rw [h0] at h
    exact h
  · obtain ⟨q, rfl⟩ : ∃ q, p = q + 1 := ⟨p - 1, by omega⟩
    rw [z_dcs (by omega)]
    refine z_gp (by omega) (z_all ?_)
    rw [Int.toNat_natCast, hl q (by omega)]
    exact h
theorem sp206 {d : Nat} {Q : Int → z_M → Prop} {V : z_M} {n r a b : Nat} {lev : Nat → Int} {up dr : Int} (hl : ∀ t, t < n → V 156 t = lev (t + 1)) (h0 : lev 0 = 0) (hb : ∀ p, p ≤ n → 0 ≤ lev p ∧ lev p ≤ 108) (hn : n ≤ 12) (ha : a ≤ n) (hbn : b ≤ n) (hr : r ≤ 6) (hup : V 143 (56 + 2 * r) = up ∧ 1 ≤ up ∧ up ≤ 40) (hdr : V 143 7 = dr ∧ 0 ≤ dr ∧ dr ≤ 9) (h : Q (if lev b - lev a ≤ up ∧ lev a - lev b ≤ up + dr then 1 else 0) V) : z_MS (d + 2) 206 true [.inr (.inr 141), .inl (r : Int), .inl (a : Int), .inl (b : Int)] V Q := by
  have l1 := hb a ha
  have l2 := hb b hbn
  refine zb206_141 _ _ _ (sp205 hl h0 hn hbn (sp205 hl h0 hn ha ?_))
  rw [z_sub_e (by omega), z_neg_e (by omega)]
  refine z_ifc (fun e => sp158 hr ?_) (fun e => sp158 hr ?_)
  · rw [hup.1]
    by_cases c : up < lev b - lev a
    · rw [if_pos c]; rw [if_neg (by omega)] at h; exact h
    · rw [if_neg c]; rw [if_pos (by omega)] at h; exact h
  · rw [hup.1, hdr.1, z_add_e (by omega)]
    by_cases c : up + dr < -(lev b - lev a)
    · rw [if_pos c]; rw [if_neg (by omega)] at h; exact h
    · rw [if_neg c]; rw [if_pos (by omega)] at h; exact h
/-- how far a place is: the layer that it lies in, or -1 -/
def zDi (N : Nat) (adj : Nat → Nat → Bool) (op : Nat → Bool) (s p : Nat) : Int := zLow 14 (fun k => zLa N adj op s k p)
section
variable (n : Nat) (adj : Nat → Nat → Bool) (op : Nat → Bool) (s : Nat)
/-- what stands in the reference's row in round m, at p and q -/
def zFr (m p q x : Nat) : Int :=
  if zLow (m + 1) (fun k => zLa (n + 1) adj op s k x) = -1 then (if (op x && (zAny p (fun y => zLa (n + 1) adj op s m y && adj y x) || (decide (x < q) && zLa (n + 1) adj op s m p && adj p x))) = true then (m : Int) + 1 else -1) else zLow (m + 1) (fun k => zLa (n + 1) adj op s k x)
variable {n adj op s}
theorem zFr_m {m p q x : Nat} : (zFr n adj op s m p q x = (m : Int)) ↔ zLa (n + 1) adj op s m x = true := by
  unfold zFr
  rcases zLow_s (f := fun k => zLa (n + 1) adj op s k x) (m + 1) with ⟨h1, h2⟩ | ⟨k, h1, h2, h3, h4⟩
  · rw [if_pos h1]
    have := h2 m (by omega)
    constructor
    · intro h
      split at h <;> omega
    · intro h
      rw [this] at h
      exact absurd h (by decide)
  · rw [if_neg (by omega), h1]
    constructor
    · intro h
      have : k = m := by omega
      subst this
      exact h3
    · intro h
      rw [zLa_u h3 h]
theorem zFr_p {m p q x : Nat} (h : zLa (n + 1) adj op s m p = false) : zFr n adj op s m p q x = zFr n adj op s m (p + 1) 0 x := by
  unfold zFr
  rw [zAny, h]
  simp
theorem zFr_e {m p x : Nat} (ha : ∀ x, n < x → adj p x = false) : zFr n adj op s m p (n + 1) x = zFr n adj op s m (p + 1) 0 x := by
  unfold zFr
  rw [zAny]
  by_cases hx : x < n + 1
  · simp [hx]
  · rw [ha x (by omega)]
    simp
theorem zFr_n {m x : Nat} : zFr n adj op s m (n + 1) 0 x = zFr n adj op s (m + 1) 0 0 x := by
  have e : zFr n adj op s (m + 1) 0 0 x = zLow (m + 1 + 1) (fun k => zLa (n + 1) adj op s k x) := by
    unfold zFr
    simp [zAny]
    intro h
    exact h.symm
  have e2 : zLow (m + 1 + 1) (fun k => zLa (n + 1) adj op s k x) = if zLow (m + 1) (fun k => zLa (n + 1) adj op s k x) = -1 then (if zLa (n + 1) adj op s (m + 1) x = true then ((m + 1 : Nat) : Int) else -1) else zLow (m + 1) (fun k => zLa (n + 1) adj op s k x) := rfl
  rw [e, e2]
  unfold zFr
  by_cases h : zLow (m + 1) (fun k => zLa (n + 1) adj op s k x) = -1
  · rw [if_pos h, if_pos h, zLa_s]
    have hs : zSe (n + 1) adj op s m x = false := by
      cases hc : zSe (n + 1) adj op s m x with
      | false => rfl
      | true =>
        obtain ⟨j, hj, hl⟩ := zSe_la.mp hc
        rcases zLow_s (f := fun k => zLa (n + 1) adj op s k x) (m + 1) with ⟨_, h2⟩ | ⟨k, h1, _⟩
        · rw [h2 j (by omega)] at hl; exact absurd hl (by decide)
        · omega
    rw [hs]
    simp
  · rw [if_neg h, if_neg h]
theorem zFr_q {m p q x : Nat} (hx : ¬ x = q) : zFr n adj op s m p (q + 1) x = zFr n adj op s m p q x := by
  unfold zFr
  rw [show decide (x < q + 1) = decide (x < q) by simp; omega]
/-- at q itself -/
theorem zFr_s {m p q : Nat} (hp : zLa (n + 1) adj op s m p = true) : zFr n adj op s m p (q + 1) q = if zFr n adj op s m p q q = -1 ∧ op q = true ∧ adj p q = true then (m : Int) + 1 else zFr n adj op s m p q q := by
  unfold zFr
  rw [show decide (q < q + 1) = true by simp, show decide (q < q) = false by simp, hp]
  by_cases h : zLow (m + 1) (fun k => zLa (n + 1) adj op s k q) = -1
  · rw [if_pos h, if_pos h]
    cases op q <;> cases adj p q <;> cases zAny p (fun y => zLa (n + 1) adj op s m y && adj y q) <;> simp
    all_goals omega
  · rw [if_neg h, if_neg h, if_neg (by omega)]
end
section
variable {d : Nat} {Q : Int → z_M → Prop}
/-- what finding steps needs -/
def zFS (V : z_M) (n r : Nat) (lev : Nat → Int) (up dr : Int) : Prop :=
  V 143 0 = (n : Int) ∧ n ≤ 12 ∧ r ≤ 6 ∧ (∀ t, t < n → V 156 t = lev (t + 1)) ∧ lev 0 = 0 ∧ (∀ p, p ≤ n → 0 ≤ lev p ∧ lev p ≤ 108) ∧ (V 143 (56 + 2 * r) = up ∧ 1 ≤ up ∧ up ≤ 40) ∧ (V 143 7 = dr ∧ 0 ≤ dr ∧ dr ≤ 9)
theorem zFS_c {V W : z_M} {n r : Nat} {lev : Nat → Int} {up dr : Int} (h : zFS V n r lev up dr) (h1 : W 143 = V 143) (h2 : W 156 = V 156) : zFS W n r lev up dr := by
  unfold zFS at h ⊢
  rw [h1, h2]
  exact h
theorem lp207w {U V : z_M} {n r m p q : Nat} {lev : Nat → Int} {up dr ov v : Int} {op : Nat → Bool} {s : Nat} {o2 o7 : Option z_V} (hq : q < 13) (hV : ∀ a, ¬ a = 159 → V a = U a) (hF : ∀ x, x < 13 → V 159 x = zFr n (zAd n lev up (up + dr)) op s m p q x) (hv : v = zFr n (zAd n lev up (up + dr)) op s m p (q + 1) q)
    (h : ∀ W, (∀ a, ¬ a = 159 → W a = U a) → (∀ x, x < 13 → W 159 x = zFr n (zAd n lev up (up + dr)) op s m p (q + 1) x) → z_Ex (z_MS d) 207 Q true 59 [some (.inr (.inr 141)), some (.inl (r : Int)), o2, some (.inl ov), some (.inl (m : Int)), some (.inl (p : Int)), some (.inl ((q + 1 : Nat) : Int)), o7] [] 0 0 W) :
    z_Ex (z_MS d) 207 Q true 160 [some (.inr (.inr 141)), some (.inl (r : Int)), o2, some (.inl ov), some (.inl (m : Int)), some (.inl (p : Int)), some (.inl (q : Int)), o7] [.inl v, .inl (q : Int), .inr (.inr 159)] 0 0 V := by
  refine zb207_141_p160 _ _ _ _ _ _ _ _ _ (z_gp (by omega) (z_all ?_))
  rw [Int.toNat_natCast, z_inc (by omega)]
  refine h _ (fun a ha => by rw [z_up_cell ha]; exact hV a ha) (fun x hx => ?_)
  by_cases e : x = q
  · subst e
    rw [zUp_s, hv]
  · rw [zUp_o (by omega), zFr_q e]
    exact hF x hx
theorem lp207c {U V : z_M} {n r m p q : Nat} {lev : Nat → Int} {up dr ov b : Int} {op : Nat → Bool} {s : Nat} {o2 o7 : Option z_V} (hS : zFS U n r lev up dr) (hp : p ≤ n) (hq : q ≤ n) (hm : m < 13) (hb : b = if op q = true then 1 else 0) (hl : zLa (n + 1) (zAd n lev up (up + dr)) op s m p = true) (hV : ∀ a, ¬ a = 159 → V a = U a) (hF : ∀ x, x < 13 → V 159 x = zFr n (zAd n lev up (up + dr)) op s m p q x)
    (h : ∀ W o7, (∀ a, ¬ a = 159 → W a = U a) → (∀ x, x < 13 → W 159 x = zFr n (zAd n lev up (up + dr)) op s m p (q + 1) x) → z_Ex (z_MS (d + 2)) 207 Q true 59 [some (.inr (.inr 141)), some (.inl (r : Int)), o2, some (.inl ov), some (.inl (m : Int)), some (.inl (p : Int)), some (.inl ((q + 1 : Nat) : Int)), o7] [] 0 0 W) :
    z_Ex (z_MS (d + 2)) 207 Q true 110 [some (.inr (.inr 141)), some (.inl (r : Int)), o2, some (.inl ov), some (.inl (m : Int)), some (.inl (p : Int)), some (.inl (q : Int)), o7] [.inl b] 0 0 V := by
  obtain ⟨s1, s2, s3, s4, s5, s6, s7, s8⟩ := hS
  have e143 : V 143 = U 143 := hV 143 (by decide)
  have e156 : V 156 = U 156 := hV 156 (by decide)
  have fs := zFr_s (op := op) (s := s) (q := q) hl
  refine zb207_141_p110 _ _ _ _ _ _ _ _ (z_gp (by omega) (z_all ?_))
  rw [Int.toNat_natCast, hF q (by omega)]
  have same : zFr n (zAd n lev up (up + dr)) op s m p (q + 1) q = zFr n (zAd n lev up (up + dr)) op s m p q q → ∀ o7, z_Ex (z_MS (d + 2)) 207 Q true 153 [some (.inr (.inr 141)), some (.inl (r : Int)), o2, some (.inl ov), some (.inl (m : Int)), some (.inl (p : Int)), some (.inl (q : Int)), o7] [.inl (q : Int), .inr (.inr 159)] 0 0 V := by
    intro he o7
    refine zb207_141_p153 _ _ _ _ _ _ _ _ (z_gp (by omega) (z_all ?_))
    rw [Int.toNat_natCast, hF q (by omega)]
    exact lp207w (d := d + 2) (by omega) hV hF he.symm (fun W w1 w2 => h W o7 w1 w2)
  refine z_ifc (fun h1 => ?_) (fun h1 => same (by rw [fs, if_neg (by rintro ⟨c, _⟩; exact h1 c)]) _)
  refine z_ifc (fun h2 => same ?_ _) (fun h2 => ?_)
  · rw [fs, if_neg]
    rintro ⟨_, c, _⟩
    rw [hb, if_pos c] at h2
    exact absurd h2 (by decide)
  · have hop : op q = true := by
      cases hc : op q with
      | true => rfl
      | false => rw [hb, hc] at h2; exact absurd rfl h2
    refine sp206 (d := d) (fun t ht => by rw [e156]; exact s4 t ht) s5 s6 s2 hp hq s3 (by rw [e143]; exact s7) (by rw [e143]; exact s8) ?_
    by_cases hc : lev q - lev p ≤ up ∧ lev p - lev q ≤ up + dr
    · rw [if_pos hc]
      refine z_ifn (by decide) ?_
      rw [z_add_e (by omega)]
      refine lp207w (d := d + 2) (by omega) hV hF ?_ (fun W w1 w2 => h W _ w1 w2)
      have hne : ¬ q = p := by
        intro e
        subst e
        have := (zFr_m (q := q) (op := op) (s := s) (p := q) (m := m) (adj := zAd n lev up (up + dr)) (n := n) (x := q)).mpr hl
        omega
      rw [fs, if_pos ⟨h1, hop, zAd_t hq hne hc.1 hc.2⟩]
    · rw [if_neg hc]
      refine z_ifp rfl (same ?_ _)
      rw [fs, if_neg]
      rintro ⟨_, _, c⟩
      have c1 : lev q - lev p ≤ up := by
        by_cases e : lev q - lev p ≤ up
        · exact e
        · rw [zAd_2 (by omega)] at c; exact absurd c (by decide)
      have c2 : lev p - lev q ≤ up + dr := by
        by_cases e : lev p - lev q ≤ up + dr
        · exact e
        · rw [zAd_3 (by omega)] at c; exact absurd c (by decide)
      exact hc ⟨c1, c2⟩
theorem lp207q {U : z_M} {n r m p : Nat} {lev : Nat → Int} {up dr ov : Int} {op of : Nat → Bool} {s : Nat} {o2 : Option z_V} (hS : zFS U n r lev up dr) (hp : p ≤ n) (hm : m < 13) (hov : zBS ov of) (hop : ∀ q, op q = (decide (q = 0) || of (q - 1)))
    (h : ∀ W o6 o7, (∀ a, ¬ a = 159 → W a = U a) → (∀ x, x < 13 → W 159 x = zFr n (zAd n lev up (up + dr)) op s m (p + 1) 0 x) → z_Ex (z_MS (d + 2)) 207 Q true 47 [some (.inr (.inr 141)), some (.inl (r : Int)), o2, some (.inl ov), some (.inl (m : Int)), some (.inl ((p + 1 : Nat) : Int)), o6, o7] [] 0 0 W) :
    ∀ k q V o7, q + k = n + 1 → (∀ a, ¬ a = 159 → V a = U a) → (∀ x, x < 13 → V 159 x = zFr n (zAd n lev up (up + dr)) op s m p q x) → z_Ex (z_MS (d + 2)) 207 Q true 59 [some (.inr (.inr 141)), some (.inl (r : Int)), o2, some (.inl ov), some (.inl (m : Int)), some (.inl (p : Int)), some (.inl (q : Int)), o7] [] 0 0 V
  | 0, q, V, o7, e, hV, hF => by
    have e2 : q = n + 1 := by omega
    subst e2
    have s2 := hS.2.1
    have e143 : V 143 = U 143 := hV 143 (by decide)
    refine zb207_141_p59 _ _ _ _ _ _ _ (sp154 (d := d + 1) ?_)
    rw [e143, hS.1, z_inc (by omega)]
    refine z_ifp (by omega) (h V _ _ hV (fun x hx => ?_))
    rw [hF x hx, zFr_e (fun x hx => zAd_hi hx)]
  | k + 1, q, V, o7, e, hV, hF => by
    have e143 : V 143 = U 143 := hV 143 (by decide)
    have s2 := hS.2.1
    refine zb207_141_p59 _ _ _ _ _ _ _ (sp154 (d := d + 1) ?_)
    rw [e143, hS.1, z_inc (by omega)]
    refine z_ifn (by omega) (z_gp (by omega) (z_all ?_))
    rw [Int.toNat_natCast, hF p (by omega)]
    refine z_ifc (fun c => ?_) (fun c => ?_)
    · have hl := zFr_m.mp c
      refine z_ifc (fun c0 => ?_) (fun c0 => ?_)
      · have : q = 0 := by omega
        subst this
        refine lp207c hS hp (by omega) hm (by rw [hop]; rfl) hl hV hF (fun W o7 w1 w2 => ?_)
        exact lp207q hS hp hm hov hop h k (0 + 1) W o7 (by omega) w1 w2
      · rw [if_neg c0]
        obtain ⟨q', rfl⟩ : ∃ q', q = q' + 1 := ⟨q - 1, by omega⟩
        rw [z_dcs (by omega)]
        refine sp146 (d := d + 1) hov (by omega) ?_
        refine lp207c hS hp (by omega) hm ?_ hl hV hF (fun W o7 w1 w2 => ?_)
        · rw [hop, Nat.add_sub_cancel]
          cases of q' <;> simp
        · exact lp207q hS hp hm hov hop h k (q' + 1 + 1) W o7 (by omega) w1 w2
    · refine h V _ _ hV (fun x hx => ?_)
      rw [hF x hx]
      refine zFr_p ?_
      cases hc : zLa (n + 1) (zAd n lev up (up + dr)) op s m p with
      | false => rfl
      | true => exact absurd (zFr_m.mpr hc) c
theorem lp207p {U : z_M} {n r m : Nat} {lev : Nat → Int} {up dr ov : Int} {op of : Nat → Bool} {s : Nat} {o2 : Option z_V} (hS : zFS U n r lev up dr) (hm : m < 13) (hov : zBS ov of) (hop : ∀ q, op q = (decide (q = 0) || of (q - 1)))
    (h : ∀ W o5 o6 o7, (∀ a, ¬ a = 159 → W a = U a) → (∀ x, x < 13 → W 159 x = zFr n (zAd n lev up (up + dr)) op s (m + 1) 0 0 x) → z_Ex (z_MS (d + 2)) 207 Q true 37 [some (.inr (.inr 141)), some (.inl (r : Int)), o2, some (.inl ov), some (.inl ((m + 1 : Nat) : Int)), o5, o6, o7] [] 0 0 W) :
    ∀ k p V o6 o7, p + k = n + 1 → (∀ a, ¬ a = 159 → V a = U a) → (∀ x, x < 13 → V 159 x = zFr n (zAd n lev up (up + dr)) op s m p 0 x) → z_Ex (z_MS (d + 2)) 207 Q true 47 [some (.inr (.inr 141)), some (.inl (r : Int)), o2, some (.inl ov), some (.inl (m : Int)), some (.inl (p : Int)), o6, o7] [] 0 0 V
  | 0, p, V, o6, o7, e, hV, hF => by
    have e2 : p = n + 1 := by omega
    subst e2
    have s2 := hS.2.1
    refine zb207_141_p47 _ _ _ _ _ _ _ (sp154 (d := d + 1) ?_)
    rw [hV 143 (by decide), hS.1, z_inc (by omega)]
    refine z_ifp (by omega) (h V _ _ _ hV (fun x hx => ?_))
    rw [hF x hx, zFr_n]
  | k + 1, p, V, o6, o7, e, hV, hF => by
    refine zb207_141_p47 _ _ _ _ _ _ _ (sp154 (d := d + 1) ?_)
    rw [hV 143 (by decide), hS.1]
    refine z_ifn (by omega) ?_
    exact lp207q hS (by omega) hm hov hop (fun W o6 o7 w1 w2 => lp207p hS hm hov hop h k (p + 1) W o6 o7 (by omega) w1 w2) (n + 1) 0 V o7 (by omega) hV hF
theorem lp207n {U : z_M} {n r : Nat} {lev : Nat → Int} {up dr ov : Int} {op of : Nat → Bool} {s : Nat} {o2 : Option z_V} (hS : zFS U n r lev up dr) (hov : zBS ov of) (hop : ∀ q, op q = (decide (q = 0) || of (q - 1)))
    (h : ∀ W, (∀ a, ¬ a = 159 → W a = U a) → (∀ x, x < 13 → W 159 x = zFr n (zAd n lev up (up + dr)) op s 13 0 0 x) → Q 0 W) :
    ∀ k m V o5 o6 o7, m + k = 13 → (∀ a, ¬ a = 159 → V a = U a) → (∀ x, x < 13 → V 159 x = zFr n (zAd n lev up (up + dr)) op s m 0 0 x) → z_Ex (z_MS (d + 2)) 207 Q true 37 [some (.inr (.inr 141)), some (.inl (r : Int)), o2, some (.inl ov), some (.inl (m : Int)), o5, o6, o7] [] 0 0 V
  | 0, m, V, o5, o6, o7, e, hV, hF => by
    have e2 : m = 13 := by omega
    subst e2
    exact zb207_141_p37 _ _ _ _ _ _ _ (z_ifn (by omega) (h V hV hF))
  | k + 1, m, V, o5, o6, o7, e, hV, hF => by
    refine zb207_141_p37 _ _ _ _ _ _ _ (z_ifp (by omega) ?_)
    exact lp207p hS (by omega) hov hop (fun W o5 o6 o7 w1 w2 => lp207n hS hov hop h k (m + 1) W o5 o6 o7 (by omega) w1 w2) (n + 1) 0 V o6 o7 (by omega) hV hF
theorem lp207i {U : z_M} {r s : Nat} {ov : Int} (h : ∀ W o5 o6 o7, (∀ a, ¬ a = 159 → W a = U a) → (∀ x, x < 13 → W 159 x = if x = s then 0 else -1) → z_Ex (z_MS d) 207 Q true 37 [some (.inr (.inr 141)), some (.inl (r : Int)), some (.inl (s : Int)), some (.inl ov), some (.inl 0), o5, o6, o7] [] 0 0 W) :
    ∀ k i V, i + k = 13 → (∀ a, ¬ a = 159 → V a = U a) → (∀ x, x < i → V 159 x = if x = s then 0 else -1) → z_Ex (z_MS d) 207 Q true 3 [some (.inr (.inr 141)), some (.inl (r : Int)), some (.inl (s : Int)), some (.inl ov), some (.inl (i : Int)), none, none, none] [] 0 0 V
  | 0, i, V, e, hV, hF => by
    have e2 : i = 13 := by omega
    subst e2
    exact zb207_141_p3 _ _ _ _ (z_ifn (by omega) (h V _ _ _ hV hF))
  | k + 1, i, V, e, hV, hF => by
    refine zb207_141_p3 _ _ _ _ (z_ifp (by omega) (z_gp (by omega) (z_all ?_)))
    rw [Int.toNat_natCast, z_inc (by omega)]
    refine lp207i h k (i + 1) _ (by omega) (fun a ha => by rw [z_up_cell ha]; exact hV a ha) (fun x hx => ?_)
    by_cases ex : x = i
    · subst ex
      rw [zUp_s]
      by_cases es : x = s
      · rw [if_pos (by omega), if_pos es]
      · rw [if_neg (by omega), if_neg es]
    · rw [zUp_o (by omega)]
      exact hF x (by omega)
theorem sp207 {V : z_M} {n r s : Nat} {lev : Nat → Int} {up dr ov : Int} {op of : Nat → Bool} (hS : zFS V n r lev up dr) (hs : s ≤ n) (hov : zBS ov of) (hop : ∀ q, op q = (decide (q = 0) || of (q - 1)))
    (h : ∀ W, (∀ a, ¬ a = 159 → W a = V a) → (∀ x, x < 13 → W 159 x = zDi (n + 1) (zAd n lev up (up + dr)) op s x) → Q 0 W) :
    z_MS (d + 3) 207 true [.inr (.inr 141), .inl (r : Int), .inl (s : Int), .inl ov] V Q := by
  refine zb207_141 _ _ _ (lp207i (fun W o5 o6 o7 w1 w2 => ?_) 13 0 V (by omega) (fun _ _ => rfl) (fun x hx => absurd hx (Nat.not_lt_zero x)))
  refine lp207n (s := s) hS hov hop (fun X x1 x2 => h X x1 (fun x hx => ?_)) 13 0 W o5 o6 o7 (by omega) w1 (fun x hx => ?_)
  · rw [x2 x hx]
    unfold zFr zDi
    simp [zAny]
    intro h
    exact h.symm
  · rw [w2 x hx]
    unfold zFr
    simp [zAny, zLow, zLa_0]
end
