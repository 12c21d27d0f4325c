/-! walking: the class's scene -/
theorem zb3 (a b c : Bool) : ((a && b) && !c) = (b && !c && a) := by cases a <;> cases b <;> cases c <;> rfl
theorem lp52 {d : Nat} {Q : Int → z_M → Prop} {V : z_M} {a : Int} {f : Nat → Bool} (ha : zBS a f) (h : Q (zLow 13 f) V) : ∀ (k i : Nat), i + k = 13 → (∀ q, q < i → f q = false) → z_Ex (z_MS d) 52 Q true 2 [some (.inl a), some (.inl (i : Int))] [] 0 0 V
  | 0, i, hi, hf => by
    have e : i = 13 := by omega
    subst e
    refine zb52_p2 _ _ (z_ifn (by omega) ?_)
    rw [zLow_n hf] at h
    exact h
  | k + 1, i, hi, hf => by
    refine zb52_p2 _ _ (z_ifp (by omega) ?_)
    rw [zBS_bit ha (by omega)]
    cases hb : f i with
    | false =>
      refine z_ifp rfl ?_
      rw [z_inc (by omega)]
      refine lp52 ha h k (i + 1) (by omega) (fun q hq => ?_)
      by_cases e : q = i
      · rw [e]; exact hb
      · exact hf q (by omega)
    | true =>
      refine z_ifn (by decide) ?_
      rw [zLow_u (by omega) hb hf] at h
      exact h
theorem sp52 {d : Nat} {Q : Int → z_M → Prop} {V : z_M} {a : Int} {f : Nat → Bool} (ha : zBS a f) (h : Q (zLow 13 f) V) : z_MS (d + 1) 52 true [.inl a] V Q :=
  zb52 _ (lp52 ha h 13 0 rfl (fun q hq => absurd hq (Nat.not_lt_zero q)))
theorem lp51 {d : Nat} {Q : Int → z_M → Prop} {V : z_M} {r n : Nat} {e : Int} {ef : Nat → Bool} {adj : Nat → Nat → Bool} (hn : V 97 8 = (n : Int)) (hn2 : n ≤ 12) (hr : r < 6) (he : zBS e ef) (ha : ∀ q, q ≤ n → zBS (V (101 + r) q) (adj q)) (h : ∀ z, zBS z (fun p => zAny (n + 1) (fun q => ef q && adj q p)) → Q z V) :
    ∀ (k i : Nat) (z : Int), i + k = n + 1 → zBS z (fun p => zAny i (fun q => ef q && adj q p)) → z_Ex (z_MS d) 51 Q true 5 [some (.inr (.inr 97)), some (.inl (r : Int)), some (.inl e), some (.inl z), some (.inl (i : Int))] [] 0 0 V
  | 0, i, z, hi, hz => by
    have e : i = n + 1 := by omega
    subst e
    refine zb51_97_p5 _ _ _ _ (z_ifp (by omega) (h z hz))
  | k + 1, i, z, hi, hz => by
    refine zb51_97_p5 _ _ _ _ (z_ifn (by omega) ?_)
    rw [zBS_bit he (by omega), z_inc (by omega)]
    cases hb : ef i with
    | false =>
      refine z_ifp rfl (lp51 hn hn2 hr he ha h k (i + 1) z (by omega) (zBS_c hz fun p => ?_))
      rw [zAny, hb, Bool.false_and, Bool.or_false]
    | true =>
      refine z_ifn (by decide) (z_gp (by omega) (z_all ?_))
      have hk := zk100 (V := V) hr
      simp only [Int.toNat_natCast, zr100 hr]
      refine z_gp hk.1 ?_
      rw [hk.2.2]
      refine z_gp (by omega) (z_all ?_)
      refine lp51 hn hn2 hr he ha h k (i + 1) _ (by omega) (zBS_c (zBS_or hz (ha i (by omega))) fun p => ?_)
      rw [zAny, hb, Bool.true_and]
theorem sp51 {d : Nat} {Q : Int → z_M → Prop} {V : z_M} {r n : Nat} {e : Int} {ef : Nat → Bool} {adj : Nat → Nat → Bool} (hn : V 97 8 = (n : Int)) (hn2 : n ≤ 12) (hr : r < 6) (he : zBS e ef) (ha : ∀ q, q ≤ n → zBS (V (101 + r) q) (adj q)) (h : ∀ z, zBS z (fun p => zAny (n + 1) (fun q => ef q && adj q p)) → Q z V) :
    z_MS (d + 1) 51 true [.inr (.inr 97), .inl (r : Int), .inl e] V Q :=
  zb51_97 _ _ (lp51 hn hn2 hr he ha h (n + 1) 0 0 (by omega) zBS_0)
theorem zLa_lt {N n s k p : Nat} {adj : Nat → Nat → Bool} {op : Nat → Bool} (hop : ∀ p, n < p → op p = false) (hs : s ≤ n) (h : zLa N adj op s k p = true) : p < n + 1 := by
  cases k with
  | zero =>
    rw [zLa_0] at h
    have : p = s := by simpa using h
    omega
  | succ k =>
    have h1 := zLa_opn h
    refine Nat.lt_of_not_le fun hp => ?_
    rw [hop p (by omega)] at h1
    exact absurd h1 (by decide)
theorem zSe_step {n s i : Nat} {adj : Nat → Nat → Bool} {op : Nat → Bool} {sn st z : Int} (hz : zBS z (fun p => zAny (n + 1) (fun q => zLa (n + 1) adj op s i q && adj q p))) (hst : zBS st op) (h1 : zBS sn (zSe (n + 1) adj op s i)) :
    zBS (z_and (z_and z st) (z_xor sn (-1))) (zLa (n + 1) adj op s (i + 1)) ∧ zBS (z_or sn (z_and (z_and z st) (z_xor sn (-1)))) (zSe (n + 1) adj op s (i + 1)) := by
  have h2 : zBS (z_and (z_and z st) (z_xor sn (-1))) (zLa (n + 1) adj op s (i + 1)) := zBS_c (zBS_andn (zBS_and hz hst) h1) (fun p => by rw [zLa_s]; exact zb3 _ _ _)
  exact ⟨h2, zBS_c (zBS_or h1 h2) (fun p => by rw [zSe_s])⟩
theorem lp54 {d : Nat} {Q : Int → z_M → Prop} {V : z_M} {r n s : Nat} {G st : Int} {g op : Nat → Bool} {adj : Nat → Nat → Bool} (hn : V 97 8 = (n : Int)) (hn2 : n ≤ 12) (hr : r < 6) (hG : zBS G g) (hst : zBS st op) (hop : ∀ p, n < p → op p = false) (hs : s ≤ n) (ha : ∀ q, q ≤ n → zBS (V (101 + r) q) (adj q)) (h : Q (zNe (n + 1) (zLa (n + 1) adj op s) g 13) V) (o2 : Option z_V) :
    ∀ (k i : Nat) (sn ed : Int), i + k = 13 → zBS sn (zSe (n + 1) adj op s i) → zBS ed (zLa (n + 1) adj op s i) → (∀ j p, j < i → p < n + 1 → zLa (n + 1) adj op s j p = true → g p = false) → z_Ex (z_MS (d + 1)) 54 Q true 25 [some (.inr (.inr 97)), some (.inl (r : Int)), o2, some (.inl G), some (.inl st), some (.inl sn), some (.inl ed), some (.inl (i : Int))] [] 0 0 V
  | 0, i, sn, ed, hi, h1, h2, h3 => by
    have e : i = 13 := by omega
    subst e
    refine zb54_97_p25 _ _ _ _ _ _ _ (z_ifn (by omega) ?_)
    rw [zNe_n h3] at h
    exact h
  | k + 1, i, sn, ed, hi, h1, h2, h3 => by
    refine zb54_97_p25 _ _ _ _ _ _ _ (z_ifp (by omega) (z_ifc (fun he => ?_) (fun he => ?_)))
    · have hz := (zBS_z h2).mp he
      rw [zNe_n (fun j p hj hp hl => ?_)] at h
      · exact h
      · by_cases hji : j < i
        · exact h3 j p hji hp hl
        · by_cases hje : j = i
          · subst hje
            rw [hz p] at hl
            exact absurd hl (by decide)
          · rw [zLa_e (fun p _ => hz p) j (by omega) p] at hl
            exact absurd hl (by decide)
    · have hg := zBS_and h2 hG
      refine z_ifc (fun hc => ?_) (fun hc => ?_)
      · have hc2 := (zBS_z hg).mp hc
        refine sp51 hn hn2 hr h2 ha (fun z hz => ?_)
        rw [z_inc (by omega)]
        obtain ⟨q1, q2⟩ := zSe_step hz hst h1
        refine lp54 hn hn2 hr hG hst hop hs ha h o2 k (i + 1) _ _ (by omega) q2 q1 (fun j p hj hp hl => ?_)
        by_cases hji : j < i
        · exact h3 j p hji hp hl
        · have hje : j = i := by omega
          subst hje
          have := hc2 p
          rw [hl, Bool.true_and] at this
          exact this
      · refine sp52 hg ?_
        rcases zLow_s (f := fun k => zLa (n + 1) adj op s i k && g k) 13 with ⟨_, h5⟩ | ⟨p, h4, h5, h6, h7⟩
        · refine absurd ((zBS_z hg).mpr fun q => ?_) hc
          by_cases hq : q < 13
          · exact h5 q hq
          · cases hl : zLa (n + 1) adj op s i q with
            | false => rfl
            | true => have := zLa_lt hop hs hl; omega
        · rw [h4]
          rw [Bool.and_eq_true] at h6
          rw [zNe_u (k := i) (p := p) (by omega) (zLa_lt hop hs h6.1) h6.1 h6.2 h3 (fun q hq hl => ?_)] at h
          · exact h
          · have := h7 q hq
            rw [hl, Bool.true_and] at this
            exact this
theorem sp54 {d : Nat} {Q : Int → z_M → Prop} {V : z_M} {r n s : Nat} {G : Int} {g ca inn op : Nat → Bool} {adj : Nat → Nat → Bool} (hn : V 97 8 = (n : Int)) (hn2 : n ≤ 12) (hr : r < 6) (hG : zBS G g) (hca : zBS (V 99 r) ca) (hin : zBS (V 97 7) inn) (ho : ∀ p, op p = (ca p && inn p)) (hop : ∀ p, n < p → op p = false) (hs : s ≤ n) (ha : ∀ q, q ≤ n → zBS (V (101 + r) q) (adj q)) (h : Q (zNe (n + 1) (zLa (n + 1) adj op s) g 13) V) :
    z_MS (d + 2) 54 true [.inr (.inr 97), .inl (r : Int), .inl (s : Int), .inl G] V Q := by
  refine zb54_97 _ _ _ (z_gp (by omega) (z_all ?_))
  have h1 : zBS (z_shl 1 (s : Int)) (zLa (n + 1) adj op s 0) := zBS_c (zBS_pow (by omega)) (fun k => by rw [zLa_0]; by_cases e : k = s <;> simp [e])
  exact lp54 hn hn2 hr hG (zBS_c (zBS_and hca hin) (fun k => (ho k).symm)) hop hs ha h _ 13 0 _ _ rfl h1 h1 (fun j p hj => absurd hj (Nat.not_lt_zero j))
theorem lp53 {d : Nat} {Q : Int → z_M → Prop} {V : z_M} {r n : Nat} {st : Int} {op : Nat → Bool} {adj : Nat → Nat → Bool} (hn : V 97 8 = (n : Int)) (hn2 : n ≤ 12) (hr : r < 6) (hst : zBS st op) (ha : ∀ q, q ≤ n → zBS (V (101 + r) q) (adj q)) (h : ∀ z, zBS z (zSe (n + 1) adj op 0 13) → Q z V) :
    ∀ (k i : Nat) (sn ed : Int), i + k = 13 → zBS sn (zSe (n + 1) adj op 0 i) → zBS ed (zLa (n + 1) adj op 0 i) → z_Ex (z_MS (d + 1)) 53 Q true 20 [some (.inr (.inr 97)), some (.inl (r : Int)), some (.inl st), some (.inl sn), some (.inl ed), some (.inl (i : Int))] [] 0 0 V
  | 0, i, sn, ed, hi, h1, h2 => by
    have e : i = 13 := by omega
    subst e
    exact zb53_97_p20 _ _ _ _ _ (z_ifn (by omega) (h _ h1))
  | k + 1, i, sn, ed, hi, h1, h2 => by
    refine zb53_97_p20 _ _ _ _ _ (z_ifp (by omega) (z_ifc (fun he => h _ (zBS_c h1 fun p => ?_)) (fun he => ?_)))
    · have hz := (zBS_z h2).mp he
      have hm : ∀ m, zSe (n + 1) adj op 0 (i + m) p = zSe (n + 1) adj op 0 i p := by
        intro m
        induction m with
        | zero => rfl
        | succ m ih => rw [← Nat.add_assoc, zSe_s, ih, zLa_e (fun p _ => hz p) (i + m + 1) (by omega) p, Bool.or_false]
      have := hm (13 - i)
      rw [← this]
      congr 1
      omega
    · refine sp51 hn hn2 hr h2 ha (fun z hz => ?_)
      rw [z_inc (by omega)]
      obtain ⟨q1, q2⟩ := zSe_step hz hst h1
      exact lp53 hn hn2 hr hst ha h k (i + 1) _ _ (by omega) q2 q1
theorem sp53 {d : Nat} {Q : Int → z_M → Prop} {V : z_M} {r n : Nat} {ca inn op : Nat → Bool} {adj : Nat → Nat → Bool} (hn : V 97 8 = (n : Int)) (hn2 : n ≤ 12) (hr : r < 6) (hca : zBS (V 99 r) ca) (hin : zBS (V 97 7) inn) (ho : ∀ p, op p = (ca p && inn p)) (ha : ∀ q, q ≤ n → zBS (V (101 + r) q) (adj q)) (h : ∀ z, zBS z (zSe (n + 1) adj op 0 13) → Q z V) :
    z_MS (d + 2) 53 true [.inr (.inr 97), .inl (r : Int)] V Q := by
  refine zb53_97 _ (z_gp (by omega) (z_all ?_))
  have h1 : zBS 1 (zLa (n + 1) adj op 0 0) := zBS_c zBS_1 (fun k => by rw [zLa_0]; by_cases e : k = 0 <;> simp [e])
  exact lp53 hn hn2 hr (zBS_c (zBS_and hca hin) (fun k => (ho k).symm)) ha h 13 0 _ _ rfl h1 h1
theorem sp55 {d : Nat} {Q : Int → z_M → Prop} {V : z_M} {r n : Nat} {ca inn op : Nat → Bool} {adj : Nat → Nat → Bool} (hn : V 97 8 = (n : Int)) (hn2 : n ≤ 12) (hr : r < 6) (hca : zBS (V 99 r) ca) (hin : zBS (V 97 7) inn) (ho : ∀ p, op p = (ca p && inn p)) (hop : ∀ p, n < p → op p = false) (ha : ∀ q, q ≤ n → zBS (V (101 + r) q) (adj q)) (h : Q (if zSe (n + 1) adj op 0 12 n = true then 1 else 0) V) :
    z_MS (d + 3) 55 true [.inr (.inr 97), .inl (r : Int)] V Q := by
  refine zb55_97 _ ?_
  rw [hn]
  refine sp54 (s := 0) hn hn2 hr (zBS_pow (by omega)) hca hin ho hop (by omega) ha ?_
  rw [hn]
  have e : (zNe (n + 1) (zLa (n + 1) adj op 0) (fun k => decide (k = n)) 13 = (n : Int)) ↔ zSe (n + 1) adj op 0 12 n = true := by
    rw [zSe_la]
    rcases zNe_s (N := n + 1) (la := zLa (n + 1) adj op 0) (g := fun k => decide (k = n)) 13 with ⟨h1, h2⟩ | ⟨k, p, h1, h2, h3, h4, h5, _⟩
    · rw [h1]
      constructor
      · intro h; omega
      · rintro ⟨j, hj, hl⟩
        have := h2 j n (by omega) (by omega) hl
        simp at this
    · have h6 : p = n := by simpa using h5
      subst h6
      rw [h1]
      exact ⟨fun _ => ⟨k, by omega, h4⟩, fun _ => rfl⟩
  by_cases hc : zSe (n + 1) adj op 0 12 n = true
  · rw [if_pos (e.mpr hc)]; rw [if_pos hc] at h; exact h
  · rw [if_neg (fun q => hc (e.mp q))]; rw [if_neg hc] at h; exact h
theorem lp60 {d : Nat} {Q : Int → z_M → Prop} {V : z_M} {R p : Nat} {w : Nat → Nat} (hR : V 97 9 = (R : Int)) (hR2 : R ≤ 6) (hw : ∀ r, r < 6 → V 115 r = (w r : Int)) (h : Q (if zAny R (fun r => decide (w r = p)) = true then 1 else 0) V) :
    ∀ (k i : Nat), i + k = R → (∀ r, r < i → ¬ w r = p) → z_Ex (z_MS d) 60 Q true 2 [some (.inr (.inr 97)), some (.inl (p : Int)), some (.inl (i : Int))] [] 0 0 V
  | 0, i, hi, hf => by
    have e : i = R := by omega
    subst e
    refine zb60_97_p2 _ _ (z_ifn (by omega) ?_)
    rw [if_neg (by rw [zAny_iff]; rintro ⟨q, hq, hq2⟩; exact hf q hq (by simpa using hq2))] at h
    exact h
  | k + 1, i, hi, hf => by
    refine zb60_97_p2 _ _ (z_ifp (by omega) (z_gp (by omega) (z_all ?_)))
    rw [Int.toNat_natCast, hw i (by omega)]
    refine z_ifc (fun hc => ?_) (fun hc => ?_)
    · rw [if_pos (by rw [zAny_iff]; exact ⟨i, by omega, by simp; omega⟩)] at h
      exact h
    · rw [z_inc (by omega)]
      refine lp60 hR hR2 hw h k (i + 1) (by omega) (fun r hr => ?_)
      by_cases e : r = i
      · subst e; omega
      · exact hf r (by omega)
theorem sp60 {d : Nat} {Q : Int → z_M → Prop} {V : z_M} {R p : Nat} {w : Nat → Nat} (hR : V 97 9 = (R : Int)) (hR2 : R ≤ 6) (hw : ∀ r, r < 6 → V 115 r = (w r : Int)) (h : Q (if zAny R (fun r => decide (w r = p)) = true then 1 else 0) V) :
    z_MS (d + 1) 60 true [.inr (.inr 97), .inl (p : Int)] V Q :=
  zb60_97 _ (lp60 hR hR2 hw h R 0 (by omega) (fun r hr => absurd hr (Nat.not_lt_zero r)))
