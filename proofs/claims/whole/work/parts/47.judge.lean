/-! whether a tread holds a reader up -/
/-- the facts that a law is told -/
def zFa (ρ : Nat → Int) (r b : Nat) (t lev : Int) : Nat → Int := fun i =>
  if i = 0 then r else if i = 1 then t else if i = 2 then ρ (8 + 4 * b) else if i = 3 then lev else if i = 4 then ρ (57 + 2 * r) else if i = 5 then ρ (56 + 2 * r) else if i = 6 then ρ 6 else if i = 7 then ρ (10 + 4 * b) else ρ (9 + 4 * b)
def zHold (ρ : Nat → Int) (Λ : Nat → (Nat → Int) → Int) (r b : Nat) (t lev : Int) : Bool :=
  decide (ρ (57 + 2 * r) ≤ (if ρ 3 = -1 then ρ (9 + 4 * b) else Λ (ρ 3).toNat (zFa ρ r b t lev)))
theorem zFa_b {b0 : Nat} {V : z_M} {ρ : Nat → Int} {Λ : Nat → (Nat → Int) → Int} {r b : Nat} {t lev : Int} (hT : zT b0 ρ V Λ) (hr : (r : Int) < ρ 1) (hb : (b : Int) < ρ 0) (ht : 0 ≤ t ∧ t ≤ 12) (hv : 0 ≤ lev ∧ lev ≤ 1000) : zFb (zFa ρ r b t lev) := by
  have h1 := zT_1 hT
  have h0 := zT_0 hT
  have h6 := zT_6 hT
  have h2 := zT_t hT hb
  have h3 := zT_r hT hr
  intro i _
  unfold zFa
  repeat' split
  all_goals omega
theorem lpj16 {d : Nat} {Q : Int → z_M → Prop} {U : z_M} {q n : Nat} {f : Nat → Int} {hd : Nat → Int} {Fs Ft : Nat → (Nat → Int) → Option Int} {ts : Nat → Bool} {S : Nat → Nat} {Z : Nat} {o1 o2 o3 o4 o5 : Option z_V} (hf : zFb f) (hfa : ∀ i, i < 9 → U 95 i = f i) (hL : zLA U q Z) (hz : Z ≤ 400) (hn : n ≤ 12) (h3 : U (169 + 4 * q) 2 = ((169 + 4 * q + 3 : Nat) : Int)) (hl : U 0 (169 + 4 * q + 3) = (n : Int) + 1) (hS : ∀ k, k ≤ n → U (169 + 4 * q + 3) k = S k ∧ S k ≤ Z)
    (hc : ∀ k, k < n → (hd k = 0 ∨ hd k = 1) ∧ ∃ a b : Nat, S k ≤ a ∧ a ≤ b ∧ b + 1 = S (k + 1) ∧ U (169 + 4 * q + 1) b = (if hd k = 0 then 13 else 14) ∧
      (if hd k = 0 then zSeg (fun j => zTr (U (169 + 4 * q + 1) j) (U (169 + 4 * q + 2) j)) (fun j => U (169 + 4 * q + 2) j) 20 (S k) a (Fs k) else a = S k) ∧
      (if ts k = true then (a < b ∧ U (169 + 4 * q + 1) (b - 1) = 12 ∧ zSeg (fun j => zTr (U (169 + 4 * q + 1) j) (U (169 + 4 * q + 2) j)) (fun j => U (169 + 4 * q + 2) j) 20 a (b - 1) (Ft k)) else a = b))
    (h : ∀ W, zOff 94 96 U W → W 95 = U 95 → ((∃ w, zFo hd Fs Ft ts f n = some w ∧ W 94 5 = 0 ∧ W 94 6 = w) ∨ (zFo hd Fs Ft ts f n = none ∧ W 94 5 = 1)) → Q (if (W 94 5) = 0 then (if (z_lcmp (W 94 6) (W 95 4)) < 0 then 0 else 1) else 0) W) :
    ∀ m k V, k + m = n → zOff 94 96 U V → V 95 = U 95 → ((∃ w, zFo hd Fs Ft ts f k = some w ∧ V 94 5 = 0 ∧ V 94 6 = w) ∨ (zFo hd Fs Ft ts f k = none ∧ V 94 5 = 1)) → z_Ex (z_MS (d + 3)) 16 Q true 171 [some (.inr (.inr 94)), o1, o2, o3, o4, o5, some (.inr (.inr (169 + 4 * q))), some (.inl (n : Int)), some (.inl (k : Int))] [] 0 0 V
  | 0, k, V, e, ho, h95, hst => by
    have e2 : k = n := by omega
    subst e2
    exact zb16_94_37_p171 _ _ _ _ _ _ _ _ (z_ifn (by omega) (h V ho h95 hst))
  | m + 1, k, V, e, ho, h95, hst => by
    refine zb16_94_37_p171 _ _ _ _ _ _ _ _ (z_ifp (by omega) ?_)
    rw [zl_rr (by omega), ho (169 + 4 * q) (by omega), h3, Int.toNat_natCast, zl_len (by omega), ho 0 (by omega), hl, z_inc (by omega), ho (169 + 4 * q + 3) (by omega), Int.toNat_natCast, Int.toNat_natCast, (hS k (by omega)).1, (hS (k + 1) (by omega)).1]
    refine z_gp (zl_k0 q) (z_gp (zl_kj (by omega)) (z_gp (by omega) (z_all ?_)))
    refine z_gp (zl_k0 q) (z_gp (zl_kj (by omega)) (z_gp (by omega) (z_all ?_)))
    obtain ⟨c1, a, b, c2, c3, c4, c5, c6, c7⟩ := hc k (by omega)
    have e1 : V (169 + 4 * q + 1) = U (169 + 4 * q + 1) := ho _ (by omega)
    have e2 : V (169 + 4 * q + 2) = U (169 + 4 * q + 2) := ho _ (by omega)
    have hS1 := (hS (k + 1) (by omega)).2
    rw [← e1] at c5
    rw [← e1, ← e2] at c6 c7
    refine sp17 (op := fun _ => 0) (arg := fun _ => 0) hf (fun i hi => by rw [h95]; exact hfa i hi) (zLA_o hL ho) hS1 hz c2 c3 c4 c1 c5 c6 c7 (fun hh W w1 w2 w3 w4 => ?_) (fun hh W w1 => ?_)
    · refine lpj16 hf hfa hL hz hn h3 hl hS hc h m (k + 1) W (by omega) (zOff_t ho w1) (w2.trans h95) ?_
      have hfo : zFo hd Fs Ft ts f (k + 1) = match zFo hd Fs Ft ts f k with
        | none => none
        | some w => cond (zHo (ts k) (Ft k f) (hd k) (Fs k f)) (if hd k = 0 then Fs k f else none) (some w) := rfl
      rw [hh] at hfo
      rcases hst with ⟨w, q1, q2, q3⟩ | ⟨q1, q2⟩
      · rw [q1] at hfo
        rcases c1 with c1 | c1
        · have hfs : (Fs k f).isSome = true := by
            unfold zHo at hh
            rw [c1] at hh
            simp at hh
            exact hh.2
          obtain ⟨v, hv⟩ := Option.isSome_iff_exists.mp hfs
          obtain ⟨q4, q5⟩ := w3 c1 v hv
          refine Or.inl ⟨v, ?_, by rw [q5, q2], q4⟩
          rw [hfo]
          show (if hd k = 0 then Fs k f else none) = some v
          rw [if_pos c1, hv]
        · refine Or.inr ⟨?_, w4 c1⟩
          rw [hfo]
          show (if hd k = 0 then Fs k f else none) = none
          rw [if_neg (by omega)]
      · rw [q1] at hfo
        refine Or.inr ⟨hfo, ?_⟩
        rcases c1 with c1 | c1
        · have hfs : (Fs k f).isSome = true := by
            unfold zHo at hh
            rw [c1] at hh
            simp at hh
            exact hh.2
          obtain ⟨v, hv⟩ := Option.isSome_iff_exists.mp hfs
          rw [(w3 c1 v hv).2, q2]
        · exact w4 c1
    · refine lpj16 hf hfa hL hz hn h3 hl hS hc h m (k + 1) W (by omega) (zOff_t ho w1.1) (w1.2.1.trans h95) ?_
      have hfo : zFo hd Fs Ft ts f (k + 1) = match zFo hd Fs Ft ts f k with
        | none => none
        | some w => cond (zHo (ts k) (Ft k f) (hd k) (Fs k f)) (if hd k = 0 then Fs k f else none) (some w) := rfl
      rw [hh] at hfo
      rw [w1.2.2.1, w1.2.2.2]
      rcases hst with ⟨w, q1, q2, q3⟩ | ⟨q1, q2⟩
      · rw [q1] at hfo
        exact Or.inl ⟨w, hfo, q2, q3⟩
      · rw [q1] at hfo
        exact Or.inr ⟨hfo, q2⟩
theorem sp85 {d : Nat} {Q : Int → z_M → Prop} {V : z_M} {ρ : Nat → Int} {Λ : Nat → (Nat → Int) → Int} (hT : zT 37 ρ V Λ) (h0 : ρ 3 = -1 → Q 0 V) (h1 : ∀ l q : Nat, ρ 3 = (l : Int) → V 47 l = 169 + 4 * (q : Int) → (l : Int) < ρ 2 → Q ((169 + 4 * q : Nat) : Int) V) : z_MS (d + 2) 85 true [.inr (.inr 37)] V Q := by
  have a3 := zT_3 hT
  have a2 := zT_2 hT
  refine zb85_37 ?_
  rw [z_sub_e (by omega), a3.1]
  refine sp133 (fun hc => z_ifn (by decide) (z_gp (by omega) (z_all ?_))) (fun hc => z_ifp rfl (h0 (by omega)))
  obtain ⟨l, hl⟩ := Int.eq_ofNat_of_zero_le hc.1
  obtain ⟨q, q1, q2, _⟩ := zT_l hT (l := l) (by omega)
  rw [a3.1, hl, Int.toNat_natCast]
  have e : z_rr true V 47 l = 169 + 4 * q := by
    show (V 47 l).toNat = _
    have q1' : V 47 l = 169 + 4 * (q : Int) := q1
    omega
  rw [e]
  exact z_gp (by omega) (h1 l q hl q1 (by omega))
theorem sp16 {d : Nat} {Q : Int → z_M → Prop} {V : z_M} {ρ : Nat → Int} {Λ : Nat → (Nat → Int) → Int} {r b : Nat} {t lev : Int} (hT : zT 37 ρ V Λ) (hr : (r : Int) < ρ 1) (hb : (b : Int) < ρ 0) (ht : 0 ≤ t ∧ t ≤ 12) (hv : 0 ≤ lev ∧ lev ≤ 1000) (h : ∀ W, zOff 94 96 V W → Q (if zHold ρ Λ r b t lev = true then 1 else 0) W) :
    z_MS (d + 4) 16 true [.inr (.inr 94), .inr (.inr 37), .inl (r : Int), .inl (b : Int), .inl t, .inl lev] V Q := by
  have a1 := zT_1 hT
  have a0 := zT_0 hT
  have a6 := zT_6 hT
  have at_ := zT_t hT hb
  have ar := zT_r hT hr
  refine zb16_94_37 _ _ _ _ (sp76 (by omega) (fun _ => z_ifn (by decide) ?_) (fun hn => absurd (by omega) hn))
  refine sp75 (by omega) (fun _ => z_ifn (by decide) ?_) (fun hn => absurd (by omega) hn)
  refine z_all (z_all (z_gp (by omega) (z_all (z_all (z_all (z_gp (by omega) (z_all (z_all (z_gp (by omega) (z_all (z_all (z_all (z_gp (by omega) (z_all (z_all (z_gp (by omega) (z_all (z_all ?_))))))))))))))))))
  rw [Int.toNat_natCast, Int.toNat_natCast]
  generalize hU : z_up _ 95 8 _ = U
  have ho : zOff 94 96 V U := by
    subst hU
    repeat (first | exact zOff_r | refine zOff_u ?_ (by decide) (by decide))
  have hfa : ∀ i, i < 9 → U 95 i = zFa ρ r b t lev i := by
    subst hU
    intro i hi
    have b2 : V 39 b = ρ (8 + 4 * b) := at_.1
    have b4 : V 45 r = ρ (57 + 2 * r) := ar.2.1
    have b5 : V 44 r = ρ (56 + 2 * r) := ar.1
    have b6 : V 46 0 = ρ 6 := a6.1
    have b7 : V 41 b = ρ (10 + 4 * b) := at_.2.2.1
    have b8 : V 40 b = ρ (9 + 4 * b) := at_.2.1
    have hc : i = 0 ∨ i = 1 ∨ i = 2 ∨ i = 3 ∨ i = 4 ∨ i = 5 ∨ i = 6 ∨ i = 7 ∨ i = 8 := by omega
    rcases hc with rfl | rfl | rfl | rfl | rfl | rfl | rfl | rfl | rfl
    · rfl
    · rfl
    · exact b2
    · rfl
    · exact b4
    · exact b5
    · exact b6
    · exact b7
    · exact b8
  clear hU
  have hTU := zT_off hT ho (by decide) (by decide) (by decide)
  have hf := zFa_b hTU hr hb ht hv
  have e4 : U 95 4 = ρ (57 + 2 * r) := hfa 4 (by decide)
  have e8 : U 95 8 = ρ (9 + 4 * b) := hfa 8 (by decide)
  refine sp85 hTU (fun hn => ?_) (fun l q hl hq hl2 => ?_)
  · refine z_all (z_all (z_gp (by decide) (z_ifp rfl ?_)))
    refine zb16_94_37_p171 _ _ _ _ _ _ _ _ (z_ifn (by decide) ?_)
    simp only [z_lcmp_n]
    have f5 : ∀ u, z_up (z_up U 94 6 u) 94 5 0 94 5 = 0 := fun u => rfl
    have f6 : ∀ u, z_up (z_up U 94 6 u) 94 5 0 94 6 = u := fun u => rfl
    have f4 : ∀ u, z_up (z_up U 94 6 u) 94 5 0 95 4 = U 95 4 := fun u => rfl
    rw [f5, f6, f4, if_pos rfl, e4, e8]
    have hh := h (z_up (z_up U 94 6 (ρ (9 + 4 * b))) 94 5 0) (zOff_u (zOff_u ho (by decide) (by decide)) (by decide) (by decide))
    unfold zHold at hh
    rw [if_pos hn] at hh
    by_cases hc : ρ (57 + 2 * r) ≤ ρ (9 + 4 * b)
    · rw [if_pos (by simpa using hc)] at hh
      rw [if_neg (by omega)]
      exact hh
    · rw [if_neg (by simpa using hc)] at hh
      rw [if_pos (by omega)]
      exact hh
  · obtain ⟨q2, p1, p2, p3, p4⟩ := zT_l hTU hl2
    have eq : q2 = q := by
      have p1' : U 47 l = 169 + 4 * (q2 : Int) := p1
      omega
    subst eq
    obtain ⟨n, hd, Fs, Ft, ts, S, Z, x1, x2, x3, x4, x5, x6, x7, x8, x9, y1, y2, y3⟩ := p3
    refine z_all (z_all (z_gp (by omega) (z_ifn (by omega) ?_)))
    rw [Int.toNat_natCast]
    generalize hW : z_up (z_up U 94 6 (U 95 8)) 94 5 0 = W
    have oW : zOff 94 96 U W := by subst hW; exact zOff_u (zOff_u zOff_r (by decide) (by decide)) (by decide) (by decide)
    have w5 : W 94 5 = 0 := by subst hW; rfl
    have w6 : W 94 6 = U 95 8 := by subst hW; rfl
    have w95 : W 95 = U 95 := by subst hW; rfl
    clear hW
    have k3 : W (169 + 4 * q2) 2 = ((169 + 4 * q2 + 3 : Nat) : Int) := by rw [oW _ (by omega), x6]; omega
    have k0 : W 0 (169 + 4 * q2 + 3) = (n : Int) + 1 := by rw [oW 0 (by omega)]; exact x9
    rw [zl_rr (by omega), k3, Int.toNat_natCast, zl_len (by omega), k0, z_sub_e (by omega), show (n : Int) + 1 - 1 = (n : Int) by omega]
    refine z_gp (zl_k0 q2) (z_gp (by rw [zl_kj (by omega)]; decide) ?_)
    refine lpj16 (U := W) (hd := hd) (Fs := Fs) (Ft := Ft) (ts := ts) (S := S) (Z := Z) hf (fun i hi => by rw [w95]; exact hfa i hi) ⟨?_, ?_, ?_, ?_⟩ y1 x2 k3 k0 (fun k hk => ?_) (fun k hk => ?_) (fun W2 o2 g95 hst => ?_) n 0 W (by omega) zOff_r rfl (Or.inl ⟨zFa ρ r b t lev 8, rfl, w5, by rw [w6]; exact hfa 8 (by decide)⟩)
    · rw [oW _ (by omega), x4]; omega
    · rw [oW _ (by omega), x5]; omega
    · rw [oW 0 (by omega)]; exact x7
    · rw [oW 0 (by omega)]; exact x8
    · rw [oW _ (by omega)]; exact y2 k hk
    · rw [oW (169 + 4 * q2 + 1) (by omega), oW (169 + 4 * q2 + 2) (by omega)]
      exact y3 k hk
    · have hh := h W2 (zOff_t ho (zOff_t oW o2))
      have hw : 1 ≤ ρ (57 + 2 * r) := ar.2.2.2.2.1
      unfold zHold at hh
      rw [if_neg (show ¬ ρ 3 = -1 by omega), hl, Int.toNat_natCast, x3 _ hf] at hh
      rw [g95, w95, e4]
      simp only [z_lcmp_n]
      rcases hst with ⟨w, s1, s2, s3⟩ | ⟨s1, s2⟩
      · rw [s1] at hh
        rw [s2, if_pos rfl, s3]
        have hh2 : Q (if decide (ρ (57 + 2 * r) ≤ w) = true then 1 else 0) W2 := hh
        by_cases hc : ρ (57 + 2 * r) ≤ w
        · rw [if_pos (by simpa using hc)] at hh2
          rw [if_neg (by omega)]
          exact hh2
        · rw [if_neg (by simpa using hc)] at hh2
          rw [if_pos (by omega)]
          exact hh2
      · rw [s1] at hh
        rw [s2, if_neg (by decide)]
        have hh2 : Q (if decide (ρ (57 + 2 * r) ≤ -1) = true then 1 else 0) W2 := hh
        rw [if_neg (by simp; omega)] at hh2
        exact hh2
