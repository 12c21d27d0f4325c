/-! the reference's judge: a clause, a law -/
theorem sp154 {d : Nat} {Q : Int → z_M → Prop} {V : z_M} (h : Q (V 143 0) V) : z_MS (d + 1) 154 true [.inr (.inr 141)] V Q := zb154_141 h
theorem sp157 {d : Nat} {Q : Int → z_M → Prop} {V : z_M} {b w : Nat} (hb : b ≤ 12) (hw : w ≤ 4) (h : Q (V 143 (8 + 4 * b + w)) V) : z_MS (d + 1) 157 true [.inr (.inr 141), .inl (b : Int), .inl (w : Int)] V Q := by
  refine zb157_141 _ _ ?_
  have e : z_add (z_add 8 (z_mul 4 (b : Int))) (w : Int) = ((8 + 4 * b + w : Nat) : Int) := by
    simp (disch := omega) only [z_mul_e, z_add_e, z_sub_e]; omega
  rw [e]
  refine z_gp (by omega) (z_all ?_)
  rw [Int.toNat_natCast]
  exact h
theorem sp158 {d : Nat} {Q : Int → z_M → Prop} {V : z_M} {r : Nat} (hr : r ≤ 6) (h : Q (V 143 (56 + 2 * r)) V) : z_MS (d + 1) 158 true [.inr (.inr 141), .inl (r : Int)] V Q := by
  refine zb158_141 _ ?_
  have e : z_add 56 (z_mul 2 (r : Int)) = ((56 + 2 * r : Nat) : Int) := by
    simp (disch := omega) only [z_mul_e, z_add_e, z_sub_e]; omega
  rw [e]
  refine z_gp (by omega) (z_all ?_)
  rw [Int.toNat_natCast]
  exact h
theorem z_addk {a b : Nat} (h : a + b < 2147483648) : z_add (a : Int) (b : Int) = ((a + b : Nat) : Int) := by rw [z_add_e (by omega)]; omega
/-- a clause of the reference: what its cells say -/
def zMcl (V : z_M) (K : Nat) (l : Nat) (op arg : Nat → Int) (hd : Int) (ts : Bool) (Fs Ft : (Nat → Int) → Option Int) : Prop :=
  V 143 K = hd ∧ (hd = 0 ∨ hd = 1) ∧
  (hd = 0 → ∃ s e : Nat, V 143 (K + 3) = s ∧ V 143 (K + 4) = e ∧ e ≤ 400 ∧ zSeg op arg 390 s e Fs) ∧
  (ts = true → ∃ s e : Nat, V 143 (K + 5) = s ∧ V 143 (K + 6) = e ∧ e ≤ 400 ∧ zSeg op arg 390 s e Ft) ∧
  (ts = false → V 143 (K + 5) = V 143 (K + 6))
theorem sp200 {d : Nat} {Q : Int → z_M → Prop} {V : z_M} {K l : Nat} {op arg f : Nat → Int} {hd : Int} {ts : Bool} {Fs Ft : (Nat → Int) → Option Int} (hf : zFb f) (hfa : ∀ i, i < 9 → V 153 (i + 1) = f i) (hM : zMc V l op arg) (hK : K < 5400) (hC : zMcl V K l op arg hd ts Fs Ft)
    (h1 : zHo ts (Ft f) hd (Fs f) = true → ∀ W, zFm 29 31 154 154 V W → (hd = 0 → ∀ v, Fs f = some v → W 141 31 = v) → Q 1 W)
    (h0 : zHo ts (Ft f) hd (Fs f) = false → ∀ W, zFm 29 31 154 154 V W → Q 0 W) : z_MS (d + 3) 200 true [.inr (.inr 141), .inl (K : Int)] V Q := by
  obtain ⟨c1, c2, c3, c4, c5⟩ := hC
  have k3 : z_add (K : Int) 3 = ((K + 3 : Nat) : Int) := z_addk (b := 3) (by omega)
  have k4 : z_add (K : Int) 4 = ((K + 4 : Nat) : Int) := z_addk (b := 4) (by omega)
  have k5 : z_add (K : Int) 5 = ((K + 5 : Nat) : Int) := z_addk (b := 5) (by omega)
  have k6 : z_add (K : Int) 6 = ((K + 6 : Nat) : Int) := z_addk (b := 6) (by omega)
  have sum : (∀ u : Bool, zHo ts (Ft f) hd (Fs f) = (!(hd == 0) || (Fs f).isSome) ∨ u = true) → ∀ W, zFm 29 31 154 154 V W → (W 141 26 = V 141 26) → zHo ts (Ft f) hd (Fs f) = (!(hd == 0) || (Fs f).isSome) → z_Ex (z_MS (d + 2)) 200 Q true 59 [some (.inr (.inr 141)), some (.inl (K : Int))] [] 0 0 W := by
    intro _ W o w26 hho
    have e143 : W 143 = V 143 := o.1 143 (by decide) (by omega)
    refine zb200_141_p59 _ (z_gp (by omega) (z_all ?_))
    rw [Int.toNat_natCast, e143, c1]
    refine z_ifc (fun hz => ?_) (fun hz => ?_)
    · obtain ⟨s, e, q1, q2, q3, q4⟩ := c3 hz
      rw [k3, k4]
      refine z_gp (by omega) (z_all (z_gp (by omega) (z_all ?_)))
      rw [Int.toNat_natCast, Int.toNat_natCast, q1, q2]
      have hM2 : zMc W l op arg := by
        unfold zMc at hM ⊢
        rw [w26, e143]
        exact hM
      refine sp199 hf (fun i hi => by rw [o.1 153 (by decide) (by omega)]; exact hfa i hi) hM2 q3 (by omega) q4 (fun v hv W2 o2 b2 v2 => z_all ?_) (fun hn W2 o2 b2 => z_all ?_)
      · have b3 : z_up W2 141 31 (W2 141 30) 141 29 = 0 := b2
        rw [if_pos b3]
        refine h1 (by rw [hho, hv]; simp) _ (zFm_f (zFm_t o (zFm_w o2 (by omega))) (by omega)) (fun _ w hw => ?_)
        rw [hv] at hw
        injection hw with hw
        rw [zUp_s, v2, hw]
      · have b3 : z_up W2 141 31 (W2 141 30) 141 29 = 1 := b2
        rw [if_neg (by omega)]
        exact h0 (by rw [hho, hn, hz]; rfl) _ (zFm_f (zFm_t o (zFm_w o2 (by omega))) (by omega))
    · refine h1 (by rw [hho]; simp [hz]) W o (fun e => absurd e hz)
  refine zb200_141 _ ?_
  rw [k5, k6]
  refine z_gp (by omega) (z_all (z_gp (by omega) (z_all ?_)))
  rw [Int.toNat_natCast, Int.toNat_natCast]
  cases ts with
  | false =>
    have := c5 rfl
    refine z_ifn (by omega) (sum (fun _ => Or.inl ?_) V zFm_r rfl ?_)
    · unfold zHo; simp
    · unfold zHo; simp
  | true =>
    obtain ⟨s, e, q1, q2, q3, q4⟩ := c4 rfl
    have hse := q4.1
    rw [q1, q2]
    refine z_ifp (by omega) (z_gp (by omega) (z_all (z_gp (by omega) (z_all ?_))))
    refine sp199 hf hfa hM q3 (by omega) q4 (fun v hv W o b v2 => z_ifp b ?_) (fun hn W o b => z_ifn (by omega) ?_)
    · simp only [z_lcmp_0, v2]
      refine z_ifc (fun hz => h0 ?_ W (zFm_w o (by omega))) (fun hz => ?_)
      · unfold zHo; rw [hv, hz]; rfl
      · have hh : zHo true (Ft f) hd (Fs f) = (!(hd == 0) || (Fs f).isSome) := by
          unfold zHo; rw [hv]; simp [hz]
        exact sum (fun _ => Or.inl hh) W (zFm_w o (by omega)) (o.2 26 (by omega)) hh
    · refine h0 ?_ W (zFm_w o (by omega))
      unfold zHo; rw [hn]; rfl
theorem zFo_n {hd : Nat → Int} {Fs Ft : Nat → (Nat → Int) → Option Int} {ts : Nat → Bool} {f : Nat → Int} {k n : Nat} (h : zFo hd Fs Ft ts f k = none) (hk : k ≤ n) : zFo hd Fs Ft ts f n = none := by
  induction hk with
  | refl => exact h
  | step _ ih =>
    unfold zFo
    rw [ih]
theorem lp203 {d : Nat} {Q : Int → z_M → Prop} {U : z_M} {l n wt : Nat} {f : Nat → Int} {op arg : Nat → Int} {hd : Nat → Int} {Fs Ft : Nat → (Nat → Int) → Option Int} {ts : Nat → Bool} {o1 o2 o3 : Option z_V} (hf : zFb f) (hfa : ∀ i, i < 9 → U 153 (i + 1) = f i) (hM : zMc U l op arg) (hn : n ≤ 12) (h91 : U 143 (91 + 900 * l) = (n : Int))
    (hC : ∀ c, c < n → zMcl U (92 + 900 * l + 8 * c) l op arg (hd c) (ts c) (Fs c) (Ft c))
    (h1 : ∀ w, zFo hd Fs Ft ts f n = some w → ∀ W, zFm 26 31 153 154 U W → Q (if w < (wt : Int) then 0 else 1) W) (h0 : zFo hd Fs Ft ts f n = none → ∀ W, zFm 26 31 153 154 U W → Q 0 W) :
    ∀ m k V w o8, k + m = n → zFm 29 31 154 154 U V → zFo hd Fs Ft ts f k = some w → z_Ex (z_MS (d + 3)) 203 Q true 163 [some (.inr (.inr 141)), o1, o2, o3, some (.inl (wt : Int)), some (.inr (.inl w)), none, some (.inl (k : Int)), o8] [] 0 0 V
  | 0, k, V, w, o8, e, ho, hw => by
    have e2 : k = n := by omega
    subst e2
    refine zb203_141_p163 _ _ _ _ _ _ _ ?_
    rw [ho.2 26 (by omega), hM.1, show z_add ((90 + 900 * l : Nat) : Int) 1 = ((90 + 900 * l + 1 : Nat) : Int) from z_addk (b := 1) (by have := hM.2.1; omega)]
    refine z_gp (by have := hM.2.1; omega) (z_all ?_)
    rw [Int.toNat_natCast, ho.1 143 (by decide) (by omega), show 90 + 900 * l + 1 = 91 + 900 * l by omega, h91]
    refine z_ifn (by omega) ?_
    simp only [z_lcmp_n]
    exact h1 w hw V (zFm_w ho (by omega))
  | m + 1, k, V, w, o8, e, ho, hw => by
    have hl := hM.2.1
    have e143 : V 143 = U 143 := ho.1 143 (by decide) (by omega)
    refine zb203_141_p163 _ _ _ _ _ _ _ ?_
    rw [ho.2 26 (by omega), hM.1, show z_add ((90 + 900 * l : Nat) : Int) 1 = ((90 + 900 * l + 1 : Nat) : Int) from z_addk (b := 1) (by omega)]
    have ek : z_add (z_add ((90 + 900 * l : Nat) : Int) 2) (z_mul 8 (k : Int)) = ((92 + 900 * l + 8 * k : Nat) : Int) := by
      simp (disch := omega) only [z_mul_e, z_add_e, z_sub_e]; omega
    rw [ek]
    refine z_gp (by omega) (z_all ?_)
    rw [Int.toNat_natCast, e143, show 90 + 900 * l + 1 = 91 + 900 * l by omega, h91]
    refine z_ifp (by omega) ?_
    have hMV : zMc V l op arg := by
      unfold zMc at hM ⊢
      rw [ho.2 26 (by omega), e143]
      exact hM
    have hCV : zMcl V (92 + 900 * l + 8 * k) l op arg (hd k) (ts k) (Fs k) (Ft k) := by
      have := hC k (by omega)
      unfold zMcl at this ⊢
      rw [e143]
      exact this
    have hfo : zFo hd Fs Ft ts f (k + 1) = match zFo hd Fs Ft ts f k with
      | none => none
      | some w => cond (zHo (ts k) (Ft k f) (hd k) (Fs k f)) (if hd k = 0 then Fs k f else none) (some w) := rfl
    rw [hw] at hfo
    refine sp200 hf (fun i hi => by rw [ho.1 153 (by decide) (by omega)]; exact hfa i hi) hMV (by omega) hCV (fun hh W o v31 => z_ifn (by decide) (z_gp (by omega) (z_all ?_))) (fun hh W o => z_ifp rfl ?_)
    · rw [hh] at hfo
      have hfo2 : zFo hd Fs Ft ts f (k + 1) = if hd k = 0 then Fs k f else none := hfo
      rw [Int.toNat_natCast, o.1 143 (by decide) (by omega), hCV.1]
      have hq := hCV.2.1
      refine z_ifc (fun hz => ?_) (fun hz => ?_)
      · rw [if_neg (by omega)] at hfo2
        exact h0 (zFo_n hfo2 (by omega)) W (zFm_w (zFm_t ho o) (by omega))
      · have hz0 : hd k = 0 := by omega
        rw [if_pos hz0] at hfo2
        have hfs : (Fs k f).isSome = true := by
          unfold zHo at hh
          rw [hz0] at hh
          simp at hh
          exact hh.2
        obtain ⟨v, hv⟩ := Option.isSome_iff_exists.mp hfs
        rw [v31 hz0 v hv, z_inc (by omega)]
        exact lp203 hf hfa hM hn h91 hC h1 h0 m (k + 1) W v _ (by omega) (zFm_t ho o) (by rw [hfo2, hv])
    · rw [hh] at hfo
      rw [z_inc (by omega)]
      exact lp203 hf hfa hM hn h91 hC h1 h0 m (k + 1) W w _ (by omega) (zFm_t ho o) hfo
theorem sp203 {d : Nat} {Q : Int → z_M → Prop} {V V0 : z_M} {b0 : Nat} {ρ : Nat → Int} {Λ : Nat → (Nat → Int) → Int} {r b t : Nat} {lev : Int} (hT : zT b0 ρ V0 Λ) (hρ : V 143 = ρ) (hr : (r : Int) < ρ 1) (hb : (b : Int) < ρ 0) (ht : t < 12) (hv : 0 ≤ lev ∧ lev ≤ 1000) (hbk : V 155 t = (b : Int)) (hlv : V 156 t = lev) (h : ∀ W, zFm 26 31 153 154 V W → Q (if zHold ρ Λ r b t lev = true then 1 else 0) W) :
    z_MS (d + 4) 203 true [.inr (.inr 141), .inl (r : Int), .inl (t : Int)] V Q := by
  have a1 := zT_1 hT
  have a0 := zT_0 hT
  have a3 := zT_3 hT
  have a2 := zT_2 hT
  have a6 := zT_6 hT
  have at_ := zT_t hT hb
  have ar := zT_r hT hr
  have hf := zFa_b (t := (t : Int)) hT hr hb (by omega) hv
  obtain ⟨wt, hwt⟩ := Int.eq_ofNat_of_zero_le (show 0 ≤ ρ (57 + 2 * r) by omega)
  refine zb203_141 _ _ (z_gp (by omega) (z_all ?_))
  have e1 : z_add (z_add 56 (z_mul 2 (r : Int))) 1 = ((57 + 2 * r : Nat) : Int) := by
    simp (disch := omega) only [z_mul_e, z_add_e, z_sub_e]; omega
  rw [e1, Int.toNat_natCast, Int.toNat_natCast, hbk]
  refine z_gp (by omega) (z_all ?_)
  rw [hρ, hwt]
  refine sp157 (w := 1) (by omega) (by omega) ?_
  rw [show 8 + 4 * b + 1 = 9 + 4 * b by omega, hρ]
  unfold zHold at h
  by_cases h3 : ρ 3 = -1
  · refine z_ifp h3 ?_
    rw [if_pos h3, hwt] at h
    simp only [z_lcmp_n]
    have hh := h V zFm_r
    by_cases hc : (wt : Int) ≤ ρ (9 + 4 * b)
    · rw [if_pos (by simpa using hc)] at hh
      rw [if_neg (by omega)]
      exact hh
    · rw [if_neg (by simpa using hc)] at hh
      rw [if_pos (by omega)]
      exact hh
  · obtain ⟨l, hl⟩ := Int.eq_ofNat_of_zero_le (show 0 ≤ ρ 3 by omega)
    obtain ⟨q, q1, q2, q3, q4⟩ := zT_l hT (l := l) (by omega)
    obtain ⟨n, hd, Fs, Ft, ts, x1, x2, x3, x4, x5⟩ := q4
    rw [if_neg h3, hl, Int.toNat_natCast, x3 _ hf] at h
    refine z_ifn h3 ?_
    have el : z_add 90 (z_mul 900 (ρ 3)) = ((90 + 900 * l : Nat) : Int) := by
      rw [hl]; simp (disch := omega) only [z_mul_e, z_add_e, z_sub_e]; omega
    rw [el]
    refine z_all (z_all (z_all ?_))
    generalize hW3 : z_up (z_up (z_up V 141 26 _) 153 1 _) 153 2 _ = W3
    have f3 : zFm 26 31 153 154 V W3 := by subst hW3; exact zFm_u (zFm_u (zFm_f zFm_r (by omega)) (by omega)) (by omega)
    refine sp157 (w := 0) (by omega) (by omega) (z_all (z_gp (by omega) (z_all (z_all (z_all ?_)))))
    generalize hW6 : z_up (z_up (z_up W3 153 3 _) 153 4 _) 153 5 _ = W6
    have f6 : zFm 26 31 153 154 V W6 := by subst hW6; exact zFm_u (zFm_u (zFm_u f3 (by omega)) (by omega)) (by omega)
    refine sp158 (by omega) (z_all (z_all ?_))
    generalize hW8 : z_up (z_up W6 153 6 _) 153 7 _ = W8
    have f8 : zFm 26 31 153 154 V W8 := by subst hW8; exact zFm_u (zFm_u f6 (by omega)) (by omega)
    refine sp157 (w := 2) (by omega) (by omega) (z_all (z_all ?_))
    generalize hW : z_up (z_up W8 153 8 _) 153 9 _ = W
    have f10 : zFm 26 31 153 154 V W := by subst hW; exact zFm_u (zFm_u f8 (by omega)) (by omega)
    have hfa : ∀ i, i < 9 → W 153 (i + 1) = zFa ρ r b (t : Int) lev i := by
      have k3 : W3 143 = ρ := by rw [f3.1 143 (by decide) (by omega), hρ]
      have k6 : W6 143 = ρ := by rw [f6.1 143 (by decide) (by omega), hρ]
      have k8 : W8 143 = ρ := by rw [f8.1 143 (by decide) (by omega), hρ]
      have m156 : W3 156 t = lev := by rw [f3.1 156 (by decide) (by omega)]; exact hlv
      intro i hi
      have hc : i = 0 ∨ i = 1 ∨ i = 2 ∨ i = 3 ∨ i = 4 ∨ i = 5 ∨ i = 6 ∨ i = 7 ∨ i = 8 := by omega
      subst hW
      have g8 : ∀ j, j < 8 → z_up (z_up W8 153 8 (W8 143 (8 + 4 * b + 2))) 153 9 (ρ (9 + 4 * b)) 153 j = W8 153 j := fun j hj => by rw [zUp_o (by omega), zUp_o (by omega)]
      have g6 : ∀ j, j < 6 → W8 153 j = W6 153 j := fun j hj => by subst hW8; rw [zUp_o (by omega), zUp_o (by omega)]
      have g3 : ∀ j, j < 3 → W6 153 j = W3 153 j := fun j hj => by subst hW6; rw [zUp_o (by omega), zUp_o (by omega), zUp_o (by omega)]
      rcases hc with rfl | rfl | rfl | rfl | rfl | rfl | rfl | rfl | rfl
      · rw [g8 _ (by decide), g6 _ (by decide), g3 _ (by decide)]
        subst hW3; rfl
      · rw [g8 _ (by decide), g6 _ (by decide), g3 _ (by decide)]
        subst hW3; rfl
      · rw [g8 _ (by decide), g6 _ (by decide)]
        subst hW6
        show W3 143 (8 + 4 * b + 0) = _
        rw [k3]; rfl
      · rw [g8 _ (by decide), g6 _ (by decide)]
        subst hW6
        exact m156
      · rw [g8 _ (by decide), g6 _ (by decide)]
        subst hW6
        exact hwt.symm
      · rw [g8 _ (by decide)]
        subst hW8
        show W6 143 (56 + 2 * r) = _
        rw [k6]; rfl
      · rw [g8 _ (by decide)]
        subst hW8
        show W6 143 6 = _
        rw [k6]; rfl
      · show W8 143 (8 + 4 * b + 2) = _
        rw [k8, show 8 + 4 * b + 2 = 10 + 4 * b by omega]; rfl
      · rfl
    have w26 : W 141 26 = ((90 + 900 * l : Nat) : Int) := by subst hW; subst hW8; subst hW6; subst hW3; rfl
    have w143 : W 143 = ρ := by rw [f10.1 143 (by decide) (by omega), hρ]
    have hMc : zMc W l (fun k => ρ (188 + 900 * l + 2 * k)) (fun k => ρ (189 + 900 * l + 2 * k)) := ⟨w26, by omega, fun k _ => by rw [w143], fun k _ => by rw [w143]⟩
    refine lp203 (l := l) (n := n) (wt := wt) (hd := hd) (Fs := Fs) (Ft := Ft) (ts := ts) hf hfa hMc x2 (by rw [w143]; exact x4) (fun c hc => ?_) (fun w hw W2 o2 => ?_) (fun hn W2 o2 => ?_) n 0 W _ _ (by omega) zFm_r rfl
    · obtain ⟨y1, y2, y3, y4, y5⟩ := x5 c hc
      unfold zMcl
      rw [w143, show 92 + 900 * l + 8 * c + 3 = 95 + 900 * l + 8 * c by omega, show 92 + 900 * l + 8 * c + 4 = 96 + 900 * l + 8 * c by omega, show 92 + 900 * l + 8 * c + 5 = 97 + 900 * l + 8 * c by omega, show 92 + 900 * l + 8 * c + 6 = 98 + 900 * l + 8 * c by omega]
      exact ⟨y1, y2, y3, y4, y5⟩
    · have hh := h W2 (zFm_t f10 o2)
      rw [hw, hwt] at hh
      have hh2 : Q (if decide ((wt : Int) ≤ w) = true then 1 else 0) W2 := hh
      by_cases hc : (wt : Int) ≤ w
      · rw [if_pos (by simpa using hc)] at hh2
        rw [if_neg (by omega)]
        exact hh2
      · rw [if_neg (by simpa using hc)] at hh2
        rw [if_pos (by omega)]
        exact hh2
    · have hh := h W2 (zFm_t f10 o2)
      rw [hn, hwt] at hh
      have hh2 : Q (if decide ((wt : Int) ≤ -1) = true then 1 else 0) W2 := hh
      rw [if_neg (by simp; omega)] at hh2
      exact hh2
