/-! counts and toes -/
section
variable {d : Nat} {Q : Int → z_M → Prop}
def zSo (ρ : Nat → Int) : Nat → Int
  | 0 => 0
  | t + 1 => zSo ρ t + ρ (11 + 4 * t)
theorem zSo_b {b : Nat} {ρ : Nat → Int} {V : z_M} {Λ : Nat → (Nat → Int) → Int} {n : Nat} (hT : zT b ρ V Λ) (hn : ρ 0 = (n : Int)) : ∀ t, t ≤ n → 0 ≤ zSo ρ t ∧ zSo ρ t ≤ t
  | 0, _ => ⟨Int.le_refl 0, Int.le_refl 0⟩
  | t + 1, h => by
    have h1 := zSo_b hT hn t (by omega)
    have h2 := zT_t hT (t := t) (by omega)
    unfold zSo
    omega
theorem cm_count {V : z_M} (hR : zR V) (a : Int) : zPr (d + 6) 128 247 [.inl a] V := by
  have hR2 := hR
  obtain ⟨⟨Λ, hT, hc⟩, r3, r4, r5⟩ := hR2
  obtain ⟨n, R, m, hn, hRr, hm, n12, R6, m7⟩ := zR_nat hT
  have a0 := zT_0 hT
  have a1 := zT_1 hT
  have a4 := zT_4 hT
  have hX := zR_k hR zKeep_0
  obtain ⟨m1, m2, m3, m4, m5, m6, m7, m8, m9⟩ := r5
  have a2 := zT_2 hT
  have a3 := zT_3 hT
  have a5 := zT_5 hT
  have a6 := zT_6 hT
  have a7 := zT_7 hT
  -- the reference counts what is out first
  have ref : ∀ zz : Int, (a = 0 → zz = V 143 0) → (a = 1 → zz = V 143 1) → (a = 2 → zz = V 143 2) → (a = 3 → zz = V 143 4) → (a = 4 → zz = zSo (V 143) n) → (a = 5 → zz = V 143 5) → (a = 6 → zz = V 141 8) → (a = 7 → zz = V 142 1) → (a = 8 → zz = V 142 2) → (a = 9 → zz = V 142 3) → (a = 10 → zz = V 142 5) → (a = 11 → zz = V 142 6) → (a = 12 → zz = V 143 3) → (a = 13 → zz = V 143 6) → (a = 14 → zz = V 143 7) → (¬ (0 ≤ a ∧ a ≤ 14) → zz = -1) →
      z_MS (d + 6) 247 true [.inr (.inr 141), .inl a] V (fun z2 X => z2 = zz ∧ zR X) := by
    intro zz q0 q1 q2 q3 q4 q5 q6 q7 q8 q9 q10 q11 q12 q13 q14 q15
    refine zb247_141 _ (z_all ?_)
    generalize hU : z_up V 141 0 0 = U at hX
    have e143 : U 143 = V 143 := by subst hU; rfl
    have e142 : U 142 = V 142 := by subst hU; rfl
    have e8 : U 141 8 = V 141 8 := by subst hU; rfl
    have lp : ∀ (k i : Nat), i + k = n → z_Ex (z_MS (d + 5)) 247 (fun z2 X => z2 = zz ∧ zR X) true 9 [some (.inr (.inr 141)), some (.inl a), some (.inl (zSo (V 143) i)), some (.inl (i : Int))] [] 0 0 U := by
      intro k
      induction k with
      | zero =>
        intro i e
        have e2 : i = n := by omega
        subst e2
        refine zb247_141_p9 _ _ _ (sp154 (d := d + 4) ?_)
        rw [e143, hn]
        refine z_ifn (by omega) ?_
        rw [e142, e8]
        refine z_ifc (fun c => ?_) (fun c0 => z_ifc (fun c => ⟨(q1 c).symm, hX⟩) (fun c1 => z_ifc (fun c => ⟨(q2 c).symm, hX⟩) (fun c2 => z_ifc (fun c => ⟨(q3 c).symm, hX⟩) (fun c3 => z_ifc (fun c => ⟨(q4 c).symm, hX⟩) (fun c4 => z_ifc (fun c => ⟨(q5 c).symm, hX⟩) (fun c5 => z_ifc (fun c => ⟨(q6 c).symm, hX⟩) (fun c6 => z_ifc (fun c => ⟨(q7 c).symm, hX⟩) (fun c7 => z_ifc (fun c => ⟨(q8 c).symm, hX⟩) (fun c8 => z_ifc (fun c => ⟨(q9 c).symm, hX⟩) (fun c9 => z_ifc (fun c => ⟨(q10 c).symm, hX⟩) (fun c10 => z_ifc (fun c => ⟨(q11 c).symm, hX⟩) (fun c11 => z_ifc (fun c => ⟨(q12 c).symm, hX⟩) (fun c12 => z_ifc (fun c => ⟨(q13 c).symm, hX⟩) (fun c13 => z_ifc (fun c => ⟨(q14 c).symm, hX⟩) (fun c14 => ⟨(q15 (by omega)).symm, hX⟩)))))))))))))))
        refine sp154 (d := d + 4) ⟨?_, hX⟩
        rw [e143]
        exact (q0 c).symm
      | succ k ih =>
        intro i e
        have pt := zT_t hT (t := i) (by omega)
        have hb := zSo_b hT hn i (by omega)
        refine zb247_141_p9 _ _ _ (sp154 (d := d + 4) ?_)
        rw [e143, hn]
        refine z_ifp (by omega) (sp157 (d := d + 4) (w := 3) (by omega) (by omega) ?_)
        rw [e143, show 8 + 4 * i + 3 = 11 + 4 * i by omega, z_inc (by omega), z_add_e (by omega)]
        exact ih (i + 1) (by omega)
    exact lp n 0 (by omega)
  refine zb128_36 _ ?_
  rw [show V 37 7 = V 143 0 from a0.1, show V 37 8 = V 143 1 from a1.1, show V 37 9 = V 143 2 from a2.1, show V 37 11 = V 143 4 from a4.1, show V 37 12 = V 143 5 from a5.1, m2.1, m6 1 (by decide), m6 2 (by decide), m6 3 (by decide), m6 5 (by decide), m6 6 (by decide), show V 37 10 = V 143 3 from a3.1, show V 46 0 = V 143 6 from a6.1, show V 46 1 = V 143 7 from a7.1]
  have out : z_MS (d + 5) 84 true [.inr (.inr 37)] V (fun z W => z_MS (d + 6) 247 true [.inr (.inr 141), .inl a] W (fun z2 X => z2 = z ∧ zR X)) ∨ ¬ a = 4 := by
    by_cases c4 : a = 4
    · left
      have lp : ∀ (k i : Nat), i + k = n → z_Ex (z_MS (d + 4)) 84 (fun z W => z_MS (d + 6) 247 true [.inr (.inr 141), .inl a] W (fun z2 X => z2 = z ∧ zR X)) true 4 [some (.inr (.inr 37)), some (.inl (zSo (V 143) i)), some (.inl (i : Int))] [] 0 0 V := by
        intro k
        induction k with
        | zero =>
          intro i e
          have e2 : i = n := by omega
          subst e2
          refine zb84_37_p4 _ _ (z_ifn (by omega) ?_)
          refine ref _ ?_ ?_ ?_ ?_ (fun _ => rfl) ?_ ?_ ?_ ?_ ?_ ?_ ?_ ?_ ?_ ?_ ?_ <;> (intro q; omega)
        | succ k ih =>
          intro i e
          have pt := zT_t hT (t := i) (by omega)
          have hb := zSo_b hT hn i (by omega)
          have h42 : V 42 i = V 143 (11 + 4 * i) := pt.2.2.2.1
          refine zb84_37_p4 _ _ (z_ifp (by omega) (z_gp (by omega) (z_all ?_)))
          rw [Int.toNat_natCast, h42, z_inc (by omega), z_add_e (by omega)]
          exact ih (i + 1) (by omega)
      exact zb84_37 (lp n 0 (by omega))
    · exact Or.inr c4
  refine z_ifc (fun c => ?_) (fun c0 => z_ifc (fun c => ?_) (fun c1 => z_ifc (fun c => ?_) (fun c2 => z_ifc (fun c => ?_) (fun c3 => z_ifc (fun c => ?_) (fun c4 => z_ifc (fun c => ?_) (fun c5 => z_ifc (fun c => ?_) (fun c6 => z_ifc (fun c => ?_) (fun c7 => z_ifc (fun c => ?_) (fun c8 => z_ifc (fun c => ?_) (fun c9 => z_ifc (fun c => ?_) (fun c10 => z_ifc (fun c => ?_) (fun c11 => z_ifc (fun c => ?_) (fun c12 => z_ifc (fun c => ?_) (fun c13 => z_ifc (fun c => ?_) (fun c14 => ?_)))))))))))))))
  all_goals first
    | (refine ref _ ?_ ?_ ?_ ?_ ?_ ?_ ?_ ?_ ?_ ?_ ?_ ?_ ?_ ?_ ?_ ?_ <;> first | (intro q; rfl) | (intro q; omega))
    | (rcases out with o | o; exact o; exact absurd c o)
/-- whether the row is felt from t on -/
def zFt (ρ : Nat → Int) (n K : Nat) (off : Int) (t : Nat) : Bool := decide (t + K ≤ n) && !zAny K (fun k => decide (off < ρ (8 + 4 * (t + k)) - ρ (82 + k)) || decide (off < ρ (82 + k) - ρ (8 + 4 * (t + k))))
theorem zAny_st {K k : Nat} {f : Nat → Bool} (hk : k < K) (h : f k = true) : zAny K f = true := zAny_iff.mpr ⟨k, hk, h⟩
theorem sp90 {V : z_M} {ρ : Nat → Int} {Λ : Nat → (Nat → Int) → Int} {n K t : Nat} {off : Int} (hT : zT 37 ρ V Λ) (hn : ρ 0 = (n : Int)) (hK : ρ 5 = (K : Int)) (ht : t < n) (ho : 0 ≤ off ∧ off ≤ 8) (h : Q (if zFt ρ n K off t = true then 1 else 0) V) : z_MS (d + 1) 90 true [.inr (.inr 37), .inl (t : Int), .inl off] V Q := by
  have a0 := zT_0 hT
  have a5 := zT_5 hT
  refine zb90_37 _ _ (z_ifn (by omega) ?_)
  rw [a5.1, hK, z_add_e (by omega)]
  refine z_ifc (fun c => ?_) (fun c => ?_)
  · unfold zFt at h
    rw [show decide (t + K ≤ n) = false by simp; omega] at h
    exact h
  · have lp : ∀ (k i : Nat), i + k = K → zAny i (fun k => decide (off < ρ (8 + 4 * (t + k)) - ρ (82 + k)) || decide (off < ρ (82 + k) - ρ (8 + 4 * (t + k)))) = false → z_Ex (z_MS d) 90 Q true 21 [some (.inr (.inr 37)), some (.inl (t : Int)), some (.inl off), some (.inl (i : Int))] [] 0 0 V := by
      intro k
      induction k with
      | zero =>
        intro i e hf
        have e2 : i = K := by omega
        subst e2
        refine zb90_37_p21 _ _ _ (z_ifn (by omega) ?_)
        unfold zFt at h
        rw [hf, show decide (t + i ≤ n) = true by simp; omega] at h
        exact h
      | succ k ih =>
        intro i e hf
        have pt := zT_t hT (t := t + i) (by omega)
        have po := zT_o hT (k := i) (by omega)
        have h39 : V 39 (t + i) = ρ (8 + 4 * (t + i)) := pt.1
        have h51 : V 51 i = ρ (82 + i) := po.1
        refine zb90_37_p21 _ _ _ (z_ifp (by omega) ?_)
        rw [z_addk (by omega), z_inc (by omega)]
        refine z_gp (by omega) (z_all (z_gp (by omega) (z_all ?_)))
        rw [Int.toNat_natCast, Int.toNat_natCast, h39, h51, z_sub_e (by omega), z_abs_e (by omega)]
        refine z_ifc (fun c2 => ?_) (fun c2 => ih (i + 1) (by omega) ?_)
        · unfold zFt at h
          rw [zAny_st (k := i) (by omega) (by split at c2 <;> (simp; omega))] at h
          simp at h
          exact h
        · rw [zAny, hf]
          split at c2 <;> (simp; omega)
    exact lp K 0 (by omega) rfl
theorem cm_places {V : z_M} (hR : zR V) (off i : Int) (hi : -2147483648 ≤ i ∧ i < 2147483648) : zPr (d + 6) 123 243 [.inl off, .inl i] V := by
  have hR2 := hR
  obtain ⟨⟨Λ, hT, hc⟩, r3, r4, r5⟩ := hR2
  obtain ⟨n, R, m, hn, hRr, hm, n12, R6, m7⟩ := zR_nat hT
  have a0 := zT_0 hT
  have a1 := zT_1 hT
  have a4 := zT_4 hT
  have a5 := zT_5 hT
  obtain ⟨K, hK⟩ := Int.eq_ofNat_of_zero_le a5.2.1
  have hX := zR_k hR zKeep_0
  have no : ¬ ((0 ≤ off ∧ off ≤ 8) ∧ 1 ≤ K) → z_MS (d + 6) 243 true [.inr (.inr 141), .inl off, .inl i] V (fun z2 X => z2 = -1 ∧ zR X) := by
    intro hno
    refine zb243_141 _ _ (z_all (sp145 (d := d + 4) (fun h1 => z_ifn (by decide) (z_ifp ?_ ⟨rfl, hX⟩)) (fun _ => z_ifp rfl ⟨rfl, hX⟩)))
    rw [z_up_cell (by decide), hK]
    omega
  -- what the reference answers
  have ref : (0 ≤ off ∧ off ≤ 8) → 1 ≤ K → ∀ zz : Int, (∀ t, t < n → zFt (V 143) n K off t = true → (zCt t (zFt (V 143) n K off) : Int) = i → zz = t) → ((∀ t, t < n → zFt (V 143) n K off t = true → ¬ (zCt t (zFt (V 143) n K off) : Int) = i) → zz = if i = -1 then (zCt n (zFt (V 143) n K off) : Int) else -1) → z_MS (d + 6) 243 true [.inr (.inr 141), .inl off, .inl i] V (fun z2 X => z2 = zz ∧ zR X) := by
    intro ho hK1 zz z1 z2
    refine zb243_141 _ _ (z_all (sp145 (d := d + 4) (fun _ => z_ifn (by decide) (z_ifn ?_ ?_)) (fun h => absurd ho h)))
    · rw [z_up_cell (by decide), hK]; omega
    generalize hU : z_up V 141 0 0 = U at hX
    have e143 : U 143 = V 143 := by subst hU; rfl
    clear hU
    have tl : ∀ j, j ≤ n → n < j + K → zCt n (zFt (V 143) n K off) = zCt j (zFt (V 143) n K off) := by
      intro j hj hjK
      have : ∀ m, zCt (j + m) (zFt (V 143) n K off) = zCt j (zFt (V 143) n K off) := by
        intro m
        induction m with
        | zero => rfl
        | succ m ih =>
          rw [← Nat.add_assoc, zCt, ih]
          have : zFt (V 143) n K off (j + m) = false := by unfold zFt; rw [show decide (j + m + K ≤ n) = false by simp; omega]; rfl
          rw [this]
          rfl
      have h2 := this (n - j)
      rw [show j + (n - j) = n by omega] at h2
      exact h2
    have lp : ∀ (k j : Nat) (o5 o6 : Option z_V), j + k = n + 1 → (∀ t, t < j → zFt (V 143) n K off t = true → ¬ (zCt t (zFt (V 143) n K off) : Int) = i) → z_Ex (z_MS (d + 5)) 243 (fun z2 X => z2 = zz ∧ zR X) true 33 [some (.inr (.inr 141)), some (.inl off), some (.inl i), some (.inl (zCt j (zFt (V 143) n K off) : Int)), some (.inl (j : Int)), o5, o6] [] 0 0 U := by
      intro k
      induction k with
      | zero =>
        intro j o5 o6 e hf
        refine zb243_141_p33 _ _ _ _ _ _ (sp154 (d := d + 4) ?_)
        rw [e143, hn, hK, z_addk (by omega)]
        refine z_ifp (by omega) ⟨?_, hX⟩
        rw [z2 (fun t ht h1 => hf t (by omega) h1)]
        have := tl n (Nat.le_refl n) (by omega)
        have e2 : j = n + 1 := by omega
        subst e2
        have hfn : zFt (V 143) n K off n = false := by unfold zFt; rw [show decide (n + K ≤ n) = false by simp; omega]; rfl
        rw [zCt, hfn]
        rfl
      | succ k ih =>
        intro j o5 o6 e hf
        have hcl := zCt_le (n := j) (f := zFt (V 143) n K off)
        refine zb243_141_p33 _ _ _ _ _ _ (sp154 (d := d + 4) ?_)
        rw [e143, hn, hK, z_addk (by omega)]
        refine z_ifc (fun c => ⟨?_, hX⟩) (fun c => ?_)
        · rw [z2 (fun t ht h1 => ?_), tl j (by omega) (by omega)]
          by_cases htj : t < j
          · exact hf t htj h1
          · unfold zFt at h1
            rw [show decide (t + K ≤ n) = false by simp; omega] at h1
            exact absurd h1 (by simp)
        · have inner : ∀ (k2 i2 : Nat) (b : Int), i2 + k2 = K → b = (if zAny i2 (fun k => decide (off < V 143 (8 + 4 * (j + k)) - V 143 (82 + k)) || decide (off < V 143 (82 + k) - V 143 (8 + 4 * (j + k)))) = true then 0 else 1) → z_Ex (z_MS (d + 5)) 243 (fun z2 X => z2 = zz ∧ zR X) true 55 [some (.inr (.inr 141)), some (.inl off), some (.inl i), some (.inl (zCt j (zFt (V 143) n K off) : Int)), some (.inl (j : Int)), some (.inl b), some (.inl (i2 : Int))] [] 0 0 U := by
            intro k2
            induction k2 with
            | zero =>
              intro i2 b e2 hb
              have e3 : i2 = K := by omega
              subst e3
              have hft : zFt (V 143) n i2 off j = !zAny i2 (fun k => decide (off < V 143 (8 + 4 * (j + k)) - V 143 (82 + k)) || decide (off < V 143 (82 + k) - V 143 (8 + 4 * (j + k)))) := by
                unfold zFt
                rw [show decide (j + i2 ≤ n) = true by simp; omega, Bool.true_and]
              refine zb243_141_p55 _ _ _ _ _ _ (z_ifn (by rw [e143, hK]; omega) ?_)
              rw [z_inc (i := j) (by omega)]
              cases hz : zAny i2 (fun k => decide (off < V 143 (8 + 4 * (j + k)) - V 143 (82 + k)) || decide (off < V 143 (82 + k) - V 143 (8 + 4 * (j + k)))) with
              | true =>
                rw [hz] at hft
                have h1 := ih (j + 1) (some (.inl b)) (some (.inl (i2 : Int))) (by omega) (fun t ht h2 => by
                  by_cases et : t = j
                  · subst et; rw [hft] at h2; exact absurd h2 (by decide)
                  · exact hf t (by omega) h2)
                rw [zCt, hft] at h1
                exact z_ifp (by rw [hb, hz]; rfl) h1
              | false =>
                rw [hz] at hft
                refine z_ifn (by rw [hb, hz]; decide) (z_ifc (fun c3 => ⟨(z1 j (by omega) hft c3).symm, hX⟩) (fun c3 => ?_))
                rw [z_inc (by omega)]
                have h1 := ih (j + 1) (some (.inl b)) (some (.inl (i2 : Int))) (by omega) (fun t ht h2 => by
                  by_cases et : t = j
                  · subst et; exact c3
                  · exact hf t (by omega) h2)
                rw [zCt, hft] at h1
                exact h1
            | succ k2 ih2 =>
              intro i2 b e2 hb
              have pt := zT_t hT (t := j + i2) (by omega)
              have po := zT_o hT (k := i2) (by omega)
              refine zb243_141_p55 _ _ _ _ _ _ (z_ifp (by rw [e143, hK]; omega) ?_)
              rw [z_inc (by omega)]
              refine z_ifc (fun c3 => ih2 (i2 + 1) 0 (by omega) ?_) (fun c3 => ?_)
              · have hz : zAny i2 (fun k => decide (off < V 143 (8 + 4 * (j + k)) - V 143 (82 + k)) || decide (off < V 143 (82 + k) - V 143 (8 + 4 * (j + k)))) = true := by
                  cases hq : zAny i2 (fun k => decide (off < V 143 (8 + 4 * (j + k)) - V 143 (82 + k)) || decide (off < V 143 (82 + k) - V 143 (8 + 4 * (j + k)))) with
                  | true => rfl
                  | false => rw [hb, hq] at c3; exact absurd c3 (by decide)
                rw [zAny, hz]
                rfl
              · have hz : zAny i2 (fun k => decide (off < V 143 (8 + 4 * (j + k)) - V 143 (82 + k)) || decide (off < V 143 (82 + k) - V 143 (8 + 4 * (j + k)))) = false := by
                  cases hq : zAny i2 (fun k => decide (off < V 143 (8 + 4 * (j + k)) - V 143 (82 + k)) || decide (off < V 143 (82 + k) - V 143 (8 + 4 * (j + k)))) with
                  | false => rfl
                  | true => rw [hb, hq] at c3; exact absurd rfl c3
                rw [z_addk (by omega), show z_add 82 (i2 : Int) = ((82 + i2 : Nat) : Int) from z_addk (a := 82) (by omega)]
                refine sp157 (d := d + 4) (w := 0) (by omega) (by omega) (z_gp (by omega) (z_all ?_))
                rw [Int.toNat_natCast, e143, show 8 + 4 * (j + i2) + 0 = 8 + 4 * (j + i2) by omega, z_sub_e (by omega)]
                refine sp148 (d := d + 4) (by omega) (fun y hy => ih2 (i2 + 1) _ (by omega) ?_)
                rw [zAny, hz, Bool.false_or]
                by_cases c4 : off < y
                · rw [if_pos c4, if_pos (by simp; omega)]
                · rw [if_neg c4, if_neg (by simp; omega)]
          exact inner K 0 1 (by omega) rfl
    exact lp (n + 1) 0 _ _ (by omega) (fun t ht => absurd ht (Nat.not_lt_zero t))
  refine zb123_36 _ _ (sp133 (d := d + 4) (fun h1 => z_ifn (by decide) ?_) (fun h1 => z_ifp rfl (no (by omega))))
  rw [show V 37 12 = (K : Int) by omega]
  refine z_ifc (fun c => no (by omega)) (fun c => z_ifc (fun c2 => ?_) (fun c2 => ?_))
  · refine ref h1 (by omega) _ (fun t _ _ q => ?_) (fun _ => by rw [if_neg (by omega)])
    omega
  · have lp : ∀ (k j : Nat), j + k = n → (∀ t, t < j → zFt (V 143) n K off t = true → ¬ (zCt t (zFt (V 143) n K off) : Int) = i) → z_Ex (z_MS (d + 5)) 123 (fun z W => z_MS (d + 6) 243 true [.inr (.inr 141), .inl off, .inl i] W (fun z2 X => z2 = z ∧ zR X)) true 32 [some (.inr (.inr 36)), some (.inl off), some (.inl i), some (.inl (zCt j (zFt (V 143) n K off) : Int)), some (.inl (j : Int))] [] 0 0 V := by
      intro k
      induction k with
      | zero =>
        intro j e hf
        have e2 : j = n := by omega
        subst e2
        refine zb123_36_p32 _ _ _ _ (z_ifn (by omega) (ref h1 (by omega) _ (fun t ht h2 q => absurd q (hf t ht h2)) (fun _ => rfl)))
      | succ k ih =>
        intro j e hf
        have hcl := zCt_le (n := j) (f := zFt (V 143) n K off)
        refine zb123_36_p32 _ _ _ _ (z_ifp (by omega) (sp90 (d := d + 4) hT hn hK (by omega) h1 ?_))
        rw [z_inc (i := j) (by omega)]
        cases hft : zFt (V 143) n K off j with
        | false =>
          have h3 := ih (j + 1) (by omega) (fun t ht h2 => by
            by_cases et : t = j
            · subst et; rw [hft] at h2; exact absurd h2 (by decide)
            · exact hf t (by omega) h2)
          rw [zCt, hft] at h3
          exact z_ifp rfl h3
        | true =>
          refine z_ifn (by decide) (z_ifc (fun c3 => ?_) (fun c3 => ?_))
          · refine ref h1 (by omega) _ (fun t ht h2 q => ?_) (fun hq => absurd c3 (hq j (by omega) hft))
            -- the i-th felt place is one
            have key : ∀ s t, s < t → zFt (V 143) n K off s = true → zCt s (zFt (V 143) n K off) < zCt t (zFt (V 143) n K off) := by
              intro s t hst hs
              have h4 := zCt_mono (n := t) (f := fun q => decide (q < s + 1) && zFt (V 143) n K off q) (g := zFt (V 143) n K off) (fun q _ hq => by simp at hq; exact hq.2)
              rw [zCt_n (show s + 1 ≤ t by omega), zCt, hs] at h4
              simp at h4
              omega
            by_cases hjt : j < t
            · have := key j t hjt hft; omega
            · by_cases htj : t < j
              · have := key t j htj h2; omega
              · omega
          · rw [z_inc (by omega)]
            have h3 := ih (j + 1) (by omega) (fun t ht h2 => by
              by_cases et : t = j
              · subst et; exact c3
              · exact hf t (by omega) h2)
            rw [zCt, hft] at h3
            exact h3
    exact lp n 0 (by omega) (fun t ht => absurd ht (Nat.not_lt_zero t))
end
