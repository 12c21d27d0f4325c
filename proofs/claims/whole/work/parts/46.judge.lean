/-! the judge: a clause, a law -/
theorem sp76 {d : Nat} {Q : Int → z_M → Prop} {a : Int} {V : z_M} (hT : 0 ≤ V 37 8 ∧ V 37 8 ≤ 6) (h1 : 0 ≤ a ∧ a < V 37 8 → Q 1 V) (h0 : ¬ (0 ≤ a ∧ a < V 37 8) → Q 0 V) : z_MS (d + 2) 76 true [.inr (.inr 37), .inl a] V Q := by
  refine zb76_37 _ ?_
  rw [z_sub_e (by omega)]
  refine sp133 (fun h => z_gp (by decide) (h1 (by omega))) (fun h => z_gp (by decide) (h0 (by omega)))
/-- the deed of a clause -/
theorem lp17d {d : Nat} {Q : Int → z_M → Prop} {U : z_M} {q Z E b : Nat} {hd : Int} {st : List Int} {o2 : Option z_V} (hL : zLA U q Z) (hE : E ≤ Z) (hz : Z ≤ 400) (hb : b + 1 = E) (hh : hd = 0 ∨ hd = 1) (hdd : U (169 + 4 * q + 1) b = if hd = 0 then 13 else 14)
    {V : z_M} {at_ : Nat} (ho : zJo U V) (hJ : zJ V st) (hbr : V 94 4 = 0) (ha : zAt V at_ b) (hl : st.length ≤ 39)
    (h : ∀ W, zOff 94 96 U W → W 95 = U 95 → (hd = 0 → ∀ v r, st = v :: r → W 94 6 = v ∧ W 94 5 = U 94 5) → (hd = 1 → W 94 5 = 1) → (hd = 0 → ¬ st = []) → Q 0 W) (hne : hd = 0 → ¬ st = []) :
    z_Ex (z_MS (d + 2)) 17 Q true 18 [some (.inr (.inr 94)), some (.inr (.inr (169 + 4 * q))), o2, some (.inl (E : Int)), some (.inl (at_ : Int))] [] 0 0 V := by
  refine lp17t (zLA_o hL ho.1) hbr (by omega) hE hz ha ?_
  rw [ho.1 (169 + 4 * q + 1) (by omega), hdd]
  have key : ∀ W, zOff 94 96 U W → W 95 = U 95 → (hd = 0 → ∀ v r, st = v :: r → W 94 6 = v ∧ W 94 5 = U 94 5) → (hd = 1 → W 94 5 = 1) → z_Ex (z_MS (d + 2)) 17 Q true 18 [some (.inr (.inr 94)), some (.inr (.inr (169 + 4 * q))), o2, some (.inl (E : Int)), some (.inl ((b + 1 : Nat) : Int))] [] 0 0 W :=
    fun W w1 w2 w3 w4 => lp17x (zLA_o hL w1) (Or.inr (by omega)) (h W w1 w2 w3 w4 hne)
  rcases hh with rfl | rfl
  · rw [if_pos rfl]
    cases st with
    | nil => exact absurd rfl (hne rfl)
    | cons v r =>
      refine zb18_94 _ _ _ ?_
      repeat (first | refine z_ifp (by decide) ?_ | refine z_ifn (by decide) ?_)
      refine sp22 hJ (by simp at hl; omega) (fun W o j b3 r3 => z_all ?_)
      refine key _ (zOff_u (zOff_t ho.1 o.1) (by decide) (by decide)) ?_ ?_ ?_
      · show W 95 = U 95
        rw [o.2.1, ho.2.1]
      · intro _ v2 r2 e
        injection e with e1 e2
        subst e1
        refine ⟨rfl, ?_⟩
        show W 94 5 = U 94 5
        rw [o.2.2.1, ho.2.2.1]
      · intro e
        exact absurd e (by decide)
  · rw [if_neg (by decide)]
    refine zb18_94 _ _ _ ?_
    repeat (first | refine z_ifp (by decide) ?_ | refine z_ifn (by decide) ?_)
    refine z_all ?_
    refine key _ (zOff_u ho.1 (by decide) (by decide)) ?_ ?_ ?_
    · show V 95 = U 95
      exact ho.2.1
    · intro e
      exact absurd e (by decide)
    · intro _
      rfl
/-- a clause -/
theorem sp17 {d : Nat} {Q : Int → z_M → Prop} {V : z_M} {q Z s a b E : Nat} {hd : Int} {ts : Bool} {op arg f : Nat → Int} {Fs Ft : (Nat → Int) → Option Int} (hf : zFb f) (hfa : ∀ i, i < 9 → V 95 i = f i) (hL : zLA V q Z) (hE : E ≤ Z) (hz : Z ≤ 400) (hsa : s ≤ a) (hab : a ≤ b) (hb : b + 1 = E) (hh : hd = 0 ∨ hd = 1) (hdd : V (169 + 4 * q + 1) b = if hd = 0 then 13 else 14)
    (hs : if hd = 0 then zSeg (fun j => zTr (V (169 + 4 * q + 1) j) (V (169 + 4 * q + 2) j)) (fun j => V (169 + 4 * q + 2) j) 20 s a Fs else a = s)
    (ht : if ts = true then (a < b ∧ V (169 + 4 * q + 1) (b - 1) = 12 ∧ zSeg (fun j => zTr (V (169 + 4 * q + 1) j) (V (169 + 4 * q + 2) j)) (fun j => V (169 + 4 * q + 2) j) 20 a (b - 1) Ft) else a = b)
    (h1 : zHo ts (Ft f) hd (Fs f) = true → ∀ W, zOff 94 96 V W → W 95 = V 95 → (hd = 0 → ∀ v, Fs f = some v → W 94 6 = v ∧ W 94 5 = V 94 5) → (hd = 1 → W 94 5 = 1) → Q 0 W)
    (h0 : zHo ts (Ft f) hd (Fs f) = false → ∀ W, zJo V W → Q 0 W) :
    z_MS (d + 3) 17 true [.inr (.inr 94), .inr (.inr (169 + 4 * q)), .inl (s : Int), .inl (E : Int)] V Q := by
  refine zb17_94_v _ _ _ (z_all (z_all (z_all ?_)))
  generalize hU : z_up (z_up (z_up V 94 2 0) 94 4 0) 94 3 (s : Int) = U
  have ho : zJo V U := by
    subst hU
    exact ⟨zOff_u (zOff_u (zOff_u zOff_r (by decide) (by decide)) (by decide) (by decide)) (by decide) (by decide), rfl, rfl, rfl⟩
  have hj : zJ U [] := by subst hU; exact ⟨rfl, trivial⟩
  have hbr : U 94 4 = 0 := by subst hU; rfl
  have hat : zAt U s s := ⟨Nat.le_refl s, Or.inl (by subst hU; rfl)⟩
  have hLU := zLA_o hL ho.1
  have e1 : U (169 + 4 * q + 1) = V (169 + 4 * q + 1) := ho.1 _ (by omega)
  have e2 : U (169 + 4 * q + 2) = V (169 + 4 * q + 2) := ho.1 _ (by omega)
  rw [← e1] at hdd
  rw [← e1, ← e2] at hs ht
  have hfaU : ∀ i, i < 9 → U 95 i = f i := fun i hi => by rw [ho.2.1]; exact hfa i hi
  -- the deed, behind sum and test
  have deed : ∀ (st : List Int) W at_, zJo U W → zJ W st → W 94 4 = 0 → zAt W at_ b → st.length ≤ 1 → (hd = 0 → ∃ v, st = [v] ∧ Fs f = some v) → zHo ts (Ft f) hd (Fs f) = true → z_Ex (z_MS (d + 2)) 17 Q true 18 [some (.inr (.inr 94)), some (.inr (.inr (169 + 4 * q))), some (.inl (s : Int)), some (.inl (E : Int)), some (.inl (at_ : Int))] [] 0 0 W := by
    intro st W at_ o j b3 a3 hl hst hho
    refine lp17d hLU hE hz hb hh hdd o j b3 a3 (by omega) (fun W2 w1 w2 w3 w4 _ => ?_) (fun e => ?_)
    · refine h1 hho W2 (zOff_t ho.1 w1) (w2.trans ho.2.1) (fun e v hv => ?_) w4
      obtain ⟨v2, q1, q2⟩ := hst e
      rw [q2] at hv
      injection hv with hv
      subst hv
      obtain ⟨q3, q4⟩ := w3 e v2 [] q1
      exact ⟨q3, by rw [q4, ho.2.2.1]⟩
    · obtain ⟨v2, q1, _⟩ := hst e
      rw [q1]
      simp
  have test : ∀ (st : List Int) W at_, zJo U W → zJ W st → W 94 4 = 0 → zAt W at_ a → st.length ≤ 1 → (∀ x ∈ st, -1000000000 ≤ x ∧ x ≤ 1000000000) → (hd = 0 → ∃ v, st = [v] ∧ Fs f = some v) → z_Ex (z_MS (d + 2)) 17 Q true 18 [some (.inr (.inr 94)), some (.inr (.inr (169 + 4 * q))), some (.inl (s : Int)), some (.inl (E : Int)), some (.inl (at_ : Int))] [] 0 0 W := by
    intro st W at_ o j b3 a3 hl hr hst
    have hsome : (!(hd == 0) || (Fs f).isSome) = true := by
      rcases hh with rfl | rfl
      · obtain ⟨v, _, q2⟩ := hst rfl
        rw [q2]; rfl
      · rfl
    cases ts with
    | false =>
      have hab2 : a = b := ht
      subst hab2
      refine deed st W at_ o j b3 a3 hl hst ?_
      unfold zHo
      rw [hsome]
      rfl
    | true =>
      obtain ⟨t1, t2, t3⟩ : a < b ∧ U (169 + 4 * q + 1) (b - 1) = 12 ∧ zSeg (fun j => zTr (U (169 + 4 * q + 1) j) (U (169 + 4 * q + 2) j)) (fun j => U (169 + 4 * q + 2) j) 20 a (b - 1) Ft := ht
      refine lp17v hf hfaU (fun _ => rfl) (fun _ => rfl) hLU (by omega) hE hz (by omega) t3 o j b3 a3 hr (fun v hv W2 at2 o2 j2 b4 a4 r4 => ?_) (fun hn W2 o2 _ => h0 ?_ W2 (zJo_t ho o2))
      · refine lp17t (zLA_o hLU o2.1) b4 (by omega) hE hz a4 ?_
        rw [o2.1 (169 + 4 * q + 1) (by omega), t2]
        refine zb18_94 _ _ _ ?_
        repeat (first | refine z_ifp (by decide) ?_ | refine z_ifn (by decide) ?_)
        refine sp22 j2 (by omega) (fun W3 o3 j3 b5 r5 => z_all ?_)
        simp only [z_lcmp_0]
        have o4 : ∀ u, zJo U (z_up W3 94 3 u) := fun u => ⟨zOff_u (zOff_t o2.1 o3.1) (by decide) (by decide), by rw [z_up_cell (by decide), o3.2.1, o2.2.1], by rw [zUp_o (by omega), o3.2.2.1, o2.2.2.1], by rw [zUp_o (by omega), o3.2.2.2, o2.2.2.2]⟩
        have j4 : ∀ u, zJ (z_up W3 94 3 u) st := fun u => ⟨by rw [zUp_o (by omega)]; exact j3.1, zStk_c (fun j _ => by rw [z_up_cell (by decide)]) j3.2⟩
        have b6 : ∀ u, z_up W3 94 3 u 94 4 = 0 := fun u => by rw [zUp_o (by omega), b5, b4]
        by_cases hv0 : v = 0
        · rw [if_pos hv0]
          refine lp17e (zLA_o hLU (o4 _).1) hE hz ⟨by omega, Or.inl zUp_s⟩ (b6 _) (h0 ?_ _ (zJo_t ho (o4 _)))
          unfold zHo
          rw [hv, hv0]
          rfl
        · rw [if_neg hv0]
          refine deed st _ _ (o4 _) (j4 _) (b6 _) ⟨by omega, Or.inr ⟨by omega, ?_⟩⟩ hl hst ?_
          · rw [zUp_s, r5]
            have := a4.2
            omega
          · unfold zHo
            rw [hv, hsome]
            simp [hv0]
      · unfold zHo
        rw [hn]
        rfl
  rcases hh with hh0 | hh1
  · rw [if_pos hh0] at hs
    refine lp17v hf hfaU (fun _ => rfl) (fun _ => rfl) hLU (by omega) hE hz (by simp) hs zJo_r hj hbr hat (fun x hx => absurd hx (by simp)) (fun v hv W2 at2 o2 j2 b4 a4 r4 => ?_) (fun hn W2 o2 _ => h0 ?_ W2 (zJo_t ho o2))
    · exact test [v] W2 at2 o2 j2 b4 a4 (by simp) r4 (fun _ => ⟨v, rfl, hv⟩)
    · unfold zHo
      rw [hn, hh0]
      simp
  · rw [if_neg (by omega)] at hs
    subst hs
    exact test [] U a zJo_r hj hbr hat (by simp) (fun x hx => absurd hx (by simp)) (fun e => absurd e (by omega))
