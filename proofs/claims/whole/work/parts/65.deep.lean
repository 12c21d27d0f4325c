/-! the order that serves most: the class goes deep -/
/-- what an order of the askings gives -/
def zEo (sv : (Nat → Nat) → (Nat → Bool) → Nat → Nat → Int) (sd : (Nat → Nat) → (Nat → Bool) → Nat → Bool) (rq tq : Nat → Nat) (S : (Nat → Nat) × (Nat → Bool)) (m R : Nat) (row : List Nat) : Int × Int := zEv sv sd (fun i => rq (zLf row i)) (fun i => tq (zLf row i)) S m R
def zQs (sv : (Nat → Nat) → (Nat → Bool) → Nat → Nat → Int) (rq tq : Nat → Nat) (S : (Nat → Nat) × (Nat → Bool)) (pre : List Nat) : (Nat → Nat) × (Nat → Bool) := zPl sv (fun i => rq (zLf pre i)) (fun i => tq (zLf pre i)) S pre.length
def zQc (sv : (Nat → Nat) → (Nat → Bool) → Nat → Nat → Int) (rq tq : Nat → Nat) (S : (Nat → Nat) × (Nat → Bool)) (pre : List Nat) : Nat := zCt pre.length (zPb sv (fun i => rq (zLf pre i)) (fun i => tq (zLf pre i)) S)
section
variable {sv : (Nat → Nat) → (Nat → Bool) → Nat → Nat → Int} {sd : (Nat → Nat) → (Nat → Bool) → Nat → Bool} {rq tq : Nat → Nat} {S0 : (Nat → Nat) × (Nat → Bool)} {pre : List Nat} {a m R : Nat}
theorem zQs_e : zPl sv (fun i => rq (zLf (pre ++ [a]) i)) (fun i => tq (zLf (pre ++ [a]) i)) S0 pre.length = zQs sv rq tq S0 pre := zPl_c (fun i hi => by rw [zLf_a hi]; exact ⟨rfl, rfl⟩)
theorem zQs_a : zQs sv rq tq S0 (pre ++ [a]) = zWs sv (zQs sv rq tq S0 pre) (rq a) (tq a) := by
  have e : (pre ++ [a]).length = pre.length + 1 := by simp
  have h : zQs sv rq tq S0 (pre ++ [a]) = zPl sv (fun i => rq (zLf (pre ++ [a]) i)) (fun i => tq (zLf (pre ++ [a]) i)) S0 (pre.length + 1) := by unfold zQs; rw [e]
  rw [h, zPl, zQs_e, zLf_b]
theorem zQc_a : zQc sv rq tq S0 (pre ++ [a]) = zQc sv rq tq S0 pre + (if sv (zQs sv rq tq S0 pre).1 (zQs sv rq tq S0 pre).2 (rq a) (tq a) = -1 then 0 else 1) := by
  have e : (pre ++ [a]).length = pre.length + 1 := by simp
  have h : zQc sv rq tq S0 (pre ++ [a]) = zCt (pre.length + 1) (zPb sv (fun i => rq (zLf (pre ++ [a]) i)) (fun i => tq (zLf (pre ++ [a]) i)) S0) := by unfold zQc; rw [e]
  rw [h, zCt]
  have h1 : zCt pre.length (zPb sv (fun i => rq (zLf (pre ++ [a]) i)) (fun i => tq (zLf (pre ++ [a]) i)) S0) = zQc sv rq tq S0 pre := zCt_pc (fun i hi => by rw [zLf_a hi]; exact ⟨rfl, rfl⟩)
  rw [h1]
  unfold zPb
  rw [zQs_e]
  simp only [zLf_b]
  by_cases c : sv (zQs sv rq tq S0 pre).1 (zQs sv rq tq S0 pre).2 (rq a) (tq a) = -1
  · simp [c]
  · simp [c]
theorem zEo_q (h : pre.length = m) : zEo sv sd rq tq S0 m R pre = ((zQc sv rq tq S0 pre : Int), (zCt R (fun r => sd (zQs sv rq tq S0 pre).1 (zQs sv rq tq S0 pre).2 r) : Int)) := by
  subst h
  rfl
theorem zQc_le : zQc sv rq tq S0 pre ≤ pre.length := zCt_le
/-- no row behind a front serves more than the front and all that is left -/
theorem zEo_up {l : Nat} {row : List Nat} (h : pre.length + l = m) (hr : row ∈ zPm m l pre) : (zEo sv sd rq tq S0 m R row).1 ≤ ((zQc sv rq tq S0 pre + l : Nat) : Int) := by
  obtain ⟨q1, q2⟩ := zPm_pre hr
  have hup := zCt_up (k := pre.length) (l := l) (f := zPb sv (fun i => rq (zLf row i)) (fun i => tq (zLf row i)) S0)
  rw [zCt_pc (rq2 := fun i => rq (zLf pre i)) (tq2 := fun i => tq (zLf pre i)) (k := pre.length) (fun i hi => by rw [q2 i hi]; exact ⟨rfl, rfl⟩), h] at hup
  have e : zCt pre.length (zPb sv (fun i => rq (zLf pre i)) (fun i => tq (zLf pre i)) S0) = zQc sv rq tq S0 pre := rfl
  rw [e] at hup
  show (zCt m _ : Int) ≤ _
  omega
end
/-- the scene, as it stays while orders are tried -/
def zXo (U V : z_M) : Prop := (∀ a, ¬ a = 97 → ¬ a = 115 → ¬ a = 119 → ¬ a = 120 → ¬ a = 121 → V a = U a) ∧ V 97 8 = U 97 8 ∧ V 97 9 = U 97 9 ∧ V 119 1 = U 119 1
theorem zXo_r {V : z_M} : zXo V V := ⟨fun _ _ _ _ _ _ => rfl, rfl, rfl, rfl⟩
theorem zFd_l {ev : List Nat → Int × Int} {S : Int × Int × Int × List Nat} {n l i : Nat} {pre : List Nat} :
    zFd ev S ((List.range (i + 1)).flatMap (fun a => if pre.contains a then [] else zPm n l (pre ++ [a]))) = zFd ev (zFd ev S ((List.range i).flatMap (fun a => if pre.contains a then [] else zPm n l (pre ++ [a])))) (if pre.contains i then [] else zPm n l (pre ++ [i])) := by
  rw [List.range_succ, List.flatMap_append, zFd_a]
  simp
theorem zCon_a {pre : List Nat} {a k : Nat} : (pre ++ [a]).contains k = (pre.contains k || decide (k = a)) := by
  rw [List.contains_append]
  congr 1
  by_cases e : k = a
  · subst e; simp
  · simp [e]
theorem sp46 {U : z_M} {ρ : Nat → Int} {Λ : Nat → (Nat → Int) → Int} {n R m : Nat} {lev : Nat → Int} {car : Nat → Nat → Bool} {g0 : Nat → Bool} {sv : (Nat → Nat) → (Nat → Bool) → Nat → Nat → Int} {sd : (Nat → Nat) → (Nat → Bool) → Nat → Bool} (hsv : sv = zSv n R lev (zSR ρ) (ρ 7) car) (hsd : sd = zSd n lev (zSR ρ) (ρ 7) car) (hT : zT 37 ρ U Λ) (hn : ρ 0 = (n : Int)) (hR : ρ 1 = (R : Int)) (hm : ρ 4 = (m : Int)) (hS : zSC U n R lev (zSR ρ) (ρ 7) car (fun _ => true)) :
    ∀ (l : Nat) (dd : Nat) (pre : List Nat) (S : Int × Int × Int × List Nat) (V : z_M) (us : Int) (Q : Int → z_M → Prop), l + 8 ≤ dd → pre.length + l = m → (∀ x ∈ pre, x < m) → zXo U V → zBS us (fun k => pre.contains k) → (∀ i, i < pre.length → V 121 i = (zLf pre i : Int)) →
      zDY V n (zQs sv (zRq ρ) (zAk ρ) (fun _ => 0, g0) pre).1 (zQs sv (zRq ρ) (zAk ρ) (fun _ => 0, g0) pre).2 → zSx V 119 120 m S →
      (∀ W, zXo U W → (∀ i, i < pre.length → W 121 i = (zLf pre i : Int)) → zDY W n (zQs sv (zRq ρ) (zAk ρ) (fun _ => 0, g0) pre).1 (zQs sv (zRq ρ) (zAk ρ) (fun _ => 0, g0) pre).2 → zSx W 119 120 m (zFd (zEo sv sd (zRq ρ) (zAk ρ) (fun _ => 0, g0) m R) S (zPm m l pre)) → Q 0 W) →
      z_MS dd 46 true [.inr (.inr 118), .inr (.inr 37), .inr (.inr 97), .inl (pre.length : Int), .inl us, .inl (zQc sv (zRq ρ) (zAk ρ) (fun _ => 0, g0) pre : Int)] V Q := by
  have a0 := zT_0 hT
  have a1 := zT_1 hT
  have a4 := zT_4 hT
  intro l
  induction l with
  | zero =>
    intro dd pre S V us Q hdd hl hpre hV hus h121 hD hSx h
    obtain ⟨e, rfl⟩ : ∃ e, dd = e + 8 := ⟨dd - 8, by omega⟩
    have hml : pre.length = m := by omega
    have e37 : V 37 = U 37 := hV.1 37 (by decide) (by decide) (by decide) (by decide) (by decide)
    have m37 : V 37 11 = (m : Int) := by rw [e37]; omega
    have hle := zQc_le (sv := sv) (rq := zRq ρ) (tq := zAk ρ) (S0 := (fun _ => 0, g0)) (pre := pre)
    refine zb46_118_37_97 _ _ _ ?_
    rw [m37, z_sub_e (by omega), z_add_e (by omega)]
    refine zb67_119 _ ?_
    have hSV : zSC V n R lev (zSR ρ) (ρ 7) car (fun _ => true) := zSC_up (by omega) hS hV.2.1 hV.2.2.1 (fun a x y => hV.1 a (by omega) (by omega) (by omega) (by omega) (by omega))
    have hev := zEo_q (sv := sv) (sd := sd) (rq := zRq ρ) (tq := zAk ρ) (S0 := (fun _ => 0, g0)) (R := R) hml
    have hfd : zFd (zEo sv sd (zRq ρ) (zAk ρ) (fun _ => 0, g0) m R) S (zPm m 0 pre) = zWg S (zEo sv sd (zRq ρ) (zAk ρ) (fun _ => 0, g0) m R pre).1 (zEo sv sd (zRq ρ) (zAk ρ) (fun _ => 0, g0) m R pre).2 pre := rfl
    have s1 := hSx.1
    by_cases hc : (zQc sv (zRq ρ) (zAk ρ) (fun _ => 0, g0) pre : Int) + ((m : Int) - (pre.length : Int)) < V 119 2
    · rw [if_pos hc]
      refine z_ifp rfl (h V hV h121 hD ?_)
      rw [zFd_n (fun row hr => ?_)]
      · exact hSx
      · have := zEo_up (sv := sv) (sd := sd) (rq := zRq ρ) (tq := zAk ρ) (S0 := (fun _ => 0, g0)) (R := R) hl hr
        omega
    · rw [if_neg hc]
      refine z_ifn (by decide) (z_ifn (by omega) ?_)
      refine sp62 (d := e + 4) hSV hD (by omega) (by omega) (fun _ _ _ => rfl) (fun z hz => sp256 (d := e + 6) ?_)
      have hzlt := zBS_lt 6 hz (fun k hk => by simp; omega)
      rw [zBS_cn hz (by omega), zCt_n (by omega), ← hsd]
      refine sp68_119 (d := e + 6) (m := m) (row := pre) (S := S) (by omega) (by omega) hSx (fun i hi => h121 i (by omega)) (fun W w1 w2 w3 => h W ⟨fun a x1 x2 x3 x4 x5 => (w1 a x3 x4).trans (hV.1 a x1 x2 x3 x4 x5), ?_, ?_, ?_⟩ (fun i hi => ?_) (zDY_c hD (w1 97 (by decide) (by decide)) (w1 115 (by decide) (by decide))) ?_)
      · rw [w1 97 (by decide) (by decide)]; exact hV.2.1
      · rw [w1 97 (by decide) (by decide)]; exact hV.2.2.1
      · rw [w2]; exact hV.2.2.2
      · rw [w1 121 (by decide) (by decide)]; exact h121 i hi
      · rw [hfd, hev]
        exact w3
  | succ l ih =>
    intro dd pre S V us Q hdd hl hpre hV hus h121 hD hSx h
    obtain ⟨e, rfl⟩ : ∃ e, dd = e + 8 := ⟨dd - 8, by omega⟩
    have e37 : V 37 = U 37 := hV.1 37 (by decide) (by decide) (by decide) (by decide) (by decide)
    have m37 : V 37 11 = (m : Int) := by rw [e37]; omega
    have hle := zQc_le (sv := sv) (rq := zRq ρ) (tq := zAk ρ) (S0 := (fun _ => 0, g0)) (pre := pre)
    refine zb46_118_37_97 _ _ _ ?_
    rw [m37, z_sub_e (by omega), z_add_e (by omega)]
    refine zb67_119 _ ?_
    have s1 := hSx.1
    by_cases hc : (zQc sv (zRq ρ) (zAk ρ) (fun _ => 0, g0) pre : Int) + ((m : Int) - (pre.length : Int)) < V 119 2
    · rw [if_pos hc]
      refine z_ifp rfl (h V hV h121 hD ?_)
      rw [zFd_n (fun row hr => ?_)]
      · exact hSx
      · have := zEo_up (sv := sv) (sd := sd) (rq := zRq ρ) (tq := zAk ρ) (S0 := (fun _ => 0, g0)) (R := R) hl hr
        omega
    · rw [if_neg hc]
      refine z_ifn (by decide) (z_ifp (by omega) (z_ifp (by omega) ?_))
      -- the askings one by one
      have lp : ∀ (k i : Nat) (W : z_M) (o6 o8 o9 o10 o11 : Option z_V), i + k = m → zXo U W → (∀ j, j < pre.length → W 121 j = (zLf pre j : Int)) → zDY W n (zQs sv (zRq ρ) (zAk ρ) (fun _ => 0, g0) pre).1 (zQs sv (zRq ρ) (zAk ρ) (fun _ => 0, g0) pre).2 →
          zSx W 119 120 m (zFd (zEo sv sd (zRq ρ) (zAk ρ) (fun _ => 0, g0) m R) S ((List.range i).flatMap (fun a => if pre.contains a then [] else zPm m l (pre ++ [a])))) →
          z_Ex (z_MS (e + 7)) 46 Q true 59 [some (.inr (.inr 118)), some (.inr (.inr 37)), some (.inr (.inr 97)), some (.inl (pre.length : Int)), some (.inl us), some (.inl (zQc sv (zRq ρ) (zAk ρ) (fun _ => 0, g0) pre : Int)), o6, some (.inl (i : Int)), o8, o9, o10, o11] [] 0 0 W := by
        intro k
        induction k with
        | zero =>
          intro i W o6 o8 o9 o10 o11 ei w1 w2 w3 w4
          have e2 : i = m := by omega
          subst e2
          have f37 : W 37 = U 37 := w1.1 37 (by decide) (by decide) (by decide) (by decide) (by decide)
          exact zb46_118_37_97_p59 _ _ _ _ _ _ _ _ _ (z_ifn (by rw [f37]; omega) (h W w1 w2 w3 w4))
        | succ k ihk =>
          intro i W o6 o8 o9 o10 o11 ei w1 w2 w3 w4
          have f37 : W 37 = U 37 := w1.1 37 (by decide) (by decide) (by decide) (by decide) (by decide)
          have f49 : W 49 = U 49 := w1.1 49 (by decide) (by decide) (by decide) (by decide) (by decide)
          have f50 : W 50 = U 50 := w1.1 50 (by decide) (by decide) (by decide) (by decide) (by decide)
          have aa := zT_a hT (a := i) (by omega)
          have hrq : U 49 i = (zRq ρ i : Int) := by unfold zRq; have : U 49 i = ρ (68 + 2 * i) := aa.1; omega
          have htq : U 50 i = (zAk ρ i : Int) := by unfold zAk; have : U 50 i = ρ (69 + 2 * i) := aa.2.1; omega
          have hr6 : zRq ρ i < R := by unfold zRq; omega
          have ht6 : zAk ρ i < n := by unfold zAk; omega
          refine zb46_118_37_97_p59 _ _ _ _ _ _ _ _ _ (z_ifp (by rw [f37]; omega) ?_)
          rw [zBS_bit hus (by omega), z_inc (by omega)]
          cases hcon : pre.contains i with
          | true =>
            refine z_ifn (by decide) (ihk (i + 1) W _ _ _ _ _ (by omega) w1 w2 w3 ?_)
            rw [zFd_l, hcon]
            exact w4
          | false =>
            refine z_ifp rfl (z_gp (by omega) (z_all ?_))
            rw [Int.toNat_natCast, f49, hrq]
            refine z_gp (by omega) (z_all ?_)
            simp only [Int.toNat_natCast]
            rw [(w3.2 (zRq ρ i) (by omega)).1]
            refine z_gp (by omega) (z_all (z_gp (by omega) (z_all ?_)))
            have g50 : z_up W 121 pre.length (i : Int) 50 i = (zAk ρ i : Int) := by rw [z_up_cell (by decide), f50]; exact htq
            rw [g50]
            generalize hX : z_up W 121 pre.length (i : Int) = X
            have x1 : zXo U X := by
              subst hX
              exact ⟨fun a y1 y2 y3 y4 y5 => by rw [z_up_cell y5]; exact w1.1 a y1 y2 y3 y4 y5, w1.2.1, w1.2.2.1, w1.2.2.2⟩
            have x2 : ∀ j, j < (pre ++ [i]).length → X 121 j = (zLf (pre ++ [i]) j : Int) := by
              intro j hj
              rw [List.length_append] at hj
              subst hX
              by_cases ej : j = pre.length
              · subst ej; rw [zUp_s, zLf_b]
              · rw [zUp_o (by omega), zLf_a (by simp at hj; omega)]
                exact w2 j (by simp at hj; omega)
            have x3 : zDY X n (zQs sv (zRq ρ) (zAk ρ) (fun _ => 0, g0) pre).1 (zQs sv (zRq ρ) (zAk ρ) (fun _ => 0, g0) pre).2 := zDY_c w3 (by subst hX; rfl) (by subst hX; rfl)
            have x4 : X 119 = W 119 ∧ X 120 = W 120 := by subst hX; exact ⟨rfl, rfl⟩
            clear hX
            have hSX : zSC X n R lev (zSR ρ) (ρ 7) car (fun _ => true) := zSC_up (by omega) hS x1.2.1 x1.2.2.1 (fun a x y => x1.1 a (by omega) (by omega) (by omega) (by omega) (by omega))
            -- the deeper call, then all is put back
            have deep : ∀ (Y : z_M) (s0 : Int) (o11 : Option z_V), zXo U Y → (∀ j, j < (pre ++ [i]).length → Y 121 j = (zLf (pre ++ [i]) j : Int)) → Y 119 = W 119 → Y 120 = W 120 → zDY Y n (zQs sv (zRq ρ) (zAk ρ) (fun _ => 0, g0) (pre ++ [i])).1 (zQs sv (zRq ρ) (zAk ρ) (fun _ => 0, g0) (pre ++ [i])).2 → (zQc sv (zRq ρ) (zAk ρ) (fun _ => 0, g0) pre : Int) + s0 = (zQc sv (zRq ρ) (zAk ρ) (fun _ => 0, g0) (pre ++ [i]) : Int) → (s0 = 0 ∨ s0 = 1) → (∀ r, ¬ r = zRq ρ i → (zQs sv (zRq ρ) (zAk ρ) (fun _ => 0, g0) (pre ++ [i])).1 r = (zQs sv (zRq ρ) (zAk ρ) (fun _ => 0, g0) pre).1 r) →
                z_Ex (z_MS (e + 7)) 46 Q true 135 [some (.inr (.inr 118)), some (.inr (.inr 37)), some (.inr (.inr 97)), some (.inl (pre.length : Int)), some (.inl us), some (.inl (zQc sv (zRq ρ) (zAk ρ) (fun _ => 0, g0) pre : Int)), o6, some (.inl (i : Int)), some (.inl (zRq ρ i : Int)), some (.inl ((zQs sv (zRq ρ) (zAk ρ) (fun _ => 0, g0) pre).1 (zRq ρ i) : Int)), some (.inl (W 97 7)), o11] [.inl s0] 0 0 Y := by
              intro Y s0 o11 y1 y2 y3 y4 y5 y6 y7 y8
              refine zb46_118_37_97_p135 _ _ _ _ _ _ _ _ _ _ ?_
              have ee : z_add (zQc sv (zRq ρ) (zAk ρ) (fun _ => 0, g0) pre : Int) s0 = (zQc sv (zRq ρ) (zAk ρ) (fun _ => 0, g0) (pre ++ [i]) : Int) := by rw [z_add_e (by omega)]; exact y6
              rw [z_inc (i := pre.length) (by omega), ee, z_inc (i := i) (by omega)]
              have hlen : (pre ++ [i]).length = pre.length + 1 := by simp
              rw [← hlen]
              refine ih (e + 7) (pre ++ [i]) _ Y _ _ (by omega) (by rw [hlen]; omega) (fun x hx => ?_) y1 (zBS_c (zBS_or hus (zBS_pow (by omega))) (fun k => zCon_a.symm)) y2 y5 (by unfold zSx at w4 ⊢; rw [y3, y4]; exact w4) (fun Z z1 z2 z3 z4 => ?_)
              · rcases List.mem_append.mp hx with hx | hx
                · exact hpre x hx
                · have : x = i := by simpa using hx
                  omega
              · refine z_gp (by omega) (z_all (z_all ?_))
                rw [Int.toNat_natCast]
                refine ihk (i + 1) _ _ _ _ _ _ (by omega) ⟨fun a q1 q2 q3 q4 q5 => by rw [z_up_cell q1, z_up_cell q2]; exact z1.1 a q1 q2 q3 q4 q5, ?_, ?_, ?_⟩ (fun j hj => ?_) ⟨?_, fun r hr => ?_⟩ ?_
                · rw [zUp_o (by omega), z_up_cell (by decide)]; exact z1.2.1
                · rw [zUp_o (by omega), z_up_cell (by decide)]; exact z1.2.2.1
                · rw [z_up_cell (by decide), z_up_cell (by decide)]; exact z1.2.2.2
                · rw [z_up_cell (by decide), z_up_cell (by decide), z2 j (by rw [hlen]; omega), zLf_a hj]
                · rw [zUp_s]; exact w3.1
                · rw [z_up_cell (by decide)]
                  by_cases er : r = zRq ρ i
                  · subst er
                    rw [zUp_s]
                    exact ⟨rfl, (w3.2 _ hr).2⟩
                  · rw [zUp_o (by omega), (z3.2 r hr).1, y8 r er]
                    exact ⟨rfl, (w3.2 r hr).2⟩
                · rw [zFd_l, hcon]
                  unfold zSx at z4 ⊢
                  rw [z_up_cell (by decide), z_up_cell (by decide), z_up_cell (by decide), z_up_cell (by decide)]
                  exact z4
            refine sp59 (d := e + 4) hSX x3 (by omega) (by omega) hr6 rfl ht6 (fun h0 => ?_) (fun p Y hp hp2 y1 y2 y3 y4 => ?_)
            · rw [← hsv] at h0
              have hqs : zQs sv (zRq ρ) (zAk ρ) (fun _ => 0, g0) (pre ++ [i]) = zQs sv (zRq ρ) (zAk ρ) (fun _ => 0, g0) pre := by rw [zQs_a]; unfold zWs; rw [if_pos h0]
              rw [if_pos rfl]
              refine deep X 0 _ x1 x2 x4.1 x4.2 (by rw [hqs]; exact x3) ?_ (Or.inl rfl) (fun r _ => by rw [hqs])
              rw [zQc_a, if_pos h0]
              omega
            · rw [← hsv] at hp
              have hqs : zQs sv (zRq ρ) (zAk ρ) (fun _ => 0, g0) (pre ++ [i]) = (zUw (zQs sv (zRq ρ) (zAk ρ) (fun _ => 0, g0) pre).1 (zRq ρ i) p, zUg (zQs sv (zRq ρ) (zAk ρ) (fun _ => 0, g0) pre).2 (zAk ρ i)) := by rw [zQs_a]; unfold zWs; rw [if_neg (by rw [hp]; omega), hp, Int.toNat_natCast]
              rw [if_neg (by decide)]
              refine deep Y 1 _ ⟨fun a q1 q2 q3 q4 q5 => (y1 a q1 q2).trans (x1.1 a q1 q2 q3 q4 q5), by rw [y2]; exact x1.2.1, by rw [y3]; exact x1.2.2.1, by rw [y1 119 (by decide) (by decide)]; exact x1.2.2.2⟩ (fun j hj => by rw [y1 121 (by decide) (by decide)]; exact x2 j hj) (by rw [y1 119 (by decide) (by decide)]; exact x4.1) (by rw [y1 120 (by decide) (by decide)]; exact x4.2) (by rw [hqs]; exact y4) ?_ (Or.inr rfl) (fun r hr => ?_)
              · rw [zQc_a, if_neg (by rw [hp]; omega)]
                omega
              · rw [hqs]
                show zUw _ _ _ r = _
                unfold zUw
                rw [if_neg hr]
      exact lp m 0 V _ _ _ _ _ (by omega) hV h121 hD hSx
