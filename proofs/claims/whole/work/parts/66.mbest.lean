/-! the order that serves most: the reference; both answers -/
section
variable {d : Nat} {Q : Int → z_M → Prop}
theorem zLf_r {n i : Nat} (h : i < n) : zLf (List.range n) i = i := by
  unfold zLf
  rw [List.getD_eq_getElem?_getD, List.getElem?_range h]
  rfl
/-- one order is tried -/
theorem lp233s {U V0 : z_M} {b0 : Nat} {ρ : Nat → Int} {Λ : Nat → (Nat → Int) → Int} {n R m : Nat} {lev : Nat → Int} {car : Nat → Nat → Bool} {g0 : Nat → Bool} {sv : (Nat → Nat) → (Nat → Bool) → Nat → Nat → Int} {row : List Nat} {l1 : Int} (hsv : sv = zSv n R lev (zSR ρ) (ρ 7) car) (hT : zT b0 ρ V0 Λ) (hl0 : lev 0 = 0) (hlb : ∀ p, p ≤ n → 0 ≤ lev p ∧ lev p ≤ 108) (hn : ρ 0 = (n : Int)) (hR : ρ 1 = (R : Int)) (hm : ρ 4 = (m : Int)) (hrow : ∀ i, i < m → zLf row i < m)
    (h : ∀ W o3, zFm 44 44 159 162 U W → zMC W ρ n R m lev car (zAk ρ) g0 → zMD W n (zPl sv (fun i => zRq ρ (zLf row i)) (fun i => zAk ρ (zLf row i)) (fun _ => 0, g0) m).1 (zPl sv (fun i => zRq ρ (zLf row i)) (fun i => zAk ρ (zLf row i)) (fun _ => 0, g0) m).2 → z_Ex (z_MS (d + 4)) 233 Q true 54 [some (.inr (.inr 141)), some (.inl l1), some (.inl (m : Int)), o3, some (.inl (zCt m (zPb sv (fun i => zRq ρ (zLf row i)) (fun i => zAk ρ (zLf row i)) (fun _ => 0, g0)) : Int)), some (.inl (m : Int))] [] 0 0 W) :
    ∀ (k i : Nat) (V : z_M) (o3 : Option z_V), i + k = m → zFm 44 44 159 162 U V → (∀ i, i < m → U 163 i = (zLf row i : Int)) → zMC V ρ n R m lev car (zAk ρ) g0 → zMD V n (zPl sv (fun i => zRq ρ (zLf row i)) (fun i => zAk ρ (zLf row i)) (fun _ => 0, g0) i).1 (zPl sv (fun i => zRq ρ (zLf row i)) (fun i => zAk ρ (zLf row i)) (fun _ => 0, g0) i).2 → z_Ex (z_MS (d + 4)) 233 Q true 54 [some (.inr (.inr 141)), some (.inl l1), some (.inl (m : Int)), o3, some (.inl (zCt i (zPb sv (fun i => zRq ρ (zLf row i)) (fun i => zAk ρ (zLf row i)) (fun _ => 0, g0)) : Int)), some (.inl (i : Int))] [] 0 0 V
  | 0, i, V, o3, e, hV, hp, hC, hD => by
    have e2 : i = m := by omega
    subst e2
    exact h V _ hV hC hD
  | k + 1, i, V, o3, e, hV, hp, hC, hD => by
    have a4 := zT_4 hT
    have a1 := zT_1 hT
    have a0 := zT_0 hT
    have hri := hrow i (by omega)
    have aa := zT_a hT (a := zLf row i) (by omega)
    have hrq : ρ (68 + 2 * zLf row i) = (zRq ρ (zLf row i) : Int) := by unfold zRq; omega
    have htq : zAk ρ (zLf row i) < n := by unfold zAk; omega
    have e163 : V 163 = U 163 := hV.1 163 (by decide) (by omega)
    have hle := zCt_le (n := i) (f := zPb sv (fun i => zRq ρ (zLf row i)) (fun i => zAk ρ (zLf row i)) (fun _ => 0, g0))
    refine zb233_141_p54 _ _ _ _ _ (z_ifp (by omega) (z_gp (by omega) (z_all ?_)))
    rw [Int.toNat_natCast, e163, hp i (by omega), z_inc (by omega)]
    refine sp225 (d := d + 3) (by omega) (z_gp (by omega) (z_all ?_))
    rw [e163, hp i (by omega)]
    refine z_gp (by omega) (z_all ?_)
    rw [Int.toNat_natCast, hC.2.2.2.2.2.2.1 _ hri, hC.1, hrq]
    have hpl : zPl sv (fun i => zRq ρ (zLf row i)) (fun i => zAk ρ (zLf row i)) (fun _ => 0, g0) (i + 1) = zWs sv (zPl sv (fun i => zRq ρ (zLf row i)) (fun i => zAk ρ (zLf row i)) (fun _ => 0, g0) i) (zRq ρ (zLf row i)) (zAk ρ (zLf row i)) := rfl
    have hcn : zCt (i + 1) (zPb sv (fun i => zRq ρ (zLf row i)) (fun i => zAk ρ (zLf row i)) (fun _ => 0, g0)) = zCt i (zPb sv (fun i => zRq ρ (zLf row i)) (fun i => zAk ρ (zLf row i)) (fun _ => 0, g0)) + (if zPb sv (fun i => zRq ρ (zLf row i)) (fun i => zAk ρ (zLf row i)) (fun _ => 0, g0) i = true then 1 else 0) := rfl
    refine sp223 hT hC hD hl0 hlb (by unfold zRq; omega) htq (fun h0 W w1 w2 w3 => ?_) (fun p W hp1 hp2 w1 w2 w3 => ?_)
    · rw [← hsv] at h0
      rw [if_pos rfl, z_add_e (by omega), Int.add_zero]
      have hb : zPb sv (fun i => zRq ρ (zLf row i)) (fun i => zAk ρ (zLf row i)) (fun _ => 0, g0) i = false := by unfold zPb; rw [h0]; rfl
      rw [hb] at hcn
      have := lp233s hsv hT hl0 hlb hn hR hm hrow h k (i + 1) W (cond (z_o2 o3) none o3) (by omega) (zFm_t hV w1) hp w2 (by rw [hpl]; unfold zWs; rw [if_pos h0]; exact w3)
      rw [hcn] at this
      exact this
    · rw [← hsv] at hp1
      rw [if_neg (by decide), z_inc (by omega)]
      have hb : zPb sv (fun i => zRq ρ (zLf row i)) (fun i => zAk ρ (zLf row i)) (fun _ => 0, g0) i = true := by unfold zPb; rw [hp1]; simp
      rw [hb] at hcn
      have := lp233s hsv hT hl0 hlb hn hR hm hrow h k (i + 1) W (cond (z_o2 o3) none o3) (by omega) (zFm_t hV w1) hp w2 (by rw [hpl]; unfold zWs; rw [if_neg (by rw [hp1]; omega), hp1, Int.toNat_natCast]; exact w3)
      rw [hcn] at this
      exact this
/-- a count of bits -/
theorem zBS_n {z : Int} {f : Nat → Bool} (h : zBS z f) : ∃ s : Nat, z = (s : Int) ∧ s < 2147483648 ∧ zCn12 s = zCt 12 f := by
  obtain ⟨s, rfl⟩ := Int.eq_ofNat_of_zero_le h.1
  refine ⟨s, rfl, by have := h.2.1; omega, zCt_congr (fun k _ => ?_)⟩
  have := h.2.2 k
  unfold zB at this
  rw [Int.toNat_natCast] at this
  exact this
theorem zFd_ge {ev : List Nat → Int × Int} : ∀ {A : List (List Nat)} {S : Int × Int × Int × List Nat}, S.1 ≤ (zFd ev S A).1
  | [], _ => Int.le_refl _
  | a :: A, S => Int.le_trans (zWg_s (s := (ev a).1) (t := (ev a).2) (row := a)).1 (zFd_ge (A := A))
theorem zFd_sr {ev : List Nat → Int × Int} : ∀ {A : List (List Nat)} {S : Int × Int × Int × List Nat}, zSr S → zSr (zFd ev S A)
  | [], _, h => h
  | a :: A, S, h => zFd_sr (A := A) (zWg_r h)
theorem zFd_p {ev : List Nat → Int × Int} {A : List (List Nat)} {a : List Nat} {S : Int × Int × Int × List Nat} (h : 0 ≤ (ev a).1) : 0 ≤ (zFd ev S (a :: A)).1 :=
  Int.le_trans (Int.le_trans h (zWg_s (S := S) (s := (ev a).1) (t := (ev a).2) (row := a)).2) (zFd_ge (A := A))
/-- what is asked of a score -/
def zAn (S : Int × Int × Int × List Nat) (m : Nat) (a : Int) : Int := if a = 0 then S.1 else if a = 1 then S.2.1 else if a = 2 then S.2.2.1 else if 3 ≤ a ∧ a < 3 + (m : Int) then (zLf S.2.2.2 (a - 3).toNat : Int) else -1
theorem lp233 {V0 : z_M} {b0 : Nat} {ρ : Nat → Int} {Λ : Nat → (Nat → Int) → Int} {n R m : Nat} {lev : Nat → Int} {car : Nat → Nat → Bool} {g0 : Nat → Bool} {sv : (Nat → Nat) → (Nat → Bool) → Nat → Nat → Int} {sd : (Nat → Nat) → (Nat → Bool) → Nat → Bool} {l1 : Int} {y : List Nat} {U : z_M} (hsv : sv = zSv n R lev (zSR ρ) (ρ 7) car) (hsd : sd = zSd n lev (zSR ρ) (ρ 7) car) (hT : zT b0 ρ V0 Λ) (hl0 : lev 0 = 0) (hlb : ∀ p, p ≤ n → 0 ≤ lev p ∧ lev p ≤ 108) (hn : ρ 0 = (n : Int)) (hR : ρ 1 = (R : Int)) (hm : ρ 4 = (m : Int)) (hy : zNl m y = none)
    (h : ∀ W S, zFm 44 49 159 164 U W → zSm W m S → S = zFd (zEo sv sd (zRq ρ) (zAk ρ) (fun _ => 0, g0) m R) zS0 (zPm m m []) → ∀ o4 o5 : Option z_V, z_Ex (z_MS (d + 5)) 233 Q true 40 [some (.inr (.inr 141)), some (.inl l1), some (.inl (m : Int)), some (.inl 0), o4, o5] [] 0 0 W) :
    ∀ (A : List (List Nat)) (x : List Nat) (P : List (List Nat)) (V : z_M) (o4 o5 : Option z_V), P ++ (x :: A) = zPm m m [] → zCb m x A y = true → zFm 44 49 159 164 U V → zMC V ρ n R m lev car (zAk ρ) g0 → (∀ i, i < m → V 163 i = (zLf x i : Int)) → zSm V m (zFd (zEo sv sd (zRq ρ) (zAk ρ) (fun _ => 0, g0) m R) zS0 P) → z_Ex (z_MS (d + 5)) 233 Q true 40 [some (.inr (.inr 141)), some (.inl l1), some (.inl (m : Int)), some (.inl 1), o4, o5] [] 0 0 V := by
  intro A
  have a4 := zT_4 hT
  have a1 := zT_1 hT
  -- one order, then the next
  have one : ∀ (x : List Nat) (P : List (List Nat)) (V : z_M) (o4 o5 : Option z_V), x ∈ zPm m m [] → zFm 44 49 159 164 U V → zMC V ρ n R m lev car (zAk ρ) g0 → (∀ i, i < m → V 163 i = (zLf x i : Int)) → zSm V m (zFd (zEo sv sd (zRq ρ) (zAk ρ) (fun _ => 0, g0) m R) zS0 P) →
      (∀ (W : z_M) (o4 o5 : Option z_V), zFm 44 49 159 164 U W → zMC W ρ n R m lev car (zAk ρ) g0 → (∀ i, i < m → W 163 i = (zLf x i : Int)) → zSm W m (zFd (zEo sv sd (zRq ρ) (zAk ρ) (fun _ => 0, g0) m R) zS0 (P ++ [x])) → z_MS (d + 5) 230 true [.inr (.inr 141), .inl (m : Int)] W (fun z X => z_Ex (z_MS (d + 5)) 233 Q true 40 [some (.inr (.inr 141)), some (.inl l1), some (.inl (m : Int)), some (.inl z), o4, o5] [] 0 0 X)) →
      z_Ex (z_MS (d + 5)) 233 Q true 40 [some (.inr (.inr 141)), some (.inl l1), some (.inl (m : Int)), some (.inl 1), o4, o5] [] 0 0 V := by
    intro x P V o4 o5 hx hV hC hp hS hk
    obtain ⟨q1, _⟩ := zPm_pre hx
    have hel := (zPm_el (fun x hx => by cases hx) List.nodup_nil hx).1
    have hrow : ∀ i, i < m → zLf x i < m := fun i hi => by
      unfold zLf
      rw [List.getD_eq_getElem?_getD, List.getElem?_eq_getElem (by simp at q1; omega)]
      exact hel _ (List.getElem_mem _)
    refine zb233_141_p40 _ _ _ _ _ (z_ifn (by decide) ?_)
    refine sp221 (d := d + 4) hC (fun W0 w1 w2 w3 => ?_)
    refine lp233s (d := d + 1) (l1 := l1) (row := x) hsv hT hl0 hlb hn hR hm hrow (fun W o3 x1 x2 x3 => ?_) m 0 W0 _ (by omega) zFm_r (fun i hi => by rw [w1.1 163 (by decide) (by omega)]; exact hp i hi) w2 w3
    refine zb233_141_p54 _ _ _ _ _ (z_ifn (by omega) ?_)
    refine sp224 (d := d + 1) hT x2 x3 hl0 hlb (fun X z y1 y2 => ?_)
    obtain ⟨s, hs1, hs2, hs3⟩ := zBS_n y2
    subst hs1
    refine sp147 (d := d + 4) hs2 ?_
    have hcx : zMC X ρ n R m lev car (zAk ρ) g0 := zMC_c x2 (y1 143 (by decide)) (y1 156 (by decide)) (y1 157 (by decide)) (y1 158 (by decide)) (by rw [y1 141 (by decide)])
    have fX : zFm 44 44 159 162 V X := zFm_t w1 (zFm_t x1 ⟨fun a q r => y1 a (by omega), fun k _ => by rw [y1 141 (by decide)]⟩)
    have hSX : zSm X m (zFd (zEo sv sd (zRq ρ) (zAk ρ) (fun _ => 0, g0) m R) zS0 P) := by
      unfold zSm at hS ⊢
      rw [fX.2 47 (by omega), fX.2 48 (by omega), fX.2 49 (by omega), fX.1 164 (by decide) (by omega)]
      exact hS
    have hev : zEo sv sd (zRq ρ) (zAk ρ) (fun _ => 0, g0) m R x = ((zCt m (zPb sv (fun i => zRq ρ (zLf x i)) (fun i => zAk ρ (zLf x i)) (fun _ => 0, g0)) : Int), (zCn12 s : Int)) := by
      unfold zEo zEv
      rw [hs3, zCt_n (by omega), hsd]
    have hle := zCt_le (n := m) (f := zPb sv (fun i => zRq ρ (zLf x i)) (fun i => zAk ρ (zLf x i)) (fun _ => 0, g0))
    refine sp232 (d := d + 4) (m := m) (row := x) (by omega) (by omega) (zFd_sr (A := P) ⟨by decide, by decide⟩) hSX (fun i hi => by rw [fX.1 163 (by decide) (by omega)]; exact hp i hi) (fun Y z1 z2 => ?_)
    refine hk Y _ _ (zFm_t hV (zFm_t (zFm_w fX (by omega)) (zFm_w z1 (by omega)))) (zMC_c hcx (z1.1 143 (by decide) (by omega)) (z1.1 156 (by decide) (by omega)) (z1.1 157 (by decide) (by omega)) (z1.1 158 (by decide) (by omega)) (z1.2 36 (by omega))) (fun i hi => by rw [z1.1 163 (by decide) (by omega), fX.1 163 (by decide) (by omega)]; exact hp i hi) ?_
    rw [zFd_a]
    have : zFd (zEo sv sd (zRq ρ) (zAk ρ) (fun _ => 0, g0) m R) (zFd (zEo sv sd (zRq ρ) (zAk ρ) (fun _ => 0, g0) m R) zS0 P) [x] = zWg (zFd (zEo sv sd (zRq ρ) (zAk ρ) (fun _ => 0, g0) m R) zS0 P) (zEo sv sd (zRq ρ) (zAk ρ) (fun _ => 0, g0) m R x).1 (zEo sv sd (zRq ρ) (zAk ρ) (fun _ => 0, g0) m R x).2 x := rfl
    rw [this, hev]
    exact z2
  induction A with
  | nil =>
    intro x P V o4 o5 hP hc hV hC hp hS
    have hxy : x = y := by simpa [zCb] using hc
    refine one x P V o4 o5 (by rw [← hP]; simp) hV hC hp hS (fun W o4 o5 w1 w2 w3 w4 => ?_)
    have hnl : zNl m x = none := by rw [hxy]; exact hy
    have hnp : zNp m (zLf x) = none := by
      unfold zNl at hnl
      cases hq : zNp m (zLf x) with
      | none => rfl
      | some p2 => rw [hq] at hnl; cases hnl
    refine sp230 (d := d + 3) (by omega) w3 (fun _ => h W _ w1 w4 (by rw [hP]) _ _) (fun p2 hp2 => ?_)
    rw [hnp] at hp2
    cases hp2
  | cons b t ih =>
    intro x P V o4 o5 hP hc hV hC hp hS
    have hc2 : (zNl m x == some b) = true ∧ zCb m b t y = true := by
      rw [zCb, Bool.and_eq_true] at hc
      exact hc
    refine one x P V o4 o5 (by rw [← hP]; simp) hV hC hp hS (fun W o4 o5 w1 w2 w3 w4 => ?_)
    have hnl : zNl m x = some b := by simpa using hc2.1
    unfold zNl at hnl
    refine sp230 (d := d + 3) (by omega) w3 (fun hq => ?_) (fun p2 hp2 X x1 x2 => ?_)
    · rw [hq] at hnl
      cases hnl
    · rw [hp2] at hnl
      have hb : zFl m p2 = b := by
        have hnl2 : some (zFl m p2) = some b := hnl
        injection hnl2
      refine ih b (P ++ [x]) X _ _ (by rw [← hP]; simp) hc2.2 (zFm_t w1 ⟨fun a q r => x1 a (by omega), fun k _ => by rw [x1 141 (by decide)]⟩) (zMC_c w2 (x1 143 (by decide)) (x1 156 (by decide)) (x1 157 (by decide)) (x1 158 (by decide)) (by rw [x1 141 (by decide)])) (fun i hi => ?_) ?_
      · rw [x2 i hi, ← hb, zLf_fl hi]
      · unfold zSm at w4 ⊢
        rw [x1 141 (by decide), x1 164 (by decide)]
        exact w4
theorem sp233 {V V0 : z_M} {b0 : Nat} {ρ : Nat → Int} {Λ : Nat → (Nat → Int) → Int} {n R m : Nat} {a : Int} (hT : zT b0 ρ V0 Λ) (h143 : V 143 = ρ) (hn : ρ 0 = (n : Int)) (hR : ρ 1 = (R : Int)) (hm : ρ 4 = (m : Int))
    (h : ∀ W, zFm 26 49 153 164 (z_up V 141 0 0) W → Q (if 0 ≤ a ∧ a < 3 + (m : Int) then zAn (zFd (zEo (zSv n R (zLE ρ (fun t => t)) (zSR ρ) (ρ 7) (zCR ρ Λ (fun t => t))) (zSd n (zLE ρ (fun t => t)) (zSR ρ) (ρ 7) (zCR ρ Λ (fun t => t))) (zRq ρ) (zAk ρ) (fun _ => 0, zG0 ρ (fun t => t)) m R) zS0 (zPm m m [])) m a else -1) W) :
    z_MS (d + 9) 233 true [.inr (.inr 141), .inl a] V Q := by
  have a4 := zT_4 hT
  have a0 := zT_0 hT
  refine zb233_141 _ (z_all ?_)
  have u : zFm 0 0 153 153 V (z_up V 141 0 0) := zFm_f zFm_r (by omega)
  have u143 : z_up V 141 0 0 143 = ρ := by rw [z_up_cell (by decide)]; exact h143
  rw [u143, hm, z_ladd_e (by omega)]
  refine sp145 (d := d + 7) (fun hc => z_ifn (by decide) ?_) (fun hc => z_ifp rfl ?_)
  · rw [if_pos (by omega)] at h
    refine sp201 (d := d + 1) hT u143 hn hR hm (fun W w1 w2 => ?_)
    refine sp229 (d := d + 7) (by omega) (fun X x1 x2 x3 => ?_)
    obtain ⟨t, ht1, ht2⟩ := zCb_all (n := m) (by omega)
    refine lp233 (d := d + 3) (U := X) (lev := zLE ρ (fun t => t)) (car := zCR ρ Λ (fun t => t)) (g0 := zG0 ρ (fun t => t)) (y := (List.range m).reverse) (l1 := a) rfl rfl hT rfl (fun p hp => zLE_b hT hn (fun t ht => ht) hp) hn hR hm (zCb_e ⟨m, by omega⟩) (fun Y S y1 y2 y3 o4 o5 => ?_) t (List.range m) [] X _ _ (by rw [ht1]; rfl) ht2 zFm_r (zMC_c w2 (x1.1 143 (by decide) (by omega)) (x1.1 156 (by decide) (by omega)) (x1.1 157 (by decide) (by omega)) (x1.1 158 (by decide) (by omega)) (x1.2 36 (by omega))) (fun i hi => by rw [x2 i hi, zLf_r hi]) x3
    have hh := h Y (zFm_t (zFm_w w1 (by omega)) (zFm_t (zFm_w x1 (by omega)) (zFm_w y1 (by omega))))
    rw [← y3] at hh
    have hpos : ¬ S.1 = -1 := by
      rw [y3, ht1]
      have := zFd_p (ev := zEo (zSv n R (zLE ρ (fun t => t)) (zSR ρ) (ρ 7) (zCR ρ Λ (fun t => t))) (zSd n (zLE ρ (fun t => t)) (zSR ρ) (ρ 7) (zCR ρ Λ (fun t => t))) (zRq ρ) (zAk ρ) (fun _ => 0, zG0 ρ (fun t => t)) m R) (A := t) (a := List.range m) (S := zS0) (by show (0 : Int) ≤ (zCt m _ : Int); omega)
      omega
    unfold zAn at hh
    obtain ⟨s1, s2, s3, s4⟩ := y2
    refine zb233_141_p40 _ _ _ _ _ (z_ifp rfl ?_)
    rw [s1, s2, s3]
    refine z_ifc (fun c => ?_) (fun c => z_ifc (fun c1 => ?_) (fun c1 => z_ifc (fun c2 => ?_) (fun c2 => ?_)))
    · rw [if_pos c] at hh; exact hh
    · rw [if_neg c, if_pos c1] at hh; exact hh
    · rw [if_neg c, if_neg c1, if_pos c2] at hh; exact hh
    · rw [if_neg c, if_neg c1, if_neg c2, if_pos (by omega)] at hh
      rw [z_sub_e (by omega)]
      refine z_gp (by omega) (z_all ?_)
      rcases s4 with s4 | s4
      · exact absurd s4 hpos
      · rw [s4 _ (by omega)]
        exact hh
  · rw [if_neg (by omega)] at h
    exact h _ zFm_r
end
