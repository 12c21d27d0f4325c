/-! best, the class; built, the reference -/
section
variable {d : Nat} {Q : Int → z_M → Prop}
/-- the best of all orders -/
def zBO (ρ : Nat → Int) (Λ : Nat → (Nat → Int) → Int) (n R m : Nat) : Int × Int × Int × List Nat := zFd (zEo (zSv n R (zLE ρ (fun t => t)) (zSR ρ) (ρ 7) (zCR ρ Λ (fun t => t))) (zSd n (zLE ρ (fun t => t)) (zSR ρ) (ρ 7) (zCR ρ Λ (fun t => t))) (zRq ρ) (zAk ρ) (fun _ => 0, zG0 ρ (fun t => t)) m R) zS0 (zPm m m [])
theorem zBO_p {ρ : Nat → Int} {Λ : Nat → (Nat → Int) → Int} {n R m : Nat} (hm : m ≤ 7) : ¬ (zBO ρ Λ n R m).1 = -1 := by
  obtain ⟨t, ht1, _⟩ := zCb_all (n := m) hm
  unfold zBO
  rw [ht1]
  have := zFd_p (ev := zEo (zSv n R (zLE ρ (fun t => t)) (zSR ρ) (ρ 7) (zCR ρ Λ (fun t => t))) (zSd n (zLE ρ (fun t => t)) (zSR ρ) (ρ 7) (zCR ρ Λ (fun t => t))) (zRq ρ) (zAk ρ) (fun _ => 0, zG0 ρ (fun t => t)) m R) (A := t) (a := List.range m) (S := zS0) (by show (0 : Int) ≤ (zCt m _ : Int); omega)
  omega
theorem zAn_e {S : Int × Int × Int × List Nat} {m : Nat} {a : Int} : (if 0 ≤ a ∧ a < 3 + (m : Int) then zAn S m a else -1) = zAn S m a := by
  by_cases c : 0 ≤ a ∧ a < 3 + (m : Int)
  · rw [if_pos c]
  · rw [if_neg c]
    unfold zAn
    rw [if_neg (by omega), if_neg (by omega), if_neg (by omega), if_neg (by omega)]
theorem sp115 {V : z_M} {ρ : Nat → Int} {Λ : Nat → (Nat → Int) → Int} {n R m : Nat} {a : Int} (hSt : zSt V) (hT : zT 37 ρ V Λ) (hn : ρ 0 = (n : Int)) (hR : ρ 1 = (R : Int)) (hm : ρ 4 = (m : Int)) (ha : a < 2147483648) (hc : V 119 1 = 0 ∨ (V 119 1 = 1 ∧ zSx V 119 120 m (zBO ρ Λ n R m)))
    (h : ∀ W, zOff 94 121 V W → W 119 1 = 1 → zSx W 119 120 m (zBO ρ Λ n R m) → Q (zAn (zBO ρ Λ n R m) m a) W) : z_MS (d + 18) 115 true [.inr (.inr 36), .inl a] V Q := by
  have a4 := zT_4 hT
  have hp : ¬ (zBO ρ Λ n R m).1 = -1 := zBO_p (by omega)
  refine zb115_36 _ (z_ifc (fun c0 => ?_) (fun c0 => ?_))
  · refine sp139 (d := d + 11) hSt hT hn hR (fun W w1 w2 w3 => ?_)
    have hTW := zT_off hT w1 (by decide) (by decide) (by decide)
    refine zb45_118_37_97 (sp66_119 (d := d + 15) (m := m) (fun X x1 x2 x3 => ?_))
    have hTX : zT 37 ρ X Λ := zT_c hTW (x1 0 (by decide)) (fun a y z => x1 a (by omega)) (fun a y => x1 a (by omega))
    have hSX := zSC_up (by have := zT_1 hT; omega) w2 (by rw [x1 97 (by decide)]) (by rw [x1 97 (by decide)]) (fun a y z => x1 a (by omega))
    refine sp46 (U := X) (car := zCR ρ Λ (fun t => t)) (lev := zLE ρ (fun t => t)) (g0 := zG0 ρ (fun t => t)) rfl rfl hTX hn hR hm hSX m (d + 16) [] zS0 X 0 _ (by omega) (by simp) (fun x hx => by cases hx) zXo_r (zBS_c zBS_0 (fun k => by simp)) (fun i hi => by cases hi) (zDY_c w3 (x1 97 (by decide)) (x1 115 (by decide))) x3 (fun Y y1 y2 y3 y4 => ?_)
    have f37 : Y 37 11 = (m : Int) := by rw [y1.1 37 (by decide) (by decide) (by decide) (by decide) (by decide), x1 37 (by decide), w1 37 (by omega)]; omega
    rw [f37]
    refine sp69_119 (d := d + 16) ha (by omega) y4 hp ?_
    exact h Y (fun b hb => by rw [y1.1 b (by omega) (by omega) (by omega) (by omega) (by omega), x1 b (by omega), w1 b (by omega)]) (by rw [y1.2.2.2, x2]) y4
  · rcases hc with hc | ⟨hc, hx⟩
    · exact absurd hc c0
    · have f37 : V 37 11 = (m : Int) := by omega
      rw [f37]
      exact sp69_119 (d := d + 16) ha (by omega) hx hp (h V zOff_r hc hx)
/-- what a row of the books gives -/
def zIx (row : List Nat) (b : Nat) : Nat := row.idxOf b
def zEb (ρ : Nat → Int) (Λ : Nat → (Nat → Int) → Int) (n R m : Nat) (row : List Nat) : Int × Int :=
  zEv (zSv n R (zLE ρ (zLf row)) (zSR ρ) (ρ 7) (zCR ρ Λ (zLf row))) (zSd n (zLE ρ (zLf row)) (zSR ρ) (ρ 7) (zCR ρ Λ (zLf row))) (zRq ρ) (fun a => zIx row (zAk ρ a)) (fun _ => 0, zG0 ρ (zLf row)) m R
def zBB (ρ : Nat → Int) (Λ : Nat → (Nat → Int) → Int) (n R m : Nat) : Int × Int × Int × List Nat := zFd (zEb ρ Λ n R m) zS0 (zPm n n [])
theorem zPm_v : ∀ n : Fin 7, (zPm n.val n.val []).all (fun row => (List.range n.val).all (fun t => Nat.blt (zLf row t) n.val && Nat.blt (zIx row t) n.val && Nat.beq (zIx row (zLf row t)) t && Nat.beq (zLf row (zIx row t)) t)) = true := by decide +kernel
theorem zPm_2 {n : Nat} (hn : n ≤ 6) {row : List Nat} (h : row ∈ zPm n n []) : zPm2 n (zLf row) (zIx row) := by
  have h1 := zPm_v ⟨n, by omega⟩
  rw [List.all_eq_true] at h1
  have h2 := h1 row h
  rw [List.all_eq_true] at h2
  intro t ht
  have h3 := h2 t (List.mem_range.mpr ht)
  rw [Bool.and_eq_true, Bool.and_eq_true, Bool.and_eq_true] at h3
  obtain ⟨⟨⟨q1, q2⟩, q3⟩, q4⟩ := h3
  exact ⟨Nat.le_of_ble_eq_true q1, Nat.le_of_ble_eq_true q2, Nat.eq_of_beq_eq_true q3, Nat.eq_of_beq_eq_true q4⟩
theorem zBB_p {ρ : Nat → Int} {Λ : Nat → (Nat → Int) → Int} {n R m : Nat} (hn : n ≤ 6) : ¬ (zBB ρ Λ n R m).1 = -1 ∧ ∃ row, row ∈ zPm n n [] ∧ (zBB ρ Λ n R m).2.2.2 = row := by
  obtain ⟨t, ht1, _⟩ := zCb_all (n := n) (by omega)
  have hf : ∀ (A : List (List Nat)) (S : Int × Int × Int × List Nat) , (∀ x ∈ A, x ∈ zPm n n []) → (S.1 = -1 ∨ S.2.2.2 ∈ zPm n n []) → ((zFd (zEb ρ Λ n R m) S A).1 = -1 ∨ (zFd (zEb ρ Λ n R m) S A).2.2.2 ∈ zPm n n []) := by
    intro A
    induction A with
    | nil => intro S _ hS; exact hS
    | cons a A ih =>
      intro S hA hS
      refine ih (zWg S (zEb ρ Λ n R m a).1 (zEb ρ Λ n R m a).2 a) (fun x hx => hA x (by simp [hx])) ?_
      unfold zWg
      split
      · exact Or.inr (hA a (by simp))
      · split
        · exact hS
        · exact hS
  have h1 : ¬ (zBB ρ Λ n R m).1 = -1 := by
    unfold zBB
    rw [ht1]
    have := zFd_p (ev := zEb ρ Λ n R m) (A := t) (a := List.range n) (S := zS0) (by show (0 : Int) ≤ (zCt m _ : Int); omega)
    omega
  refine ⟨h1, _, ?_, rfl⟩
  rcases hf (zPm n n []) zS0 (fun x hx => hx) (Or.inl rfl) with q | q
  · exact absurd q h1
  · exact q
theorem lp234 {V0 : z_M} {b0 : Nat} {ρ : Nat → Int} {Λ : Nat → (Nat → Int) → Int} {n R m : Nat} {y : List Nat} {U : z_M} (hT : zT b0 ρ V0 Λ) (hn : ρ 0 = (n : Int)) (hR : ρ 1 = (R : Int)) (hm : ρ 4 = (m : Int)) (hn6 : n ≤ 6) (hU : U 143 = ρ) (hy : zNl n y = none)
    (h : ∀ W, zFm 26 49 153 164 U W → zSm W n (zBB ρ Λ n R m) → Q 0 W) :
    ∀ (A : List (List Nat)) (x : List Nat) (P : List (List Nat)) (V : z_M) (o3 : Option z_V), P ++ (x :: A) = zPm n n [] → zCb n x A y = true → zFm 26 49 153 164 U V → (∀ i, i < n → V 163 i = (zLf x i : Int)) → zSm V n (zFd (zEb ρ Λ n R m) zS0 P) → z_Ex (z_MS (d + 8)) 234 Q true 12 [some (.inr (.inr 141)), some (.inl (n : Int)), some (.inl 1), o3] [] 0 0 V := by
  intro A
  have a4 := zT_4 hT
  have a1 := zT_1 hT
  -- one row of books, then the next
  have one : ∀ (x : List Nat) (P : List (List Nat)) (V : z_M) (o3 : Option z_V), x ∈ zPm n n [] → zFm 26 49 153 164 U V → (∀ i, i < n → V 163 i = (zLf x i : Int)) → zSm V n (zFd (zEb ρ Λ n R m) zS0 P) →
      (∀ (W : z_M) (o3 : Option z_V), zFm 26 49 153 164 U W → (∀ i, i < n → W 163 i = (zLf x i : Int)) → zSm W n (zFd (zEb ρ Λ n R m) zS0 (P ++ [x])) → z_MS (d + 8) 230 true [.inr (.inr 141), .inl (n : Int)] W (fun z X => z_Ex (z_MS (d + 8)) 234 Q true 12 [some (.inr (.inr 141)), some (.inl (n : Int)), some (.inl z), o3] [] 0 0 X)) →
      z_Ex (z_MS (d + 8)) 234 Q true 12 [some (.inr (.inr 141)), some (.inl (n : Int)), some (.inl 1), o3] [] 0 0 V := by
    intro x P V o3 hx hV hp hS hk
    have hp2 := zPm_2 hn6 hx
    have eV : V 143 = ρ := by rw [hV.1 143 (by decide) (by omega)]; exact hU
    have copy : ∀ (k i : Nat) (W : z_M) (o2 : Option z_V), i + k = n → (∀ a, ¬ a = 155 → W a = V a) → (∀ j, j < i → W 155 j = (zLf x j : Int)) → z_Ex (z_MS (d + 8)) 234 Q true 18 [some (.inr (.inr 141)), some (.inl (n : Int)), o2, some (.inl (i : Int))] [] 0 0 W := by
      intro k
      induction k with
      | zero =>
        intro i W o2 e w1 w2
        have e2 : i = n := by omega
        subst e2
        refine zb234_141_p18 _ _ _ (z_ifn (by omega) ?_)
        refine sp202 (d := d + 2) (π := zLf x) (σ := zIx x) hT (by rw [w1 143 (by decide)]; exact eV) hn hR hm hp2 w2 (fun X x1 x2 x3 => ?_)
        refine sp226 (d := d + 3) hT x3 rfl (fun p hp => zLE_b hT hn (fun t ht => (hp2 t ht).1) hp) (fun a ha => (hp2 (zAk ρ a) (by have aa := zT_a hT (a := a) (by omega); unfold zAk; omega)).2.1) (fun Y z y1 y2 y3 y4 => ?_)
        obtain ⟨s, hs1, hs2, hs3⟩ := zBS_n y4
        subst hs1
        refine sp147 (d := d + 7) hs2 ?_
        refine sp224 (d := d + 4) hT y2 y3 rfl (fun p hp => zLE_b hT hn (fun t ht => (hp2 t ht).1) hp) (fun Z z2 z1 z3 => ?_)
        obtain ⟨u, hu1, hu2, hu3⟩ := zBS_n z3
        subst hu1
        refine sp147 (d := d + 7) hu2 ?_
        have fZ : zFm 26 44 153 162 V Z := zFm_t ⟨fun a q r => w1 a (by omega), fun j _ => by rw [w1 141 (by decide)]⟩ (zFm_t (zFm_w x1 (by omega)) (zFm_t (zFm_w y1 (by omega)) ⟨fun a q r => z1 a (by omega), fun j _ => by rw [z1 141 (by decide)]⟩))
        have hSZ : zSm Z i (zFd (zEb ρ Λ i R m) zS0 P) := by
          unfold zSm at hS ⊢
          rw [fZ.2 47 (by omega), fZ.2 48 (by omega), fZ.2 49 (by omega), fZ.1 164 (by decide) (by omega)]
          exact hS
        have hev : zEb ρ Λ i R m x = ((zCn12 s : Int), (zCn12 u : Int)) := by
          unfold zEb zEv
          rw [hs3, hu3, zCt_n (by omega), zCt_n (by omega)]
        refine sp232 (d := d + 7) (m := i) (row := x) (by omega) (by omega) (zFd_sr (A := P) ⟨by decide, by decide⟩) hSZ (fun j hj => by rw [fZ.1 163 (by decide) (by omega)]; exact hp j hj) (fun X2 q1 q2 => ?_)
        refine hk X2 _ (zFm_t hV (zFm_t (zFm_w fZ (by omega)) (zFm_w q1 (by omega)))) (fun j hj => by rw [q1.1 163 (by decide) (by omega), fZ.1 163 (by decide) (by omega)]; exact hp j hj) ?_
        rw [zFd_a]
        have : zFd (zEb ρ Λ i R m) (zFd (zEb ρ Λ i R m) zS0 P) [x] = zWg (zFd (zEb ρ Λ i R m) zS0 P) (zEb ρ Λ i R m x).1 (zEb ρ Λ i R m x).2 x := rfl
        rw [this, hev]
        exact q2
      | succ k ih =>
        intro i W o2 e w1 w2
        refine zb234_141_p18 _ _ _ (z_ifp (by omega) (z_gp (by omega) (z_all (z_gp (by omega) (z_all ?_)))))
        rw [Int.toNat_natCast, z_inc (by omega), w1 163 (by decide), hp i (by omega)]
        refine ih (i + 1) _ _ (by omega) (fun a ha => by rw [z_up_cell ha]; exact w1 a ha) (fun j hj => ?_)
        by_cases ej : j = i
        · subst ej; exact zUp_s
        · rw [zUp_o (by omega)]; exact w2 j (by omega)
    refine zb234_141_p12 _ _ _ (z_ifn (by decide) ?_)
    exact copy n 0 V _ (by omega) (fun _ _ => rfl) (fun j hj => absurd hj (Nat.not_lt_zero j))
  induction A with
  | nil =>
    intro x P V o3 hP hc hV hp hS
    have hxy : x = y := by simpa [zCb] using hc
    refine one x P V o3 (by rw [← hP]; simp) hV hp hS (fun W o3 w1 w3 w4 => ?_)
    have hnl : zNl n x = none := by rw [hxy]; exact hy
    have hnp : zNp n (zLf x) = none := by
      unfold zNl at hnl
      cases hq : zNp n (zLf x) with
      | none => rfl
      | some p2 => rw [hq] at hnl; cases hnl
    refine sp230 (d := d + 6) (by omega) w3 (fun _ => ?_) (fun p2 hp2 => ?_)
    · refine zb234_141_p12 _ _ _ (z_ifp rfl (h W w1 ?_))
      unfold zBB
      rw [← hP]
      exact w4
    · rw [hnp] at hp2
      cases hp2
  | cons b t ih =>
    intro x P V o3 hP hc hV hp hS
    have hc2 : (zNl n x == some b) = true ∧ zCb n b t y = true := by
      rw [zCb, Bool.and_eq_true] at hc
      exact hc
    refine one x P V o3 (by rw [← hP]; simp) hV hp hS (fun W o3 w1 w3 w4 => ?_)
    have hnl : zNl n x = some b := by simpa using hc2.1
    unfold zNl at hnl
    refine sp230 (d := d + 6) (by omega) w3 (fun hq => ?_) (fun p2 hp2 X x1 x2 => ?_)
    · rw [hq] at hnl
      cases hnl
    · rw [hp2] at hnl
      have hb : zFl n p2 = b := by
        have hnl2 : some (zFl n p2) = some b := hnl
        injection hnl2
      refine ih b (P ++ [x]) X _ (by rw [← hP]; simp) hc2.2 (zFm_t w1 ⟨fun a q r => x1 a (by omega), fun k _ => by rw [x1 141 (by decide)]⟩) (fun i hi => ?_) ?_
      · rw [x2 i hi, ← hb, zLf_fl hi]
      · unfold zSm at w4 ⊢
        rw [x1 141 (by decide), x1 164 (by decide)]
        exact w4
theorem sp234 {V V0 : z_M} {b0 : Nat} {ρ : Nat → Int} {Λ : Nat → (Nat → Int) → Int} {n R m : Nat} (hT : zT b0 ρ V0 Λ) (h143 : V 143 = ρ) (hn : ρ 0 = (n : Int)) (hR : ρ 1 = (R : Int)) (hm : ρ 4 = (m : Int)) (hn6 : n ≤ 6)
    (h : ∀ W, zFm 26 49 153 164 V W → zSm W n (zBB ρ Λ n R m) → Q 0 W) : z_MS (d + 9) 234 true [.inr (.inr 141)] V Q := by
  refine zb234_141 (sp154 (d := d + 7) ?_)
  rw [h143, hn]
  refine sp229 (d := d + 7) (by omega) (fun X x1 x2 x3 => ?_)
  obtain ⟨t, ht1, ht2⟩ := zCb_all (n := n) (by omega)
  exact lp234 (Λ := Λ) (U := X) (y := (List.range n).reverse) hT hn hR hm hn6 (by rw [x1.1 143 (by decide) (by omega)]; exact h143) (zCb_e ⟨n, by omega⟩) (fun Y y1 y2 => h Y (zFm_t (zFm_w x1 (by omega)) y1) y2) t (List.range n) [] X _ (by rw [ht1]; rfl) ht2 zFm_r (fun i hi => by rw [x2 i hi, zLf_r hi]) x3
theorem sp235 {V V0 : z_M} {b0 : Nat} {ρ : Nat → Int} {Λ : Nat → (Nat → Int) → Int} {n R m : Nat} {a : Int} (hT : zT b0 ρ V0 Λ) (h143 : V 143 = ρ) (hn : ρ 0 = (n : Int)) (hR : ρ 1 = (R : Int)) (hm : ρ 4 = (m : Int))
    (h : ∀ W, zFm 26 49 153 164 (z_up V 141 0 0) W → Q (if n ≤ 6 then zAn (zBB ρ Λ n R m) n a else -1) W) : z_MS (d + 10) 235 true [.inr (.inr 141), .inl a] V Q := by
  have a0 := zT_0 hT
  refine zb235_141 _ (z_all ?_)
  have u : zFm 0 0 153 153 V (z_up V 141 0 0) := zFm_f zFm_r (by omega)
  have u143 : z_up V 141 0 0 143 = ρ := by rw [z_up_cell (by decide)]; exact h143
  refine sp154 (d := d + 8) ?_
  rw [u143, hn]
  refine z_ifc (fun c6 => ?_) (fun c6 => ?_)
  · rw [if_neg (by omega)] at h
    exact h _ zFm_r
  · rw [if_pos (by omega), ← zAn_e] at h
    refine sp154 (d := d + 8) ?_
    rw [u143, hn, z_ladd_e (by omega)]
    refine sp145 (d := d + 8) (fun hc => z_ifn (by decide) ?_) (fun hc => z_ifp rfl ?_)
    · refine sp234 (d := d) hT u143 hn hR hm (by omega) (fun W w1 w2 => ?_)
      have hh := h W (zFm_w w1 (by omega))
      rw [if_pos (by omega)] at hh
      have hpos := (zBB_p (ρ := ρ) (Λ := Λ) (n := n) (R := R) (m := m) (by omega)).1
      unfold zAn at hh
      obtain ⟨s1, s2, s3, s4⟩ := w2
      rw [s1, s2, s3]
      refine z_ifc (fun c => ?_) (fun c => z_ifc (fun c1 => ?_) (fun c1 => z_ifc (fun c2 => ?_) (fun c2 => ?_)))
      · rw [if_pos c] at hh; exact hh
      · rw [if_neg c, if_pos c1] at hh; exact hh
      · rw [if_neg c, if_neg c1, if_pos c2] at hh; exact hh
      · rw [if_neg c, if_neg c1, if_neg c2, if_pos (by omega)] at hh
        rw [z_sub_e (by omega)]
        refine z_gp (by omega) (z_all ?_)
        rcases s4 with s4 | s4
        · exact absurd s4 hpos
        · rw [s4 _ (by omega)]
          exact hh
    · rw [if_neg (by omega)] at h
      exact h _ zFm_r
end
