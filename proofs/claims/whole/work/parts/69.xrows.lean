/-! built: the class tries all rows -/
theorem zPl_w {sv : (Nat → Nat) → (Nat → Bool) → Nat → Nat → Int} {rq tq : Nat → Nat} {S : (Nat → Nat) × (Nat → Bool)} {r : Nat} : ∀ {k : Nat}, (∀ a, a < k → ¬ rq a = r) → (zPl sv rq tq S k).1 r = S.1 r
  | 0, _ => rfl
  | k + 1, h => by
    show (zWs sv (zPl sv rq tq S k) (rq k) (tq k)).1 r = S.1 r
    unfold zWs
    split
    · exact zPl_w (fun a ha => h a (by omega))
    · show zUw _ _ _ r = _
      unfold zUw
      rw [if_neg (fun e => h k (by omega) e.symm)]
      exact zPl_w (fun a ha => h a (by omega))
section
variable {d : Nat} {Q : Int → z_M → Prop}
/-- what trying rows changes -/
def zYo (U V : z_M) : Prop := (∀ a, (a < 94 ∨ 116 < a) → ¬ a = 123 → ¬ a = 124 → ¬ a = 132 → ¬ a = 133 → V a = U a) ∧ V 123 1 = U 123 1
theorem zYo_r {V : z_M} : zYo V V := ⟨fun _ _ _ _ _ _ => rfl, rfl⟩
theorem zYo_t {U V W : z_M} (h : zYo U V) (h2 : zYo V W) : zYo U W := ⟨fun a x1 x2 x3 x4 x5 => (h2.1 a x1 x2 x3 x4 x5).trans (h.1 a x1 x2 x3 x4 x5), h2.2.trans h.2⟩
theorem zT_yo {ρ : Nat → Int} {Λ : Nat → (Nat → Int) → Int} {U V : z_M} (hT : zT 37 ρ U Λ) (h : zYo U V) : zT 37 ρ V Λ := zT_c hT (h.1 0 (by omega) (by omega) (by omega) (by omega) (by omega)) (fun a x y => h.1 a (by omega) (by omega) (by omega) (by omega) (by omega)) (fun a x => h.1 a (by omega) (by omega) (by omega) (by omega) (by omega))
theorem lpj5 {U : z_M} {ρ : Nat → Int} {Λ : Nat → (Nat → Int) → Int} {n R m : Nat} {row : List Nat} {as : Int} {S : Int × Int × Int × List Nat} (hT : zT 37 ρ U Λ) (hn : ρ 0 = (n : Int)) (hR : ρ 1 = (R : Int)) (hm : ρ 4 = (m : Int)) (hn6 : n ≤ 6) (hp : zPm2 n (zLf row) (zIx row)) (hrow : ∀ i, i < n → U 132 i = (zLf row i : Int)) (hst : ∀ b, b < n → U 133 b = (zIx row b : Int)) (hC : zCD U ρ Λ n R (2 ^ n)) (hSx : zSx U 123 124 n S) (has : zBS as (zAs ρ m)) (hD : zDY U n (fun _ => 0) (zG0 ρ (zLf row)))
    (h : ∀ W, zOff 97 124 U W → (∀ a, 117 ≤ a → a ≤ 122 → W a = U a) → W 123 1 = U 123 1 → zSx W 123 124 n (zWg S (zEb ρ Λ n R m row).1 (zEb ρ Λ n R m row).2 row) → Q 0 W) :
    ∀ (k i : Nat) (V : z_M), i + k = R → zOff 97 116 U V → V 97 = U 97 → V 98 = U 98 → V 115 = U 115 → zSC V n R (zLE ρ (zLf row)) (zSR ρ) (ρ 7) (zCR ρ Λ (zLf row)) (fun r => decide (r < i) && zAs ρ m r) → z_Ex (z_MS (d + 4)) 5 Q true 17 [some (.inr (.inr 122)), some (.inr (.inr 37)), some (.inr (.inr 97)), some (.inl as), some (.inl (i : Int))] [] 0 0 V
  | 0, i, V, e, hV, h97, h98, h115, hS => by
    have e2 : i = R := by omega
    subst e2
    have a1 := zT_1 hT
    have a0 := zT_0 hT
    have a4 := zT_4 hT
    have hTV := zT_off hT hV (by decide) (by decide) (by decide)
    have hS2 : zSC V n i (zLE ρ (zLf row)) (zSR ρ) (ρ 7) (zCR ρ Λ (zLf row)) (zAs ρ m) := zSC_A hS (fun q hq hA => by simp [hq, hA])
    refine zb5_122_37_97_p17 _ _ (z_ifn (by rw [hV 37 (by omega)]; omega) ?_)
    refine sp61_133 (d := d) (rq := zRq ρ) (tq := fun a => zIx row (zAk ρ a)) hTV hn hR hm hn6 hS2 (zDY_c hD h97 h115) (fun a ha => ?_) (fun W z w1 w2 w3 w4 w5 => ?_)
    · have aa := zT_a hT (a := a) (by omega)
      have hak : zAk ρ a < n := by unfold zAk; omega
      refine ⟨?_, ?_, zAk ρ a, ?_, hak, ?_, (hp _ hak).2.1⟩
      · rw [hV 49 (by omega)]; unfold zRq; have : U 49 a = ρ (68 + 2 * a) := aa.1; omega
      · unfold zAs; rw [zAny_iff]; exact ⟨a, ha, by simp⟩
      · rw [hV 50 (by omega)]; unfold zAk; have : U 50 a = ρ (69 + 2 * a) := aa.2.1; omega
      · rw [hV 133 (by omega)]; exact hst _ hak
    have hzlt := zBS_lt 7 w5 (fun k hk => by simp; omega)
    refine sp256 (d := d + 3) ?_
    rw [zBS_cn w5 (by omega), zCt_n (by omega)]
    have hSW : zSC W n i (zLE ρ (zLf row)) (zSR ρ) (ρ 7) (zCR ρ Λ (zLf row)) (zAs ρ m) := zSC_up (by omega) hS2 w2 w3 (fun a x y => w1 a (by omega) (by omega))
    refine sp62 (d := d + 1) hSW w4 (by omega) (by omega) (fun r hr hw => ?_) (fun z2 hz2 => ?_)
    · cases hc : zAs ρ m r with
      | true => rfl
      | false =>
        unfold zAs at hc
        rw [zAny_f] at hc
        exact absurd (zPl_w (fun a ha e => by have := hc a ha; simp at this; exact this e)) hw
    have hz2lt := zBS_lt 6 hz2 (fun k hk => by simp; omega)
    refine sp256 (d := d + 3) ?_
    rw [zBS_cn hz2 (by omega), zCt_n (by omega)]
    have hSxW : zSx W 123 124 n S := by
      unfold zSx at hSx ⊢
      rw [w1 123 (by decide) (by decide), w1 124 (by decide) (by decide), hV 123 (by omega), hV 124 (by omega)]
      exact hSx
    refine sp68_123 (d := d + 3) (m := n) (row := row) (S := S) hn6 (by omega) hSxW (fun j hj => by rw [w1 132 (by decide) (by decide), hV 132 (by omega)]; exact hrow j hj) (fun X x1 x2 x3 => h X (fun a ha => ?_) (fun a x y => ?_) ?_ x3)
    · rw [x1 a (by omega) (by omega), w1 a (by omega) (by omega)]; exact hV a (by omega)
    · rw [x1 a (by omega) (by omega), w1 a (by omega) (by omega)]; exact hV a (by omega)
    · rw [x2, w1 123 (by decide) (by decide), hV 123 (by omega)]
  | k + 1, i, V, e, hV, h97, h98, h115, hS => by
    have a1 := zT_1 hT
    have a0 := zT_0 hT
    have hTV := zT_off hT hV (by decide) (by decide) (by decide)
    have e37 : V 37 = U 37 := hV 37 (by omega)
    refine zb5_122_37_97_p17 _ _ (z_ifp (by rw [e37]; omega) ?_)
    rw [zBS_bit has (by omega), z_inc (by omega)]
    cases hb : zAs ρ m i with
    | false =>
      refine z_ifp rfl (lpj5 hT hn hR hm hn6 hp hrow hst hC hSx has hD h k (i + 1) V (by omega) hV h97 h98 h115 (zSC_A hS (fun q hq hA => ?_)))
      by_cases eq : q = i
      · subst eq; rw [hb] at hA; simp at hA
      · rw [show decide (q < i + 1) = decide (q < i) by simp; omega] at hA; exact hA
    | true =>
      refine z_ifn (by decide) ?_
      have e7 : V 37 7 = (n : Int) := by rw [e37]; omega
      rw [e7]
      refine sp6 (d := d + 3) (R := R) (π := zLf row) (σ := zIx row) hn6 (by omega) (by omega) hp (fun j hj => by rw [hV 132 (by omega)]; exact hrow j hj) (fun b c x y z => by rw [hV (126 + b) (by omega)]; exact hC b c x y z) (fun z hz => ?_)
      refine sp50 (d := d + 1) (n := n) (lev := zLE ρ (zLf row)) (c := zCR ρ Λ (zLf row) i) hTV (by omega) hS.1 hS.2.2.1 (by omega) (fun p hp2 => zLE_b hT hn (fun t ht => (hp t ht).1) hp2) hz (fun W w1 w2 w3 w4 => ?_)
      refine lpj5 hT hn hR hm hn6 hp hrow hst hC hSx has hD h k (i + 1) W (by omega) (fun a ha => by rw [w1 a (by omega) (by omega) (by omega)]; exact hV a ha) (by rw [w1 97 (by omega) (by omega) (by omega)]; exact h97) (by rw [w1 98 (by omega) (by omega) (by omega)]; exact h98) (by rw [w1 115 (by omega) (by omega) (by omega)]; exact h115) ⟨by rw [w1 97 (by omega) (by omega) (by omega)]; exact hS.1, by rw [w1 97 (by omega) (by omega) (by omega)]; exact hS.2.1, fun p hp2 => by rw [w1 98 (by omega) (by omega) (by omega)]; exact hS.2.2.1 p hp2, fun q hq hA => ?_⟩
      by_cases eq : q = i
      · subst eq
        exact ⟨w3, w4⟩
      · have hA2 : (decide (q < i) && zAs ρ m q) = true := by dsimp only at hA; rw [show decide (q < i + 1) = decide (q < i) by simp; omega] at hA; exact hA
        have := hS.2.2.2 q hq hA2
        rw [w2 q eq, w1 (101 + q) (by omega) (by omega) (by omega), w1 (108 + q) (by omega) (by omega) (by omega)]
        exact this
theorem sp5 {V : z_M} {ρ : Nat → Int} {Λ : Nat → (Nat → Int) → Int} {n R m : Nat} {row : List Nat} {S : Int × Int × Int × List Nat} (hT : zT 37 ρ V Λ) (hn : ρ 0 = (n : Int)) (hR : ρ 1 = (R : Int)) (hm : ρ 4 = (m : Int)) (hn6 : n ≤ 6) (hp : zPm2 n (zLf row) (zIx row)) (hrow : ∀ i, i < n → V 132 i = (zLf row i : Int)) (hst : ∀ b, b < n → V 133 b = (zIx row b : Int)) (hC : zCD V ρ Λ n R (2 ^ n)) (hSx : zSx V 123 124 n S)
    (h : ∀ W, zOff 97 124 V W → (∀ a, 117 ≤ a → a ≤ 122 → W a = V a) → W 123 1 = V 123 1 → zSx W 123 124 n (zWg S (zEb ρ Λ n R m row).1 (zEb ρ Λ n R m row).2 row) → Q 0 W) : z_MS (d + 5) 5 true [.inr (.inr 122), .inr (.inr 37), .inr (.inr 97)] V Q := by
  refine zb5_122_37_97 (sp48_132 (d := d + 1) (π := zLf row) hT hn hR hn6 (fun t ht => ⟨hrow t ht, (hp t ht).1⟩) (fun W w1 w2 w3 w4 w5 => ?_))
  have oW : zOff 97 116 V W := fun a ha => w1 a (by omega) (by omega) (by omega)
  have hTW := zT_off hT oW (by decide) (by decide) (by decide)
  refine sp86 (d := d + 3) hTW hm (fun z hz => ?_)
  refine lpj5 hTW hn hR hm hn6 hp (fun j hj => by rw [oW 132 (by omega)]; exact hrow j hj) (fun b hb => by rw [oW 133 (by omega)]; exact hst b hb) (fun b c x y z => by rw [oW (126 + b) (by omega)]; exact hC b c x y z) (by unfold zSx at hSx ⊢; rw [oW 123 (by omega), oW 124 (by omega)]; exact hSx) hz w5 (fun X x1 x2 x3 x4 => h X (fun a ha => (x1 a ha).trans (oW a (by omega))) (fun a x y => (x2 a x y).trans (oW a (by omega))) (by rw [x3, oW 123 (by omega)]) x4) R 0 W (by omega) zOff_r rfl rfl rfl ⟨w2, w3, w4, fun r hr hA => by simp at hA⟩
theorem zPm_sub {n l a : Nat} {pre row : List Nat} (ha : a < n) (hc : pre.contains a = false) (h : row ∈ zPm n l (pre ++ [a])) : row ∈ zPm n (l + 1) pre := by
  unfold zPm
  rw [List.mem_flatMap]
  exact ⟨a, List.mem_range.mpr ha, by rw [hc]; exact h⟩
theorem sp4 {U : z_M} {ρ : Nat → Int} {Λ : Nat → (Nat → Int) → Int} {n R m : Nat} (hT : zT 37 ρ U Λ) (hn : ρ 0 = (n : Int)) (hR : ρ 1 = (R : Int)) (hm : ρ 4 = (m : Int)) (hn6 : n ≤ 6) (hC : zCD U ρ Λ n R (2 ^ n)) :
    ∀ (l : Nat) (dd : Nat) (pre : List Nat) (S : Int × Int × Int × List Nat) (V : z_M) (us : Int) (Q : Int → z_M → Prop), l + 8 ≤ dd → pre.length + l = n → (∀ row, row ∈ zPm n l pre → row ∈ zPm n n []) → zYo U V → zBS us (fun k => pre.contains k) → (∀ i, i < pre.length → V 132 i = (zLf pre i : Int)) → (∀ i, i < pre.length → V 133 (zLf pre i) = (i : Int)) → zSx V 123 124 n S → pre.Nodup →
      (∀ W, zYo U W → (∀ i, i < pre.length → W 132 i = (zLf pre i : Int)) → (∀ i, i < pre.length → W 133 (zLf pre i) = (i : Int)) → zSx W 123 124 n (zFd (zEb ρ Λ n R m) S (zPm n l pre)) → Q 0 W) →
      z_MS dd 4 true [.inr (.inr 122), .inr (.inr 37), .inr (.inr 97), .inl (pre.length : Int), .inl us] V Q := by
  have a0 := zT_0 hT
  intro l
  induction l with
  | zero =>
    intro dd pre S V us Q hdd hl hmem hV hus h132 h133 hSx hnd h
    obtain ⟨e, rfl⟩ : ∃ e, dd = e + 8 := ⟨dd - 8, by omega⟩
    have hml : pre.length = n := by omega
    have e37 : V 37 = U 37 := hV.1 37 (by omega) (by omega) (by omega) (by omega) (by omega)
    have hp := zPm_2 hn6 (hmem pre (by simp [zPm]))
    refine zb4_122_37_97 _ _ (z_ifn (by rw [e37]; omega) ?_)
    refine sp5 (d := e + 2) (row := pre) (m := m) (S := S) (zT_yo hT hV) hn hR hm hn6 hp (fun i hi => h132 i (by omega)) (fun b hb => ?_) (fun b c x y z => by rw [hV.1 (126 + b) (by omega) (by omega) (by omega) (by omega) (by omega)]; exact hC b c x y z) hSx (fun W w1 w2 w3 w4 => h W ⟨fun a x1 x2 x3 x4 x5 => ?_, by rw [w3]; exact hV.2⟩ (fun i hi => by rw [w1 132 (by omega)]; exact h132 i hi) (fun i hi => by rw [w1 133 (by omega)]; exact h133 i hi) w4)
    · obtain ⟨q1, q2, q3, q4⟩ := hp b hb
      have := h133 (zIx pre b) (by omega)
      rw [q4] at this
      exact this
    · by_cases ha : a < 97 ∨ 124 < a
      · rw [w1 a ha]; exact hV.1 a x1 x2 x3 x4 x5
      · rw [w2 a (by omega) (by omega)]; exact hV.1 a x1 x2 x3 x4 x5
  | succ l ih =>
    intro dd pre S V us Q hdd hl hmem hV hus h132 h133 hSx hnd h
    obtain ⟨e, rfl⟩ : ∃ e, dd = e + 8 := ⟨dd - 8, by omega⟩
    have e37 : V 37 = U 37 := hV.1 37 (by omega) (by omega) (by omega) (by omega) (by omega)
    refine zb4_122_37_97 _ _ (z_ifp (by rw [e37]; omega) (z_ifp (by omega) ?_))
    have lp : ∀ (k i : Nat) (W : z_M), i + k = n → zYo U W → (∀ j, j < pre.length → W 132 j = (zLf pre j : Int)) → (∀ j, j < pre.length → W 133 (zLf pre j) = (j : Int)) →
        zSx W 123 124 n (zFd (zEb ρ Λ n R m) S ((List.range i).flatMap (fun a => if pre.contains a then [] else zPm n l (pre ++ [a])))) →
        z_Ex (z_MS (e + 7)) 4 Q true 24 [some (.inr (.inr 122)), some (.inr (.inr 37)), some (.inr (.inr 97)), some (.inl (pre.length : Int)), some (.inl us), some (.inl (i : Int))] [] 0 0 W := by
      intro k
      induction k with
      | zero =>
        intro i W ei w1 w2 w3 w4
        have e2 : i = n := by omega
        subst e2
        have f37 : W 37 = U 37 := w1.1 37 (by omega) (by omega) (by omega) (by omega) (by omega)
        exact zb4_122_37_97_p24 _ _ _ (z_ifn (by rw [f37]; omega) (h W w1 w2 w3 w4))
      | succ k ihk =>
        intro i W ei w1 w2 w3 w4
        have f37 : W 37 = U 37 := w1.1 37 (by omega) (by omega) (by omega) (by omega) (by omega)
        refine zb4_122_37_97_p24 _ _ _ (z_ifp (by rw [f37]; omega) ?_)
        rw [zBS_bit hus (by omega), z_inc (i := i) (by omega)]
        cases hcon : pre.contains i with
        | true =>
          refine z_ifn (by decide) (ihk (i + 1) W (by omega) w1 w2 w3 ?_)
          rw [zFd_l, hcon]
          exact w4
        | false =>
          refine z_ifp rfl (z_gp (by omega) (z_all (z_gp (by omega) (z_all ?_))))
          simp only [Int.toNat_natCast]
          have hlen : (pre ++ [i]).length = pre.length + 1 := by simp
          have hni : ¬ i ∈ pre := by simpa using hcon
          rw [z_inc (i := pre.length) (by omega), ← hlen]
          have hlf : ∀ j, j < pre.length → ¬ zLf pre j = i := fun j hj e3 => hni (by rw [← e3]; unfold zLf; rw [List.getD_eq_getElem?_getD, List.getElem?_eq_getElem hj]; exact List.getElem_mem hj)
          refine ih (e + 7) (pre ++ [i]) _ _ _ _ (by omega) (by rw [hlen]; omega) (fun row hr => hmem row (zPm_sub (by omega) hcon hr)) ⟨fun a x1 x2 x3 x4 x5 => by rw [z_up_cell x5, z_up_cell x4]; exact w1.1 a x1 x2 x3 x4 x5, by rw [z_up_cell (by decide), z_up_cell (by decide)]; exact w1.2⟩ (zBS_c (zBS_or hus (zBS_pow (by omega))) (fun k => zCon_a.symm)) (fun j hj => ?_) (fun j hj => ?_) (by unfold zSx at w4 ⊢; rw [z_up_cell (by decide), z_up_cell (by decide), z_up_cell (by decide), z_up_cell (by decide)]; exact w4) ?_ (fun Z z1 z2 z3 z4 => ?_)
          · rw [hlen] at hj
            rw [z_up_cell (by decide)]
            by_cases ej : j = pre.length
            · subst ej; rw [zUp_s, zLf_b]
            · rw [zUp_o (by omega), zLf_a (by omega)]; exact w2 j (by omega)
          · rw [hlen] at hj
            by_cases ej : j = pre.length
            · subst ej; rw [zLf_b, zUp_s]
            · have := hlf j (by omega)
              rw [zLf_a (by omega), zUp_o (by omega), z_up_cell (by decide)]; exact w3 j (by omega)
          · rw [List.nodup_append]
            refine ⟨hnd, by simp, fun x hx y hy => ?_⟩
            have : y = i := by simpa using hy
            subst this
            intro e4
            subst e4
            exact hni hx
          · refine ihk (i + 1) Z (by omega) z1 (fun j hj => by rw [z2 j (by rw [hlen]; omega), zLf_a hj]) (fun j hj => by have := z3 j (by rw [hlen]; omega); rw [zLf_a hj] at this; exact this) ?_
            rw [zFd_l, hcon]
            exact z4
    exact lp n 0 V (by omega) hV h132 h133 hSx
end
