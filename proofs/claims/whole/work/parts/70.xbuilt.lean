/-! built: the class's search and answer -/
section
variable {d : Nat} {Q : Int → z_M → Prop}
def zJb (U V : z_M) : Prop := (∀ a, (a < 94 ∨ 96 < a) → (a < 126 ∨ 131 < a) → V a = U a)
theorem lpj2 {U : z_M} {ρ : Nat → Int} {Λ : Nat → (Nat → Int) → Int} {n R : Nat} (hT : zT 37 ρ U Λ) (hn : ρ 0 = (n : Int)) (hR : ρ 1 = (R : Int)) (hn6 : n ≤ 6)
    (h : ∀ W, zJa U W → zCD W ρ Λ n R (2 ^ n) → z_MS (d + 15) 4 true [.inr (.inr 122), .inr (.inr 37), .inr (.inr 97), .inl 0, .inl 0] W (fun _ X => Q 0 X)) :
    ∀ (k c : Nat) (V : z_M), c + k = 2 ^ n → zJa U V → zCD V ρ Λ n R c → z_Ex (z_MS (d + 15)) 2 Q true 30 [some (.inr (.inr 122)), some (.inr (.inr 37)), some (.inr (.inr 97)), some (.inr (.inr 94)), some (.inl (c : Int))] [] 0 0 V
  | 0, c, V, e, hV, hC => by
    have e2 : c = 2 ^ n := by omega
    subst e2
    have a0 := zT_0 hT
    have hsh := (z_shl1_s (t := (n : Int)) (by omega)).1
    refine zb2_122_37_97_94_p30 _ (z_ifn ?_ (h V hV hC))
    rw [hV 37 (by omega) (by omega), show U 37 7 = (n : Int) by omega, hsh, Int.toNat_natCast]
    omega
  | k + 1, c, V, e, hV, hC => by
    have a0 := zT_0 hT
    have hsh := (z_shl1_s (t := (n : Int)) (by omega)).1
    have hpn : 2 ^ n ≤ 64 := Nat.pow_le_pow_right (n := 2) (by omega) (show n ≤ 6 by omega)
    refine zb2_122_37_97_94_p30 _ (z_ifp ?_ ?_)
    · rw [hV 37 (by omega) (by omega), show U 37 7 = (n : Int) by omega, hsh, Int.toNat_natCast]
      omega
    · rw [z_inc (by omega)]
      have hTV : zT 37 ρ V Λ := zT_c hT (hV 0 (by omega) (by omega)) (fun a x y => hV a (by omega) (by omega)) (fun a x => hV a (by omega) (by omega))
      refine sp3 (d := d + 9) hTV hn hR hn6 (by omega) (fun W w1 w2 w3 => ?_)
      refine lpj2 hT hn hR hn6 h k (c + 1) W (by omega) (zJa_t hV w1) (fun b x hb hx hbt => ?_)
      by_cases ex : x = c
      · subst ex; exact w3 b hb hbt
      · rw [w2 b x hb ex]; exact hC b x hb (by omega) hbt
theorem sp2 {V : z_M} {ρ : Nat → Int} {Λ : Nat → (Nat → Int) → Int} {n R m : Nat} (hT : zT 37 ρ V Λ) (hn : ρ 0 = (n : Int)) (hR : ρ 1 = (R : Int)) (hm : ρ 4 = (m : Int)) (hn6 : n ≤ 6) (hc : V 123 1 = 0 ∨ (V 123 1 = 1 ∧ zSx V 123 124 n (zBB ρ Λ n R m)))
    (h : ∀ W, (∀ a, (a < 94 ∨ 117 ≤ a) → (a < 123 ∨ 133 < a) → W a = V a) → W 123 1 = 1 → zSx W 123 124 n (zBB ρ Λ n R m) → Q 0 W) : z_MS (d + 16) 2 true [.inr (.inr 122), .inr (.inr 37), .inr (.inr 97), .inr (.inr 94)] V Q := by
  have a0 := zT_0 hT
  refine zb2_122_37_97_94 (z_ifc (fun c0 => z_ifn (by omega) ?_) (fun c0 => ?_))
  · refine sp66_123 (d := d + 14) (m := n) (fun W w1 w2 w3 => ?_)
    have hTW : zT 37 ρ W Λ := zT_c hT (w1 0 (by decide)) (fun a x y => w1 a (by omega)) (fun a x => w1 a (by omega))
    refine lpj2 (d := d) hTW hn hR hn6 (fun X x1 x2 => ?_) (2 ^ n) 0 W (by omega) zJa_r (fun b c hb hc => absurd hc (Nat.not_lt_zero c))
    have hTX : zT 37 ρ X Λ := zT_c hTW (x1 0 (by omega) (by omega)) (fun a x y => x1 a (by omega) (by omega)) (fun a x => x1 a (by omega) (by omega))
    refine sp4 (U := X) hTX hn hR hm hn6 x2 n (d + 15) [] zS0 X 0 _ (by omega) (by simp) (fun row hr => hr) zYo_r (zBS_c zBS_0 (fun k => by simp)) (fun i hi => by cases hi) (fun i hi => by cases hi) (by unfold zSx at w3 ⊢; rw [x1 123 (by omega) (by omega), x1 124 (by omega) (by omega)]; exact w3) List.nodup_nil (fun Y y1 y2 y3 y4 => ?_)
    refine h Y (fun a p q => ?_) (by rw [y1.2, x1 123 (by omega) (by omega), w2]) y4
    rw [y1.1 a (by omega) (by omega) (by omega) (by omega) (by omega), x1 a (by omega) (by omega), w1 a (by omega)]
  · rcases hc with hc | ⟨hc, hx⟩
    · exact absurd hc c0
    · exact h V (fun _ _ _ => rfl) hc hx
theorem sp116 {V : z_M} {ρ : Nat → Int} {Λ : Nat → (Nat → Int) → Int} {n R m : Nat} {a : Int} (hT : zT 37 ρ V Λ) (hn : ρ 0 = (n : Int)) (hR : ρ 1 = (R : Int)) (hm : ρ 4 = (m : Int)) (ha : a < 2147483648) (hc : V 123 1 = 0 ∨ (V 123 1 = 1 ∧ n ≤ 6 ∧ zSx V 123 124 n (zBB ρ Λ n R m)))
    (h : ∀ W, (∀ a, (a < 94 ∨ 117 ≤ a) → (a < 123 ∨ 133 < a) → W a = V a) → (W 123 1 = 0 ∨ (W 123 1 = 1 ∧ n ≤ 6 ∧ zSx W 123 124 n (zBB ρ Λ n R m))) → Q (if n ≤ 6 then zAn (zBB ρ Λ n R m) n a else -1) W) : z_MS (d + 17) 116 true [.inr (.inr 36), .inl a] V Q := by
  have a0 := zT_0 hT
  refine zb116_36 _ (z_ifc (fun c6 => ?_) (fun c6 => ?_))
  · rw [if_neg (by omega)] at h
    exact h V (fun _ _ _ => rfl) hc
  · rw [if_pos (by omega)] at h
    refine sp2 (d := d) hT hn hR hm (by omega) (hc.imp id (fun q => ⟨q.1, q.2.2⟩)) (fun W w1 w2 w3 => ?_)
    have f37 : W 37 7 = (n : Int) := by rw [w1 37 (by omega) (by omega)]; omega
    rw [f37]
    exact sp69_123 (d := d + 15) ha (by omega) w3 (zBB_p (by omega)).1 (h W w1 (Or.inr ⟨w2, by omega, w3⟩))
end
