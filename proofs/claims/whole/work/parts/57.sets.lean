/-! sets that are gone through -/
def zBc (a0 : Int) : Int := z_and (z_add (z_add (z_and (z_add (z_add (z_and (z_sub a0 (z_and (z_ushr a0 1) 1431655765)) 858993459) (z_and (z_ushr (z_sub a0 (z_and (z_ushr a0 1) 1431655765)) 2) 858993459)) (z_ushr (z_add (z_and (z_sub a0 (z_and (z_ushr a0 1) 1431655765)) 858993459) (z_and (z_ushr (z_sub a0 (z_and (z_ushr a0 1) 1431655765)) 2) 858993459)) 4)) 252645135) (z_ushr (z_and (z_add (z_add (z_and (z_sub a0 (z_and (z_ushr a0 1) 1431655765)) 858993459) (z_and (z_ushr (z_sub a0 (z_and (z_ushr a0 1) 1431655765)) 2) 858993459)) (z_ushr (z_add (z_and (z_sub a0 (z_and (z_ushr a0 1) 1431655765)) 858993459) (z_and (z_ushr (z_sub a0 (z_and (z_ushr a0 1) 1431655765)) 2) 858993459)) 4)) 252645135) 8)) (z_ushr (z_add (z_and (z_add (z_add (z_and (z_sub a0 (z_and (z_ushr a0 1) 1431655765)) 858993459) (z_and (z_ushr (z_sub a0 (z_and (z_ushr a0 1) 1431655765)) 2) 858993459)) (z_ushr (z_add (z_and (z_sub a0 (z_and (z_ushr a0 1) 1431655765)) 858993459) (z_and (z_ushr (z_sub a0 (z_and (z_ushr a0 1) 1431655765)) 2) 858993459)) 4)) 252645135) (z_ushr (z_and (z_add (z_add (z_and (z_sub a0 (z_and (z_ushr a0 1) 1431655765)) 858993459) (z_and (z_ushr (z_sub a0 (z_and (z_ushr a0 1) 1431655765)) 2) 858993459)) (z_ushr (z_add (z_and (z_sub a0 (z_and (z_ushr a0 1) 1431655765)) 858993459) (z_and (z_ushr (z_sub a0 (z_and (z_ushr a0 1) 1431655765)) 2) 858993459)) 4)) 252645135) 8)) 16)) 63
section
variable {d : Nat} {Q : Int → z_M → Prop}
theorem sp256 {V : z_M} {a : Int} (h : Q (zBc a) V) : z_MS (d + 1) 256 true [.inl a] V Q := zb256 a h
def zCn12 (s : Nat) : Nat := zCt 12 (fun k => s.testBit k)
theorem zBc_f : ∀ a b : Fin 64, zBc ((64 * a.val + b.val : Nat) : Int) = (zCn12 (64 * a.val + b.val) : Int) := by decide +kernel
theorem zBc_e {s : Nat} (h : s < 4096) : zBc (s : Int) = (zCn12 s : Int) := by
  have h1 := zBc_f ⟨s / 64, by omega⟩ ⟨s % 64, by omega⟩
  have e : 64 * (s / 64) + s % 64 = s := by omega
  dsimp only at h1
  rw [e] at h1
  exact h1
theorem zBS_nat {s : Nat} (h : s < 2147483648) : zBS (s : Int) (fun k => s.testBit k) := ⟨by omega, by omega, fun k => by unfold zB; rw [Int.toNat_natCast]⟩
theorem zBS_cn {z : Int} {f : Nat → Bool} (h : zBS z f) (hz : z < 4096) : zBc z = (zCt 12 f : Int) := by
  have h0 := h.1
  obtain ⟨s, rfl⟩ := Int.eq_ofNat_of_zero_le h0
  rw [zBc_e (by omega)]
  unfold zCn12
  rw [zCt_congr (fun k _ => ?_)]
  have := h.2.2 k
  unfold zB at this
  rw [Int.toNat_natCast] at this
  exact this
theorem lp147 {V : z_M} {s : Nat} (hs : s < 2147483648) (h : Q (zCn12 s : Int) V) : ∀ (k i : Nat), i + k = 12 → z_Ex (z_MS d) 147 Q true 4 [some (.inl (s : Int)), some (.inl (zCt i (fun k => s.testBit k) : Int)), some (.inl (i : Int))] [] 0 0 V
  | 0, i, e => by
    have e2 : i = 12 := by omega
    subst e2
    exact zb147_p4 _ _ _ (z_ifn (by omega) h)
  | k + 1, i, e => by
    refine zb147_p4 _ _ _ (z_ifp (by omega) ?_)
    have hc := zCt_le (n := i) (f := fun k => s.testBit k)
    rw [zBS_bit (zBS_nat hs) (by omega), z_inc (by omega)]
    have := lp147 hs h k (i + 1) (by omega)
    rw [zCt] at this
    cases hb : s.testBit i with
    | true =>
      rw [hb] at this
      rw [if_pos rfl, z_add_e (by omega)]
      exact this
    | false =>
      rw [hb] at this
      rw [if_neg (by decide), z_add_e (by omega), Int.add_zero]
      exact this
theorem sp147 {V : z_M} {s : Nat} (hs : s < 2147483648) (h : Q (zCn12 s : Int) V) : z_MS (d + 1) 147 true [.inl (s : Int)] V Q := by
  refine zb147 _ ?_
  exact lp147 hs h 12 0 rfl
end
/-- sets gone through: how many, the best of them, how many are as good -/
def zBt (mo : Bool) (a b : Nat) : Bool := if mo then decide (a < b) else decide (b < a)
def zCw (mo : Bool) (st : Nat × Option Nat × Nat) (s : Nat) : Nat × Option Nat × Nat :=
  match st.2.1 with
  | none => (st.1 + 1, some s, 1)
  | some b => if zBt mo (zCn12 b) (zCn12 s) = true then (st.1 + 1, some s, 1) else if zCn12 s = zCn12 b then (st.1 + 1, some b, st.2.2 + 1) else (st.1 + 1, some b, st.2.2)
def zCl (mo : Bool) (P : Nat → Bool) : Nat → Nat × Option Nat × Nat
  | 0 => (0, none, 0)
  | s + 1 => if P s then zCw mo (zCl mo P s) s else zCl mo P s
def zCi (n : Nat) (st : Nat × Option Nat × Nat) : Prop := st.1 ≤ n ∧ st.2.2 ≤ n ∧ (∀ b, st.2.1 = some b → b < n ∧ 0 < st.1) ∧ (st.2.1 = none → st.1 = 0 ∧ st.2.2 = 0)
theorem zCi_m {n a b w : Nat} (h1 : a ≤ n) (h2 : w ≤ n) (h3 : b < n) (h4 : 0 < a) : zCi n (a, some b, w) := ⟨h1, h2, fun c hc => by injection hc with hc; subst hc; exact ⟨h3, h4⟩, fun hc => by cases hc⟩
theorem zCl_b {mo : Bool} {P : Nat → Bool} : ∀ s, zCi s (zCl mo P s)
  | 0 => ⟨Nat.le_refl 0, Nat.le_refl 0, (fun b h => by cases h), (fun _ => ⟨rfl, rfl⟩)⟩
  | s + 1 => by
    obtain ⟨h1, h2, h3, h4⟩ := zCl_b (mo := mo) (P := P) s
    unfold zCl
    split
    · unfold zCw
      split
      · exact zCi_m (by omega) (by omega) (by omega) (by omega)
      · rename_i b0 hn
        have h5 := h3 b0 hn
        split
        · exact zCi_m (by omega) (by omega) (by omega) (by omega)
        · split
          · exact zCi_m (by omega) (by omega) (by omega) (by omega)
          · exact zCi_m (by omega) (by omega) (by omega) (by omega)
    · exact ⟨by omega, by omega, (fun b hb => ⟨by have := h3 b hb; omega, (h3 b hb).2⟩), h4⟩
