/-! sets of bits by what is in them; small things for loops -/
def zBS (z : Int) (f : Nat → Bool) : Prop := 0 ≤ z ∧ z < 2147483648 ∧ ∀ k, zB z k = f k
theorem zBS_ext {a b : Int} {f g : Nat → Bool} (h : zBS a f) (h2 : zBS b g) (e : ∀ k, f k = g k) : a = b := zB_ext h.1 h2.1 (fun k => by rw [h.2.2, h2.2.2, e])
theorem zBS_c {a : Int} {f g : Nat → Bool} (h : zBS a f) (e : ∀ k, f k = g k) : zBS a g := ⟨h.1, h.2.1, fun k => by rw [h.2.2, e]⟩
theorem zBS_or {a b : Int} {f g : Nat → Bool} (h : zBS a f) (h2 : zBS b g) : zBS (z_or a b) (fun k => f k || g k) := by
  obtain ⟨x, y, z⟩ := z_or_s ⟨h.1, h.2.1⟩ ⟨h2.1, h2.2.1⟩
  exact ⟨x, y, fun k => by rw [z, h.2.2, h2.2.2]⟩
theorem zBS_and {a b : Int} {f g : Nat → Bool} (h : zBS a f) (h2 : zBS b g) : zBS (z_and a b) (fun k => f k && g k) := by
  obtain ⟨x, y, z, w⟩ := z_and_s ⟨h.1, h.2.1⟩ ⟨h2.1, h2.2.1⟩
  exact ⟨x, by have := h.2.1; omega, fun k => by rw [w, h.2.2, h2.2.2]⟩
theorem zBS_andn {a b : Int} {f g : Nat → Bool} (h : zBS a f) (h2 : zBS b g) : zBS (z_and a (z_xor b (-1))) (fun k => f k && !g k) := by
  obtain ⟨x, y, w⟩ := z_andnot_s ⟨h.1, h.2.1⟩ ⟨h2.1, h2.2.1⟩
  exact ⟨x, by have := h.2.1; omega, fun k => by rw [w, h.2.2, h2.2.2]⟩
theorem z_and_comm (a b : Int) : z_and a b = z_and b a := by
  unfold z_and z_i32
  show (Int32.ofInt a &&& Int32.ofInt b).toInt = (Int32.ofInt b &&& Int32.ofInt a).toInt
  rw [Int32.and_comm]
theorem zBS_nand {a b : Int} {f g : Nat → Bool} (h : zBS a f) (h2 : zBS b g) : zBS (z_and (z_xor b (-1)) a) (fun k => f k && !g k) := by
  rw [z_and_comm]; exact zBS_andn h h2
theorem zBS_0 : zBS 0 (fun _ => false) := ⟨by decide, by decide, zB_zero⟩
theorem zBS_pow {t : Nat} (h : t < 31) : zBS (z_shl 1 (t : Int)) (fun k => decide (k = t)) := by
  obtain ⟨_, b, c, e⟩ := z_shl1_s (t := (t : Int)) (by omega)
  exact ⟨by omega, c, fun k => by rw [e, Int.toNat_natCast]⟩
theorem zBS_1 : zBS 1 (fun k => decide (k = 0)) := by
  have h := zBS_pow (t := 0) (by decide)
  have e : z_shl 1 ((0 : Nat) : Int) = 1 := by decide +kernel
  rw [e] at h
  exact h
theorem zBS_bit {a : Int} {f : Nat → Bool} {t : Nat} (h : zBS a f) (ht : t < 32) : z_and (z_shr a (t : Int)) 1 = if f t then 1 else 0 := by
  rw [z_bit_s ⟨h.1, h.2.1⟩ (by omega), Int.toNat_natCast, h.2.2]
theorem zBS_shr {a : Int} {f : Nat → Bool} (h : zBS a f) : zBS (z_shr a 1) (fun k => f (k + 1)) := by
  obtain ⟨e, w⟩ := z_shr1_s ⟨h.1, h.2.1⟩
  have h1 := h.1
  have h2 := h.2.1
  exact ⟨by rw [e]; omega, by rw [e]; omega, fun k => by rw [w, h.2.2]⟩
theorem zB_bit {a : Int} {k : Nat} (h0 : 0 ≤ a) (h : zB a k = true) : (2 : Int) ^ k ≤ a := by
  unfold zB at h
  have h1 := Nat.ge_two_pow_of_testBit h
  have e : (2 : Int) ^ k = ((2 ^ k : Nat) : Int) := by simp
  omega
theorem zBS_lt {a : Int} {f : Nat → Bool} (n : Nat) (h : zBS a f) (hf : ∀ k, n ≤ k → f k = false) : a < 2 ^ n := by
  have h1 : a.toNat < 2 ^ n := by
    refine Nat.lt_pow_two_of_testBit _ fun i hi => ?_
    have := h.2.2 i
    rw [hf i hi] at this
    exact this
  have e : (2 : Int) ^ n = ((2 ^ n : Nat) : Int) := by simp
  have := h.1
  omega
theorem zBS_hi {a : Int} {f : Nat → Bool} {n k : Nat} (h : zBS a f) (ha : a < 2 ^ n) (hk : n ≤ k) : f k = false := by
  rw [← h.2.2]; exact zB_hi ha hk
theorem zBS_z {a : Int} {f : Nat → Bool} (h : zBS a f) : a = 0 ↔ ∀ k, f k = false := by
  constructor
  · rintro rfl k
    rw [← h.2.2, zB_zero]
  · intro hf
    exact zBS_ext h zBS_0 hf
theorem zBS_shl {a : Int} {f : Nat → Bool} (h : zBS a f) (ha : a < 1073741824) : zBS (z_shl a 1) (fun k => decide (0 < k) && f (k - 1)) := by
  obtain ⟨e, w⟩ := z_shl1b_s ⟨h.1, ha⟩
  have h1 := h.1
  exact ⟨by rw [e]; omega, by rw [e]; omega, fun k => by rw [w, h.2.2]⟩
theorem zBS_ones {n : Nat} (h : n < 31) : zBS (z_sub (z_shl 1 (n : Int)) 1) (fun k => decide (k < n)) := by
  obtain ⟨e, b, c, _⟩ := z_shl1_s (t := (n : Int)) (by omega)
  rw [z_sub_e (by omega), e, Int.toNat_natCast]
  have h3 := Nat.two_pow_pos n
  rw [e, Int.toNat_natCast] at c
  refine ⟨by omega, by omega, fun k => ?_⟩
  unfold zB
  have e2 : (((2 ^ n : Nat) : Int) - 1).toNat = 2 ^ n - 1 := by omega
  rw [e2, Nat.testBit_two_pow_sub_one]
theorem z_inc {i : Nat} (h : i < 2147483647) : z_add (i : Int) 1 = ((i + 1 : Nat) : Int) := by rw [z_add_e (by omega)]; rfl
theorem z_dc1 {i : Nat} (h : i < 2147483647) : z_add ((i + 1 : Nat) : Int) (-1) = (i : Int) := by rw [z_add_e (by omega)]; omega
theorem z_dcs {i : Nat} (h : i < 2147483647) : z_sub ((i + 1 : Nat) : Int) 1 = (i : Int) := by rw [z_sub_e (by omega)]; omega
theorem z_incn {i : Nat} (h : i < 2147483647) : (z_add (i : Int) 1).toNat = i + 1 := by rw [z_inc h]; rfl
/-- all cells but those from lo to hi stand as they were -/
def zOff (lo hi : Nat) (V W : z_M) : Prop := ∀ a, (a < lo ∨ hi < a) → W a = V a
theorem zOff_r {lo hi : Nat} {V : z_M} : zOff lo hi V V := fun _ _ => rfl
theorem zOff_t {lo hi : Nat} {U V W : z_M} (h : zOff lo hi U V) (h2 : zOff lo hi V W) : zOff lo hi U W := fun a ha => (h2 a ha).trans (h a ha)
theorem zOff_w {lo hi lo2 hi2 : Nat} {V W : z_M} (h : zOff lo hi V W) (h1 : lo2 ≤ lo) (h2 : hi ≤ hi2) : zOff lo2 hi2 V W := fun a ha => h a (by omega)
theorem zOff_u {lo hi a k : Nat} {V W : z_M} {v : Int} (h : zOff lo hi V W) (h1 : lo ≤ a) (h2 : a ≤ hi) : zOff lo hi V (z_up W a k v) := fun b hb => by rw [z_up_cell (by omega)]; exact h b hb
theorem zUp_o {V : z_M} {a k b j : Nat} {v : Int} (h : ¬ (b = a ∧ j = k)) : z_up V a k v b j = V b j := by
  rw [z_up_rd]
  split
  · rename_i h1
    rw [if_neg (fun h2 => h ⟨h1, h2⟩)]
  · rfl
theorem zUp_s {V : z_M} {a k : Nat} {v : Int} : z_up V a k v a k = v := by rw [z_up_rd, if_pos rfl, if_pos rfl]
-- rows of rows
theorem zr38 {V : z_M} {r : Nat} (h : r < 4) : z_rr true V 38 r = 39 + r := by
  have : r = 0 ∨ r = 1 ∨ r = 2 ∨ r = 3 := by omega
  rcases this with rfl | rfl | rfl | rfl <;> rfl
theorem zr43 {V : z_M} {r : Nat} (h : r < 2) : z_rr true V 43 r = 44 + r := by
  have : r = 0 ∨ r = 1 := by omega
  rcases this with rfl | rfl <;> rfl
theorem zr100 {V : z_M} {r : Nat} (h : r < 6) : z_rr true V 100 r = 101 + r := by
  have : r = 0 ∨ r = 1 ∨ r = 2 ∨ r = 3 ∨ r = 4 ∨ r = 5 := by omega
  rcases this with rfl | rfl | rfl | rfl | rfl | rfl <;> rfl
theorem zr107 {V : z_M} {r : Nat} (h : r < 6) : z_rr true V 107 r = 108 + r := by
  have : r = 0 ∨ r = 1 ∨ r = 2 ∨ r = 3 ∨ r = 4 ∨ r = 5 := by omega
  rcases this with rfl | rfl | rfl | rfl | rfl | rfl <;> rfl
theorem zr125 {V : z_M} {r : Nat} (h : r < 6) : z_rr true V 125 r = 126 + r := by
  have : r = 0 ∨ r = 1 ∨ r = 2 ∨ r = 3 ∨ r = 4 ∨ r = 5 := by omega
  rcases this with rfl | rfl | rfl | rfl | rfl | rfl <;> rfl
theorem zr135 {V : z_M} {r : Nat} (h : r < 3) : z_rr true V 135 r = 136 + r := by
  have : r = 0 ∨ r = 1 ∨ r = 2 := by omega
  rcases this with rfl | rfl | rfl <;> rfl
theorem zk100 {V : z_M} {r : Nat} (h : r < 6) : z_kd (101 + r) = 101 ∧ 36 ≤ 101 + r ∧ z_len' V (101 + r) = 13 := by
  have : r = 0 ∨ r = 1 ∨ r = 2 ∨ r = 3 ∨ r = 4 ∨ r = 5 := by omega
  rcases this with rfl | rfl | rfl | rfl | rfl | rfl <;> exact ⟨rfl, by decide, rfl⟩
theorem zk107 {V : z_M} {r : Nat} (h : r < 6) : z_kd (108 + r) = 101 ∧ 36 ≤ 108 + r ∧ z_len' V (108 + r) = 13 := by
  have : r = 0 ∨ r = 1 ∨ r = 2 ∨ r = 3 ∨ r = 4 ∨ r = 5 := by omega
  rcases this with rfl | rfl | rfl | rfl | rfl | rfl <;> exact ⟨rfl, by decide, rfl⟩
theorem zk125 {V : z_M} {r : Nat} (h : r < 6) : z_kd (126 + r) = 101 ∧ 36 ≤ 126 + r ∧ z_len' V (126 + r) = 64 := by
  have : r = 0 ∨ r = 1 ∨ r = 2 ∨ r = 3 ∨ r = 4 ∨ r = 5 := by omega
  rcases this with rfl | rfl | rfl | rfl | rfl | rfl <;> exact ⟨rfl, by decide, rfl⟩
theorem zk38 {V : z_M} {r : Nat} (h : r < 4) : z_kd (39 + r) = 101 ∧ 36 ≤ 39 + r ∧ z_len' V (39 + r) = 12 := by
  have : r = 0 ∨ r = 1 ∨ r = 2 ∨ r = 3 := by omega
  rcases this with rfl | rfl | rfl | rfl <;> exact ⟨rfl, by decide, rfl⟩
theorem zk43 {V : z_M} {r : Nat} (h : r < 2) : z_kd (44 + r) = 101 ∧ 36 ≤ 44 + r ∧ z_len' V (44 + r) = 6 := by
  have : r = 0 ∨ r = 1 := by omega
  rcases this with rfl | rfl <;> exact ⟨rfl, by decide, rfl⟩
theorem zk135 {V : z_M} {r : Nat} (h : r < 3) : z_kd (136 + r) = 101 ∧ 36 ≤ 136 + r ∧ z_len' V (136 + r) = 20 := by
  have : r = 0 ∨ r = 1 ∨ r = 2 := by omega
  rcases this with rfl | rfl | rfl <;> exact ⟨rfl, by decide, rfl⟩
