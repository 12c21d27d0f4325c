/-! numbers: the small machine's rules as those of Int and Nat, within range -/
theorem z_neg_e {a : Int} (h : -2147483648 < a ∧ a < 2147483648) : z_neg a = -a := by
  unfold z_neg
  rw [← Int32.ofInt_neg]
  exact z_t32 (by omega) (by omega)
theorem z_abs_e {a : Int} (h : -2147483648 < a ∧ a < 2147483648) : z_abs a = if a < 0 then -a else a := by
  unfold z_abs
  split
  · exact z_neg_e h
  · rfl
theorem z_ladd_e {a b : Int} (h : -9223372036854775808 ≤ a + b ∧ a + b < 9223372036854775808) : z_ladd a b = a + b := by
  show (Int64.ofInt a + Int64.ofInt b).toInt = _
  rw [← Int64.ofInt_add]
  exact z_t64 h.1 h.2
theorem z_lsub_e {a b : Int} (h : -9223372036854775808 ≤ a - b ∧ a - b < 9223372036854775808) : z_lsub a b = a - b := by
  show (Int64.ofInt a - Int64.ofInt b).toInt = _
  rw [← Int64.ofInt_sub]
  exact z_t64 h.1 h.2
theorem z_lmul_e {a b : Int} (h : -9223372036854775808 ≤ a * b ∧ a * b < 9223372036854775808) : z_lmul a b = a * b := by
  show (Int64.ofInt a * Int64.ofInt b).toInt = _
  rw [← Int64.ofInt_mul]
  exact z_t64 h.1 h.2
theorem z_ldiv_e {a b : Int} (ha : -1000000000 ≤ a ∧ a ≤ 1000000000) (hb : -1000000000 ≤ b ∧ b ≤ 1000000000) (h0 : ¬ b = 0) : z_ldiv a b = a.tdiv b := by
  show (Int64.ofInt a / Int64.ofInt b).toInt = _
  rw [Int64.toInt_div, z_t64 (by omega) (by omega), z_t64 (by omega) (by omega)]
  have h1 : (a.tdiv b).natAbs ≤ a.natAbs := by rw [Int.natAbs_tdiv]; exact Nat.div_le_self _ _
  exact Int.bmod_eq_of_le (by omega) (by omega)
theorem z_lcmp_0 {a b : Int} : (z_lcmp a b = 0) = (a = b) := by unfold z_lcmp; apply propext; constructor <;> intro h <;> (repeat' split at h) <;> (repeat' split) <;> omega
theorem z_lcmp_p {a b : Int} : (0 < z_lcmp a b) = (b < a) := by unfold z_lcmp; apply propext; constructor <;> intro h <;> (repeat' split at h) <;> (repeat' split) <;> omega
theorem z_lcmp_n {a b : Int} : (z_lcmp a b < 0) = (a < b) := by unfold z_lcmp; apply propext; constructor <;> intro h <;> (repeat' split at h) <;> (repeat' split) <;> omega
theorem z_shk : ∀ k : Fin 32, (((Int32.ofInt (k.val : Int)) &&& 31).toBitVec.smod 32).toNat = k.val := by decide +kernel
theorem z_shl_e {a k : Nat} (hk : k < 32) (h : a * 2 ^ k < 2147483648) : z_shl (a : Int) (k : Int) = ((a * 2 ^ k : Nat) : Int) := by
  have ha : a < 2147483648 := Nat.lt_of_le_of_lt (Nat.le_mul_of_pos_right _ (Nat.two_pow_pos k)) h
  unfold z_shl z_i32
  show ((Int32.ofInt (a : Int)).toBitVec <<< ((Int32.ofInt (k : Int)) &&& 31).toBitVec.smod 32).toInt = _
  refine z_bvi ?_ h
  rw [BitVec.shiftLeft_eq', BitVec.toNat_shiftLeft, z_shk ⟨k, hk⟩, z_bvn ha, Nat.shiftLeft_eq]
  show a * 2 ^ k % 2 ^ 32 = a * 2 ^ k
  exact Nat.mod_eq_of_lt (by omega)
theorem z_shr_e {a : Int} {k : Nat} (hk : k < 32) (h : -2147483648 ≤ a ∧ a < 2147483648) : z_shr a (k : Int) = a / 2 ^ k := by
  unfold z_shr z_i32
  show ((Int32.ofInt a).toBitVec.sshiftRight' (((Int32.ofInt (k : Int)) &&& 31).toBitVec.smod 32)).toInt = _
  rw [BitVec.sshiftRight_eq', BitVec.toInt_sshiftRight, z_shk ⟨k, hk⟩]
  have e : (Int32.ofInt a).toBitVec.toInt = a := z_t32 h.1 h.2
  rw [e, Int.shiftRight_eq_div_pow]
  rfl
-- sets of bits
def zB (z : Int) (k : Nat) : Bool := z.toNat.testBit k
theorem zB_ext {a b : Int} (ha : 0 ≤ a) (hb : 0 ≤ b) (h : ∀ k, zB a k = zB b k) : a = b := by
  have h1 : a.toNat = b.toNat := Nat.eq_of_testBit_eq h
  omega
theorem zB_hi {a : Int} {n k : Nat} (ha : a < 2 ^ n) (hk : n ≤ k) : zB a k = false := by
  unfold zB
  refine Nat.testBit_lt_two_pow ?_
  have h1 : (2 : Int) ^ n = ((2 ^ n : Nat) : Int) := by simp
  have h2 : a.toNat < 2 ^ n := by
    have := Nat.two_pow_pos n
    omega
  exact Nat.lt_of_lt_of_le h2 (Nat.pow_le_pow_right (by omega) hk)
theorem zB_zero (k : Nat) : zB 0 k = false := by unfold zB; simp
theorem z_or_s {a b : Int} (ha : 0 ≤ a ∧ a < 2147483648) (hb : 0 ≤ b ∧ b < 2147483648) : 0 ≤ z_or a b ∧ z_or a b < 2147483648 ∧ ∀ k, zB (z_or a b) k = (zB a k || zB b k) := by
  obtain ⟨m, rfl⟩ := Int.eq_ofNat_of_zero_le ha.1
  obtain ⟨n, rfl⟩ := Int.eq_ofNat_of_zero_le hb.1
  rw [z_or_e (by omega) (by omega)]
  have : m ||| n < 2 ^ 31 := Nat.or_lt_two_pow (by omega) (by omega)
  refine ⟨by omega, by omega, fun k => ?_⟩
  unfold zB
  simp
theorem z_and_s {a b : Int} (ha : 0 ≤ a ∧ a < 2147483648) (hb : 0 ≤ b ∧ b < 2147483648) : 0 ≤ z_and a b ∧ z_and a b ≤ a ∧ z_and a b ≤ b ∧ ∀ k, zB (z_and a b) k = (zB a k && zB b k) := by
  obtain ⟨m, rfl⟩ := Int.eq_ofNat_of_zero_le ha.1
  obtain ⟨n, rfl⟩ := Int.eq_ofNat_of_zero_le hb.1
  rw [z_and_e (by omega) (by omega)]
  have h1 : m &&& n ≤ m := Nat.and_le_left
  have h2 : m &&& n ≤ n := Nat.and_le_right
  refine ⟨by omega, by omega, by omega, fun k => ?_⟩
  unfold zB
  simp
theorem z_bvt {a : Int} (ha : 0 ≤ a ∧ a < 2147483648) (k : Nat) : (Int32.ofInt a).toBitVec.getLsbD k = zB a k := by
  obtain ⟨m, rfl⟩ := Int.eq_ofNat_of_zero_le ha.1
  have e := z_bvn (a := m) (by omega)
  show (Int32.ofInt (m : Int)).toBitVec.toNat.testBit k = _
  rw [e]
  unfold zB
  simp
theorem z_andnot_s {a b : Int} (ha : 0 ≤ a ∧ a < 2147483648) (hb : 0 ≤ b ∧ b < 2147483648) : 0 ≤ z_and a (z_xor b (-1)) ∧ z_and a (z_xor b (-1)) ≤ a ∧ ∀ k, zB (z_and a (z_xor b (-1))) k = (zB a k && !zB b k) := by
  have e0 : z_and a (z_xor b (-1)) = ((Int32.ofInt a).toBitVec &&& (Int32.ofInt (z_xor b (-1))).toBitVec).toInt := rfl
  have e1 : Int32.ofInt (z_xor b (-1)) = Int32.ofInt b ^^^ (-1) := by
    show Int32.ofInt (Int32.toInt _) = _
    rw [Int32.ofInt_toInt]
    rfl
  have e2 : ((Int32.ofInt a).toBitVec &&& (Int32.ofInt (z_xor b (-1))).toBitVec).toNat = a.toNat &&& (2147483647 - b.toNat) := by
    refine Nat.eq_of_testBit_eq fun k => ?_
    rw [e1]
    show ((Int32.ofInt a).toBitVec &&& ((Int32.ofInt b).toBitVec ^^^ (-1 : Int32).toBitVec)).getLsbD k = _
    rw [BitVec.getLsbD_and, BitVec.getLsbD_xor, z_bvt ha, z_bvt hb, Nat.testBit_and]
    unfold zB
    by_cases hk : k < 31
    · have h1 : (-1 : Int32).toBitVec.getLsbD k = true := by
        have : ∀ j : Fin 31, (-1 : Int32).toBitVec.getLsbD j.val = true := by decide +kernel
        exact this ⟨k, hk⟩
      have h2 : (2147483647 - b.toNat).testBit k = !b.toNat.testBit k := by
        have := Nat.testBit_two_pow_sub_succ (x := b.toNat) (n := 31) (by omega) k
        have e : 2 ^ 31 - (b.toNat + 1) = 2147483647 - b.toNat := by omega
        rw [e] at this
        rw [this]
        simp [hk]
      rw [h1, h2]
      simp
    · have h3 : a.toNat.testBit k = false := Nat.testBit_lt_two_pow (Nat.lt_of_lt_of_le (show a.toNat < 2 ^ 31 by omega) (Nat.pow_le_pow_right (by omega) (by omega)))
      rw [h3]
      simp
  have h1 : a.toNat &&& (2147483647 - b.toNat) ≤ a.toNat := Nat.and_le_left
  have e3 : z_and a (z_xor b (-1)) = ((a.toNat &&& (2147483647 - b.toNat) : Nat) : Int) := by rw [e0]; exact z_bvi e2 (by omega)
  refine ⟨by omega, by omega, fun k => ?_⟩
  rw [e3]
  unfold zB
  rw [Int.toNat_natCast, Nat.testBit_and]
  by_cases hk : k < 31
  · have := Nat.testBit_two_pow_sub_succ (x := b.toNat) (n := 31) (by omega) k
    have e : 2 ^ 31 - (b.toNat + 1) = 2147483647 - b.toNat := by omega
    rw [e] at this
    rw [this]
    simp [hk]
  · have h3 : a.toNat.testBit k = false := Nat.testBit_lt_two_pow (Nat.lt_of_lt_of_le (show a.toNat < 2 ^ 31 by omega) (Nat.pow_le_pow_right (by omega) (by omega)))
    rw [h3]
    simp
theorem zB_pow (t k : Nat) : zB ((2 ^ t : Nat) : Int) k = decide (k = t) := by
  unfold zB
  rw [Int.toNat_natCast, Nat.testBit_two_pow]
  by_cases h : t = k
  · subst h; simp
  · simp [h]; omega
theorem z_shl1_s {t : Int} (h : 0 ≤ t ∧ t < 31) : z_shl 1 t = ((2 ^ t.toNat : Nat) : Int) ∧ 0 < z_shl 1 t ∧ z_shl 1 t < 2147483648 ∧ ∀ k, zB (z_shl 1 t) k = decide (k = t.toNat) := by
  obtain ⟨n, rfl⟩ := Int.eq_ofNat_of_zero_le h.1
  have h2 : 2 ^ n ≤ 2 ^ 30 := Nat.pow_le_pow_right (by omega) (by omega)
  have h3 := Nat.two_pow_pos n
  have e : z_shl 1 (n : Int) = ((2 ^ n : Nat) : Int) := by
    have := z_shl_e (a := 1) (k := n) (by omega) (by omega)
    rw [Nat.one_mul] at this
    exact this
  rw [e, Int.toNat_natCast]
  exact ⟨rfl, by omega, by omega, fun k => zB_pow n k⟩
theorem z_bit_s {a t : Int} (ha : 0 ≤ a ∧ a < 2147483648) (h : 0 ≤ t ∧ t < 32) : z_and (z_shr a t) 1 = if zB a t.toNat then 1 else 0 := by
  obtain ⟨n, rfl⟩ := Int.eq_ofNat_of_zero_le h.1
  obtain ⟨m, rfl⟩ := Int.eq_ofNat_of_zero_le ha.1
  rw [z_shr_e (by omega) (by omega)]
  have e1 : ((m : Int) / 2 ^ n) = ((m / 2 ^ n : Nat) : Int) := by simp
  have h2 : m / 2 ^ n ≤ m := Nat.div_le_self _ _
  rw [e1, show (1 : Int) = ((1 : Nat) : Int) from rfl, z_and_e (by omega) (by omega)]
  unfold zB
  rw [Int.toNat_natCast, Int.toNat_natCast, Nat.testBit_eq_decide_div_mod_eq, Nat.and_one_is_mod]
  by_cases hc : m / 2 ^ n % 2 = 1
  · rw [hc]; simp
  · have : m / 2 ^ n % 2 = 0 := by omega
    rw [this]; simp
theorem z_shr1_s {a : Int} (ha : 0 ≤ a ∧ a < 2147483648) : z_shr a 1 = a / 2 ∧ ∀ k, zB (z_shr a 1) k = zB a (k + 1) := by
  have e := z_shr_e (a := a) (k := 1) (by omega) (by omega)
  obtain ⟨m, rfl⟩ := Int.eq_ofNat_of_zero_le ha.1
  have e' : z_shr (m : Int) 1 = (m : Int) / 2 := e
  refine ⟨e', fun k => ?_⟩
  rw [e']
  unfold zB
  rw [Nat.testBit_succ]
  congr 1
theorem z_shl1b_s {a : Int} (ha : 0 ≤ a ∧ a < 1073741824) : z_shl a 1 = a * 2 ∧ ∀ k, zB (z_shl a 1) k = (decide (0 < k) && zB a (k - 1)) := by
  obtain ⟨m, rfl⟩ := Int.eq_ofNat_of_zero_le ha.1
  have e := z_shl_e (a := m) (k := 1) (by omega) (by omega)
  have e' : z_shl (m : Int) 1 = (m : Int) * 2 := by rw [show (1 : Int) = ((1 : Nat) : Int) from rfl, e]; omega
  refine ⟨e', fun k => ?_⟩
  rw [e']
  unfold zB
  have h1 : ((m : Int) * 2).toNat = m * 2 := by omega
  rw [h1]
  cases k with
  | zero => rw [Nat.testBit_zero]; simp
  | succ k => rw [Nat.testBit_succ]; simp
-- memory
theorem z_up_rd {V : z_M} {a k b j : Nat} {v : Int} : z_up V a k v b j = if b = a then (if j = k then v else V b j) else V b j := rfl
theorem z_up_cell {V : z_M} {a k b : Nat} {v : Int} (h : ¬ b = a) : z_up V a k v b = V b := by funext j; rw [z_up_rd, if_neg h]
theorem z_cpy_cell {V : z_M} {a sp b dp n x : Nat} (h : ¬ x = b) : z_cpy V a sp b dp n x = V x := by funext j; unfold z_cpy; rw [if_neg h]
theorem z_cpy_rd {V : z_M} {a sp b dp n x j : Nat} : z_cpy V a sp b dp n x j = if x = b then (if dp ≤ j ∧ j < dp + n then V a (sp + (j - dp)) else V x j) else V x j := rfl
theorem z_all {α : Sort _} {e : α} {F : α → Prop} (h : F e) : ∀ w, w = e → F w := by intro w hw; subst hw; exact h
