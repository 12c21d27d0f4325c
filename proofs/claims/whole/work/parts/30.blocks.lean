/-! blocks of rows, up to the cuts -/
def z_mem (x : Nat) : List Nat → Bool
  | [] => false
  | a :: t => cond (Nat.beq a x) true (z_mem x t)
def z_RC (d i : Nat) (Q : Int → z_M → Prop) (cut : List Nat) : Nat → z_P
  | 0 => z_Ex (z_MS d) i Q
  | k + 1 => z_Stp (z_MS d) i Q (fun md pc ls st kc ks V => cond (z_mem pc cut) (z_Ex (z_MS d) i Q md pc ls st kc ks V) (z_RC d i Q cut k md pc ls st kc ks V))
theorem z_RC.ex {d i : Nat} {Q : Int → z_M → Prop} {cut : List Nat} : ∀ (k : Nat) {md : Bool} {pc : Nat} {ls : z_L} {st : List z_V} {kc ks : Nat} {V : z_M}, z_RC d i Q cut k md pc ls st kc ks V → z_Ex (z_MS d) i Q md pc ls st kc ks V
  | 0, _, _, _, _, _, _, _, h => h
  | k + 1, _, _, _, _, _, _, _, h => z_Ex.step (z_MS.mono d) (z_Stp_m (z_MS.mono d) (fun _ _ => id) _ (fun pc ls st kc ks V q => by
      cases hm : z_mem pc cut with
      | true => rw [hm] at q; exact q
      | false => rw [hm] at q; exact z_RC.ex k q) _ _ _ _ _ _ h)
-- numbers
theorem z_add_e {a b : Int} (h : -2147483648 ≤ a + b ∧ a + b < 2147483648) : z_add a b = a + b := by
  show (Int32.ofInt a + Int32.ofInt b).toInt = _
  rw [← Int32.ofInt_add]
  exact z_t32 h.1 h.2
theorem z_sub_e {a b : Int} (h : -2147483648 ≤ a - b ∧ a - b < 2147483648) : z_sub a b = a - b := by
  show (Int32.ofInt a - Int32.ofInt b).toInt = _
  rw [← Int32.ofInt_sub]
  exact z_t32 h.1 h.2
theorem z_mul_e {a b : Int} (h : -2147483648 ≤ a * b ∧ a * b < 2147483648) : z_mul a b = a * b := by
  show (Int32.ofInt a * Int32.ofInt b).toInt = _
  rw [← Int32.ofInt_mul]
  exact z_t32 h.1 h.2
theorem z_bvn {a : Nat} (h : a < 2147483648) : (Int32.ofInt (a : Int)).toBitVec.toNat = a := by
  show (BitVec.ofInt 32 (a : Int)).toNat = a
  rw [BitVec.toNat_ofInt]
  omega
theorem z_bvi {x : BitVec 32} {n : Nat} (h : x.toNat = n) (hn : n < 2147483648) : x.toInt = (n : Int) := by
  rw [BitVec.toInt_eq_toNat_of_lt (by omega), h]
theorem z_and_e {a b : Nat} (ha : a < 2147483648) (hb : b < 2147483648) : z_and (a : Int) (b : Int) = ((a &&& b : Nat) : Int) := by
  unfold z_and z_i32
  show ((Int32.ofInt (a : Int)).toBitVec &&& (Int32.ofInt (b : Int)).toBitVec).toInt = _
  exact z_bvi (by rw [BitVec.toNat_and, z_bvn ha, z_bvn hb]) (Nat.lt_of_le_of_lt Nat.and_le_left ha)
theorem z_or_e {a b : Nat} (ha : a < 2147483648) (hb : b < 2147483648) : z_or (a : Int) (b : Int) = ((a ||| b : Nat) : Int) := by
  unfold z_or z_i32
  show ((Int32.ofInt (a : Int)).toBitVec ||| (Int32.ofInt (b : Int)).toBitVec).toInt = _
  exact z_bvi (by rw [BitVec.toNat_or, z_bvn ha, z_bvn hb]) (Nat.or_lt_two_pow (n := 31) ha hb)
theorem z_xor_e {a b : Nat} (ha : a < 2147483648) (hb : b < 2147483648) : z_xor (a : Int) (b : Int) = ((a ^^^ b : Nat) : Int) := by
  unfold z_xor z_i32
  show ((Int32.ofInt (a : Int)).toBitVec ^^^ (Int32.ofInt (b : Int)).toBitVec).toInt = _
  exact z_bvi (by rw [BitVec.toNat_xor, z_bvn ha, z_bvn hb]) (Nat.xor_lt_two_pow (n := 31) ha hb)
