/-! draws -/
theorem z_rem_e {a b : Int} (ha : 0 ≤ a ∧ a < 2147483648) (hb : 0 < b ∧ b < 2147483648) : z_rem a b = a % b := by
  have h1 : 0 ≤ a / b := Int.ediv_nonneg ha.1 (by omega)
  have h2 : a / b ≤ a := Int.ediv_le_self b ha.1
  have h3 : a - a / b * b = a % b := by rw [Int.emod_def, Int.mul_comm]
  have h4 : 0 ≤ a % b := Int.emod_nonneg a (by omega)
  have h5 : a % b < b := Int.emod_lt_of_pos a hb.1
  have hq : Int32.ofInt a / Int32.ofInt b = Int32.ofInt (a / b) := by
    apply Int32.toInt_inj.mp
    rw [Int32.toInt_div, z_t32 (by omega) (by omega), z_t32 (by omega) (by omega), z_t32 (by omega) (by omega), Int.tdiv_eq_ediv_of_nonneg ha.1]
    exact Int.bmod_eq_of_le (by omega) (by omega)
  show (Int32.ofInt a - Int32.ofInt a / Int32.ofInt b * Int32.ofInt b).toInt = _
  rw [hq, ← Int32.ofInt_mul, ← Int32.ofInt_sub, h3, z_t32 (by omega) (by omega)]
theorem z_lrem_e {a b : Int} (ha : 0 ≤ a ∧ a < 9000000000000000000) (hb : 0 < b ∧ b < 9000000000000000000) : z_lrem a b = a % b := by
  have h1 : 0 ≤ a / b := Int.ediv_nonneg ha.1 (by omega)
  have h2 : a / b ≤ a := Int.ediv_le_self b ha.1
  have h3 : a - a / b * b = a % b := by rw [Int.emod_def, Int.mul_comm]
  have h4 : 0 ≤ a % b := Int.emod_nonneg a (by omega)
  have h5 : a % b < b := Int.emod_lt_of_pos a hb.1
  have hq : Int64.ofInt a / Int64.ofInt b = Int64.ofInt (a / b) := by
    apply Int64.toInt_inj.mp
    rw [Int64.toInt_div, z_t64 (by omega) (by omega), z_t64 (by omega) (by omega), z_t64 (by omega) (by omega), Int.tdiv_eq_ediv_of_nonneg ha.1]
    exact Int.bmod_eq_of_le (by omega) (by omega)
  show (Int64.ofInt a - Int64.ofInt a / Int64.ofInt b * Int64.ofInt b).toInt = _
  rw [hq, ← Int64.ofInt_mul, ← Int64.ofInt_sub, h3, z_t64 (by omega) (by omega)]
theorem z_l2i_e {a : Int} (h : -2147483648 ≤ a ∧ a < 2147483648) : z_l2i a = a := by
  show (Int64.ofInt a).toInt32.toInt = _
  rw [Int64.toInt_toInt32, z_t64 (by omega) (by omega)]
  exact Int.bmod_eq_of_le (by omega) (by omega)
def zNx (x : Nat) : Nat := (x * 1103 + 12345) % 1000003
theorem zNx_lt {x : Nat} : zNx x < 1000003 := Nat.mod_lt _ (by decide)
section
variable {d : Nat} {Q : Int → z_M → Prop}
theorem sp14 {V : z_M} {x k : Nat} (hx : V 134 2 = (x : Int)) (hx2 : x ≤ 1000003) (hk : 0 < k) (hk2 : k ≤ 12) (h : Q ((zNx x % k : Nat) : Int) (z_up V 134 2 (zNx x : Int))) : z_MS (d + 1) 14 true [.inr (.inr 134), .inl (k : Int)] V Q := by
  refine zb14_134 _ ?_
  have e : z_rem (z_add (z_mul (V 134 2) 1103) 12345) 1000003 = (zNx x : Int) := by
    rw [hx]
    simp (disch := omega) only [z_mul_e, z_add_e, z_sub_e]
    rw [z_rem_e (by omega) (by decide)]
    unfold zNx
    omega
  rw [e]
  refine z_all (z_ifp (by omega) (z_gp (by omega) ?_))
  have hn := zNx_lt (x := x)
  rw [zUp_s, z_rem_e (by omega) (by omega)]
  exact h
theorem sp244 {V : z_M} {x k : Nat} (hx : V 141 53 = (x : Int)) (hx2 : x ≤ 1000003) (hk : 0 < k) (hk2 : k ≤ 12) (h : Q ((zNx x % k : Nat) : Int) (z_up V 141 53 (zNx x : Int))) : z_MS (d + 1) 244 true [.inr (.inr 141), .inl (k : Int)] V Q := by
  refine zb244_141 _ ?_
  have e : z_lrem (z_ladd (z_lmul (V 141 53) 1103) 12345) 1000003 = (zNx x : Int) := by
    rw [hx, z_lmul_e (by omega), z_ladd_e (by omega), z_lrem_e (by omega) (by decide)]
    unfold zNx
    omega
  rw [e]
  refine z_all (z_gp (by omega) ?_)
  have hn := zNx_lt (x := x)
  have h5 : ((zNx x % k : Nat) : Int) = (zNx x : Int) % (k : Int) := by omega
  have h6 : zNx x % k < k := Nat.mod_lt _ hk
  rw [zUp_s, z_lrem_e (by omega) (by omega), ← h5, z_l2i_e (by omega)]
  exact h
end
