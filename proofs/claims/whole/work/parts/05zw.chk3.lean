/-- what a program decides: calls of Math go by the plain link; special calls are of makers; texts -/
def z_si (j : Nat) : Nat := [78, 84, 90, 101, 106, 108, 136, 140, 142, 144, 146, 148, 150, 152].getD j 0
def z_chk3 (i pc : Nat) : Bool := match z_co i pc with
  | (.invokestatic _, _, x, y, _) => Nat.blt x 259 || Nat.blt 261 x || Nat.beq y 0
  | (.invokespecial _, _, x, _, _) => Nat.beq x 1000 || (decide ((z_my x).name = "<init>") && decide (z_rt x = none))
  | (.ldc k, _, x, y, _) => !(Nat.beq y 2) || (decide (z_own i = "FolioStair$LawReader") && decide (k = z_si (x - 8)))
  | _ => true
def z_chk3R (lo n : Nat) : Bool := (List.range n).all (fun k => (List.range (z_cl (lo + k))).all (fun pc => z_chk3 (lo + k) pc))
theorem z_chk3R_at {lo n i pc : Nat} (h : z_chk3R lo n = true) (h1 : lo ≤ i) (h2 : i < lo + n) (hp : pc < z_cl i) : z_chk3 i pc = true := by
  have := List.all_eq_true.mp h (i - lo) (List.mem_range.mpr (by omega))
  rw [Nat.add_sub_cancel' h1] at this
  exact List.all_eq_true.mp this pc (List.mem_range.mpr hp)
theorem z_k3_0 : z_chk3R 0 20 = true := by decide +kernel
theorem z_k3_1 : z_chk3R 20 20 = true := by decide +kernel
theorem z_k3_2 : z_chk3R 40 20 = true := by decide +kernel
theorem z_k3_3 : z_chk3R 60 20 = true := by decide +kernel
theorem z_k3_4 : z_chk3R 80 20 = true := by decide +kernel
theorem z_k3_5 : z_chk3R 100 20 = true := by decide +kernel
theorem z_k3_6 : z_chk3R 120 20 = true := by decide +kernel
theorem z_k3_7 : z_chk3R 140 20 = true := by decide +kernel
theorem z_k3_8 : z_chk3R 160 20 = true := by decide +kernel
theorem z_k3_9 : z_chk3R 180 20 = true := by decide +kernel
theorem z_k3_10 : z_chk3R 200 20 = true := by decide +kernel
theorem z_k3_11 : z_chk3R 220 20 = true := by decide +kernel
theorem z_k3_12 : z_chk3R 240 20 = true := by decide +kernel
theorem z_k3_13 : z_chk3R 260 2 = true := by decide +kernel
theorem z_checked3 (i pc : Nat) : z_chk3 i pc = true := by
  by_cases hi : i < 262
  · by_cases hp : pc < z_cl i
    · by_cases h0 : i < 20
      · exact z_chk3R_at z_k3_0 (by omega) (by omega) hp
      by_cases h1 : i < 40
      · exact z_chk3R_at z_k3_1 (by omega) (by omega) hp
      by_cases h2 : i < 60
      · exact z_chk3R_at z_k3_2 (by omega) (by omega) hp
      by_cases h3 : i < 80
      · exact z_chk3R_at z_k3_3 (by omega) (by omega) hp
      by_cases h4 : i < 100
      · exact z_chk3R_at z_k3_4 (by omega) (by omega) hp
      by_cases h5 : i < 120
      · exact z_chk3R_at z_k3_5 (by omega) (by omega) hp
      by_cases h6 : i < 140
      · exact z_chk3R_at z_k3_6 (by omega) (by omega) hp
      by_cases h7 : i < 160
      · exact z_chk3R_at z_k3_7 (by omega) (by omega) hp
      by_cases h8 : i < 180
      · exact z_chk3R_at z_k3_8 (by omega) (by omega) hp
      by_cases h9 : i < 200
      · exact z_chk3R_at z_k3_9 (by omega) (by omega) hp
      by_cases h10 : i < 220
      · exact z_chk3R_at z_k3_10 (by omega) (by omega) hp
      by_cases h11 : i < 240
      · exact z_chk3R_at z_k3_11 (by omega) (by omega) hp
      by_cases h12 : i < 260
      · exact z_chk3R_at z_k3_12 (by omega) (by omega) hp
      exact z_chk3R_at z_k3_13 (by omega) (by omega) hp
    · have : z_co i pc = z_no := by
        unfold z_co
        rw [show Nat.blt i z_NM = true from (Nat.blt_eq).mpr hi, show Nat.blt pc (z_cl i) = false from Bool.eq_false_iff.mpr (fun q => hp ((Nat.blt_eq).mp q))]
        rfl
      unfold z_chk3
      rw [this]; rfl
  · have : z_co i pc = z_no := by
      unfold z_co
      rw [show Nat.blt i z_NM = false from Bool.eq_false_iff.mpr (fun q => hi ((Nat.blt_eq).mp q))]
      rfl
    unfold z_chk3
    rw [this]; rfl
