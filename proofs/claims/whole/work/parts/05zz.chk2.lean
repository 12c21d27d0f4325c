def z_chk2 (i pc : Nat) : Bool := match z_co i pc with
  | (.getfield _, _, x, y, _) => Nat.blt x 14 && Nat.blt y (z_nf x)
  | (.putfield _, _, x, y, _) => Nat.blt x 13 && Nat.blt y (z_nf x) && (!(z_T x y).2.2.2 || (decide ((z_my i).name = "<init>") && decide (z_own i = z_cn x)))
  | _ => true
def z_chk2R (lo n : Nat) : Bool := (List.range n).all (fun k => (List.range (z_cl (lo + k))).all (fun pc => z_chk2 (lo + k) pc))
theorem z_chk2R_at {lo n i pc : Nat} (h : z_chk2R lo n = true) (h1 : lo ≤ i) (h2 : i < lo + n) (hp : pc < z_cl i) : z_chk2 i pc = true := by
  have := List.all_eq_true.mp h (i - lo) (List.mem_range.mpr (by omega))
  rw [Nat.add_sub_cancel' h1] at this
  exact List.all_eq_true.mp this pc (List.mem_range.mpr hp)
theorem z_k2_0 : z_chk2R 0 20 = true := by decide +kernel
theorem z_k2_1 : z_chk2R 20 20 = true := by decide +kernel
theorem z_k2_2 : z_chk2R 40 20 = true := by decide +kernel
theorem z_k2_3 : z_chk2R 60 20 = true := by decide +kernel
theorem z_k2_4 : z_chk2R 80 20 = true := by decide +kernel
theorem z_k2_5 : z_chk2R 100 20 = true := by decide +kernel
theorem z_k2_6 : z_chk2R 120 20 = true := by decide +kernel
theorem z_k2_7 : z_chk2R 140 20 = true := by decide +kernel
theorem z_k2_8 : z_chk2R 160 20 = true := by decide +kernel
theorem z_k2_9 : z_chk2R 180 20 = true := by decide +kernel
theorem z_k2_10 : z_chk2R 200 20 = true := by decide +kernel
theorem z_k2_11 : z_chk2R 220 20 = true := by decide +kernel
theorem z_k2_12 : z_chk2R 240 20 = true := by decide +kernel
theorem z_k2_13 : z_chk2R 260 2 = true := by decide +kernel
theorem z_checked2 (i pc : Nat) : z_chk2 i pc = true := by
  by_cases hi : i < 262
  · by_cases hp : pc < z_cl i
    · by_cases h0 : i < 20
      · exact z_chk2R_at z_k2_0 (by omega) (by omega) hp
      by_cases h1 : i < 40
      · exact z_chk2R_at z_k2_1 (by omega) (by omega) hp
      by_cases h2 : i < 60
      · exact z_chk2R_at z_k2_2 (by omega) (by omega) hp
      by_cases h3 : i < 80
      · exact z_chk2R_at z_k2_3 (by omega) (by omega) hp
      by_cases h4 : i < 100
      · exact z_chk2R_at z_k2_4 (by omega) (by omega) hp
      by_cases h5 : i < 120
      · exact z_chk2R_at z_k2_5 (by omega) (by omega) hp
      by_cases h6 : i < 140
      · exact z_chk2R_at z_k2_6 (by omega) (by omega) hp
      by_cases h7 : i < 160
      · exact z_chk2R_at z_k2_7 (by omega) (by omega) hp
      by_cases h8 : i < 180
      · exact z_chk2R_at z_k2_8 (by omega) (by omega) hp
      by_cases h9 : i < 200
      · exact z_chk2R_at z_k2_9 (by omega) (by omega) hp
      by_cases h10 : i < 220
      · exact z_chk2R_at z_k2_10 (by omega) (by omega) hp
      by_cases h11 : i < 240
      · exact z_chk2R_at z_k2_11 (by omega) (by omega) hp
      by_cases h12 : i < 260
      · exact z_chk2R_at z_k2_12 (by omega) (by omega) hp
      exact z_chk2R_at z_k2_13 (by omega) (by omega) hp
    · have : z_co i pc = z_no := by
        unfold z_co
        rw [show Nat.blt i z_NM = true from (Nat.blt_eq).mpr hi, show Nat.blt pc (z_cl i) = false from Bool.eq_false_iff.mpr (fun q => hp ((Nat.blt_eq).mp q))]
        rfl
      unfold z_chk2
      rw [this]; rfl
  · have : z_co i pc = z_no := by
      unfold z_co
      rw [show Nat.blt i z_NM = false from Bool.eq_false_iff.mpr (fun q => hi ((Nat.blt_eq).mp q))]
      rfl
    unfold z_chk2
    rw [this]; rfl
