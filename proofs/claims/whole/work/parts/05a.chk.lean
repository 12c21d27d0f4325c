def z_chkR (i lo n : Nat) : Bool := (List.range n).all (fun k => z_chk i (lo + k))
theorem z_chkR_at {i lo n pc : Nat} (h : z_chkR i lo n = true) (h1 : lo ≤ pc) (h2 : pc < lo + n) : z_chk i pc = true := by
  have := List.all_eq_true.mp h (pc - lo) (List.mem_range.mpr (by omega))
  rwa [Nat.add_sub_cancel' h1] at this
def z_okM (i : Nat) : Prop := ∀ pc, pc < z_cl i → z_chk i pc = true
theorem z_okM1 {i n : Nat} (hn : z_cl i = n) (h : z_chkR i 0 n = true) : z_okM i := fun pc hp => z_chkR_at h (Nat.zero_le _) (by omega)
theorem z_m0_0 : z_chkR 0 0 100 = true := by decide +kernel
theorem z_m0_1 : z_chkR 0 100 100 = true := by decide +kernel
theorem z_m0_2 : z_chkR 0 200 100 = true := by decide +kernel
theorem z_m0_3 : z_chkR 0 300 100 = true := by decide +kernel
theorem z_m0_4 : z_chkR 0 400 100 = true := by decide +kernel
theorem z_m0_5 : z_chkR 0 500 100 = true := by decide +kernel
theorem z_m0_6 : z_chkR 0 600 100 = true := by decide +kernel
theorem z_m0_7 : z_chkR 0 700 100 = true := by decide +kernel
theorem z_m0_8 : z_chkR 0 800 100 = true := by decide +kernel
theorem z_m0_9 : z_chkR 0 900 100 = true := by decide +kernel
theorem z_m0_10 : z_chkR 0 1000 100 = true := by decide +kernel
theorem z_m0_11 : z_chkR 0 1100 100 = true := by decide +kernel
theorem z_m0_12 : z_chkR 0 1200 52 = true := by decide +kernel
theorem z_m0 : z_okM 0 := by
  intro pc hp
  have hl : z_cl 0 = 1252 := by decide +kernel
  rw [hl] at hp
  by_cases h0 : pc < 100
  · exact z_chkR_at z_m0_0 (by omega) (by omega)
  by_cases h1 : pc < 200
  · exact z_chkR_at z_m0_1 (by omega) (by omega)
  by_cases h2 : pc < 300
  · exact z_chkR_at z_m0_2 (by omega) (by omega)
  by_cases h3 : pc < 400
  · exact z_chkR_at z_m0_3 (by omega) (by omega)
  by_cases h4 : pc < 500
  · exact z_chkR_at z_m0_4 (by omega) (by omega)
  by_cases h5 : pc < 600
  · exact z_chkR_at z_m0_5 (by omega) (by omega)
  by_cases h6 : pc < 700
  · exact z_chkR_at z_m0_6 (by omega) (by omega)
  by_cases h7 : pc < 800
  · exact z_chkR_at z_m0_7 (by omega) (by omega)
  by_cases h8 : pc < 900
  · exact z_chkR_at z_m0_8 (by omega) (by omega)
  by_cases h9 : pc < 1000
  · exact z_chkR_at z_m0_9 (by omega) (by omega)
  by_cases h10 : pc < 1100
  · exact z_chkR_at z_m0_10 (by omega) (by omega)
  by_cases h11 : pc < 1200
  · exact z_chkR_at z_m0_11 (by omega) (by omega)
  exact z_chkR_at z_m0_12 (by omega) (by omega)
theorem z_m1 : z_okM 1 := z_okM1 (n := 44) (by decide +kernel) (by decide +kernel)
theorem z_m2 : z_okM 2 := z_okM1 (n := 64) (by decide +kernel) (by decide +kernel)
theorem z_m3_0 : z_chkR 3 0 100 = true := by decide +kernel
theorem z_m3_1 : z_chkR 3 100 43 = true := by decide +kernel
theorem z_m3 : z_okM 3 := by
  intro pc hp
  have hl : z_cl 3 = 143 := by decide +kernel
  rw [hl] at hp
  by_cases h0 : pc < 100
  · exact z_chkR_at z_m3_0 (by omega) (by omega)
  exact z_chkR_at z_m3_1 (by omega) (by omega)
theorem z_m4 : z_okM 4 := z_okM1 (n := 82) (by decide +kernel) (by decide +kernel)
theorem z_m5 : z_okM 5 := z_okM1 (n := 93) (by decide +kernel) (by decide +kernel)
theorem z_m6 : z_okM 6 := z_okM1 (n := 68) (by decide +kernel) (by decide +kernel)
theorem z_m7 : z_okM 7 := z_okM1 (n := 5) (by decide +kernel) (by decide +kernel)
theorem z_m8_0 : z_chkR 8 0 100 = true := by decide +kernel
theorem z_m8_1 : z_chkR 8 100 43 = true := by decide +kernel
theorem z_m8 : z_okM 8 := by
  intro pc hp
  have hl : z_cl 8 = 143 := by decide +kernel
  rw [hl] at hp
  by_cases h0 : pc < 100
  · exact z_chkR_at z_m8_0 (by omega) (by omega)
  exact z_chkR_at z_m8_1 (by omega) (by omega)
theorem z_m9 : z_okM 9 := z_okM1 (n := 79) (by decide +kernel) (by decide +kernel)
theorem z_m10 : z_okM 10 := z_okM1 (n := 45) (by decide +kernel) (by decide +kernel)
theorem z_m11 : z_okM 11 := z_okM1 (n := 16) (by decide +kernel) (by decide +kernel)
theorem z_m12 : z_okM 12 := z_okM1 (n := 103) (by decide +kernel) (by decide +kernel)
theorem z_m13 : z_okM 13 := z_okM1 (n := 70) (by decide +kernel) (by decide +kernel)
theorem z_m14 : z_okM 14 := z_okM1 (n := 34) (by decide +kernel) (by decide +kernel)
theorem z_m15 : z_okM 15 := z_okM1 (n := 21) (by decide +kernel) (by decide +kernel)
