theorem z_m16_0 : z_chkR 16 0 100 = true := by decide +kernel
theorem z_m16_1 : z_chkR 16 100 100 = true := by decide +kernel
theorem z_m16_2 : z_chkR 16 200 36 = true := by decide +kernel
theorem z_m16 : z_okM 16 := by
  intro pc hp
  have hl : z_cl 16 = 236 := by decide +kernel
  rw [hl] at hp
  by_cases h0 : pc < 100
  · exact z_chkR_at z_m16_0 (by omega) (by omega)
  by_cases h1 : pc < 200
  · exact z_chkR_at z_m16_1 (by omega) (by omega)
  exact z_chkR_at z_m16_2 (by omega) (by omega)
theorem z_m17 : z_okM 17 := z_okM1 (n := 76) (by decide +kernel) (by decide +kernel)
theorem z_m18_0 : z_chkR 18 0 100 = true := by decide +kernel
theorem z_m18_1 : z_chkR 18 100 100 = true := by decide +kernel
theorem z_m18_2 : z_chkR 18 200 18 = true := by decide +kernel
theorem z_m18 : z_okM 18 := by
  intro pc hp
  have hl : z_cl 18 = 218 := by decide +kernel
  rw [hl] at hp
  by_cases h0 : pc < 100
  · exact z_chkR_at z_m18_0 (by omega) (by omega)
  by_cases h1 : pc < 200
  · exact z_chkR_at z_m18_1 (by omega) (by omega)
  exact z_chkR_at z_m18_2 (by omega) (by omega)
theorem z_m19 : z_okM 19 := z_okM1 (n := 50) (by decide +kernel) (by decide +kernel)
theorem z_m20_0 : z_chkR 20 0 100 = true := by decide +kernel
theorem z_m20_1 : z_chkR 20 100 33 = true := by decide +kernel
theorem z_m20 : z_okM 20 := by
  intro pc hp
  have hl : z_cl 20 = 133 := by decide +kernel
  rw [hl] at hp
  by_cases h0 : pc < 100
  · exact z_chkR_at z_m20_0 (by omega) (by omega)
  exact z_chkR_at z_m20_1 (by omega) (by omega)
theorem z_m21 : z_okM 21 := z_okM1 (n := 55) (by decide +kernel) (by decide +kernel)
theorem z_m22 : z_okM 22 := z_okM1 (n := 29) (by decide +kernel) (by decide +kernel)
theorem z_m23 : z_okM 23 := z_okM1 (n := 20) (by decide +kernel) (by decide +kernel)
theorem z_m24 : z_okM 24 := z_okM1 (n := 43) (by decide +kernel) (by decide +kernel)
theorem z_m25_0 : z_chkR 25 0 100 = true := by decide +kernel
theorem z_m25_1 : z_chkR 25 100 62 = true := by decide +kernel
theorem z_m25 : z_okM 25 := by
  intro pc hp
  have hl : z_cl 25 = 162 := by decide +kernel
  rw [hl] at hp
  by_cases h0 : pc < 100
  · exact z_chkR_at z_m25_0 (by omega) (by omega)
  exact z_chkR_at z_m25_1 (by omega) (by omega)
theorem z_m26 : z_okM 26 := z_okM1 (n := 97) (by decide +kernel) (by decide +kernel)
theorem z_m27 : z_okM 27 := z_okM1 (n := 68) (by decide +kernel) (by decide +kernel)
theorem z_m28 : z_okM 28 := z_okM1 (n := 68) (by decide +kernel) (by decide +kernel)
theorem z_m29 : z_okM 29 := z_okM1 (n := 119) (by decide +kernel) (by decide +kernel)
theorem z_m30 : z_okM 30 := z_okM1 (n := 40) (by decide +kernel) (by decide +kernel)
theorem z_m31 : z_okM 31 := z_okM1 (n := 40) (by decide +kernel) (by decide +kernel)
theorem z_m32 : z_okM 32 := z_okM1 (n := 81) (by decide +kernel) (by decide +kernel)
theorem z_m33 : z_okM 33 := z_okM1 (n := 81) (by decide +kernel) (by decide +kernel)
theorem z_m34 : z_okM 34 := z_okM1 (n := 124) (by decide +kernel) (by decide +kernel)
theorem z_m35 : z_okM 35 := z_okM1 (n := 89) (by decide +kernel) (by decide +kernel)
theorem z_m36 : z_okM 36 := z_okM1 (n := 106) (by decide +kernel) (by decide +kernel)
theorem z_m37 : z_okM 37 := z_okM1 (n := 51) (by decide +kernel) (by decide +kernel)
theorem z_m38 : z_okM 38 := z_okM1 (n := 10) (by decide +kernel) (by decide +kernel)
theorem z_m39 : z_okM 39 := z_okM1 (n := 19) (by decide +kernel) (by decide +kernel)
theorem z_m40 : z_okM 40 := z_okM1 (n := 80) (by decide +kernel) (by decide +kernel)
theorem z_m41 : z_okM 41 := z_okM1 (n := 43) (by decide +kernel) (by decide +kernel)
theorem z_m42 : z_okM 42 := z_okM1 (n := 30) (by decide +kernel) (by decide +kernel)
theorem z_m43 : z_okM 43 := z_okM1 (n := 60) (by decide +kernel) (by decide +kernel)
theorem z_m44 : z_okM 44 := z_okM1 (n := 24) (by decide +kernel) (by decide +kernel)
theorem z_m45 : z_okM 45 := z_okM1 (n := 17) (by decide +kernel) (by decide +kernel)
theorem z_m46_0 : z_chkR 46 0 100 = true := by decide +kernel
theorem z_m46_1 : z_chkR 46 100 80 = true := by decide +kernel
theorem z_m46 : z_okM 46 := by
  intro pc hp
  have hl : z_cl 46 = 180 := by decide +kernel
  rw [hl] at hp
  by_cases h0 : pc < 100
  · exact z_chkR_at z_m46_0 (by omega) (by omega)
  exact z_chkR_at z_m46_1 (by omega) (by omega)
theorem z_m47 : z_okM 47 := z_okM1 (n := 69) (by decide +kernel) (by decide +kernel)
theorem z_m48 : z_okM 48 := z_okM1 (n := 124) (by decide +kernel) (by decide +kernel)
theorem z_m49 : z_okM 49 := z_okM1 (n := 61) (by decide +kernel) (by decide +kernel)
