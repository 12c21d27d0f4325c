theorem z_m50_0 : z_chkR 50 0 100 = true := by decide +kernel
theorem z_m50_1 : z_chkR 50 100 80 = true := by decide +kernel
theorem z_m50 : z_okM 50 := by
  intro pc hp
  have hl : z_cl 50 = 180 := by decide +kernel
  rw [hl] at hp
  by_cases h0 : pc < 100
  · exact z_chkR_at z_m50_0 (by omega) (by omega)
  exact z_chkR_at z_m50_1 (by omega) (by omega)
theorem z_m51 : z_okM 51 := z_okM1 (n := 43) (by decide +kernel) (by decide +kernel)
theorem z_m52 : z_okM 52 := z_okM1 (n := 26) (by decide +kernel) (by decide +kernel)
theorem z_m53 : z_okM 53 := z_okM1 (n := 60) (by decide +kernel) (by decide +kernel)
theorem z_m54 : z_okM 54 := z_okM1 (n := 84) (by decide +kernel) (by decide +kernel)
theorem z_m55 : z_okM 55 := z_okM1 (n := 25) (by decide +kernel) (by decide +kernel)
theorem z_m56_0 : z_chkR 56 0 100 = true := by decide +kernel
theorem z_m56_1 : z_chkR 56 100 83 = true := by decide +kernel
theorem z_m56 : z_okM 56 := by
  intro pc hp
  have hl : z_cl 56 = 183 := by decide +kernel
  rw [hl] at hp
  by_cases h0 : pc < 100
  · exact z_chkR_at z_m56_0 (by omega) (by omega)
  exact z_chkR_at z_m56_1 (by omega) (by omega)
theorem z_m57 : z_okM 57 := z_okM1 (n := 88) (by decide +kernel) (by decide +kernel)
theorem z_m58 : z_okM 58 := z_okM1 (n := 66) (by decide +kernel) (by decide +kernel)
theorem z_m59 : z_okM 59 := z_okM1 (n := 108) (by decide +kernel) (by decide +kernel)
theorem z_m60 : z_okM 60 := z_okM1 (n := 30) (by decide +kernel) (by decide +kernel)
theorem z_m61 : z_okM 61 := z_okM1 (n := 73) (by decide +kernel) (by decide +kernel)
theorem z_m62 : z_okM 62 := z_okM1 (n := 51) (by decide +kernel) (by decide +kernel)
theorem z_m63 : z_okM 63 := z_okM1 (n := 7) (by decide +kernel) (by decide +kernel)
theorem z_m64 : z_okM 64 := z_okM1 (n := 18) (by decide +kernel) (by decide +kernel)
theorem z_m65 : z_okM 65 := z_okM1 (n := 13) (by decide +kernel) (by decide +kernel)
theorem z_m66 : z_okM 66 := z_okM1 (n := 21) (by decide +kernel) (by decide +kernel)
theorem z_m67 : z_okM 67 := z_okM1 (n := 14) (by decide +kernel) (by decide +kernel)
theorem z_m68 : z_okM 68 := z_okM1 (n := 86) (by decide +kernel) (by decide +kernel)
theorem z_m69 : z_okM 69 := z_okM1 (n := 89) (by decide +kernel) (by decide +kernel)
theorem z_m70 : z_okM 70 := z_okM1 (n := 14) (by decide +kernel) (by decide +kernel)
theorem z_m71 : z_okM 71 := z_okM1 (n := 50) (by decide +kernel) (by decide +kernel)
theorem z_m72 : z_okM 72 := z_okM1 (n := 84) (by decide +kernel) (by decide +kernel)
theorem z_m73_0 : z_chkR 73 0 100 = true := by decide +kernel
theorem z_m73_1 : z_chkR 73 100 44 = true := by decide +kernel
theorem z_m73 : z_okM 73 := by
  intro pc hp
  have hl : z_cl 73 = 144 := by decide +kernel
  rw [hl] at hp
  by_cases h0 : pc < 100
  · exact z_chkR_at z_m73_0 (by omega) (by omega)
  exact z_chkR_at z_m73_1 (by omega) (by omega)
theorem z_m74 : z_okM 74 := z_okM1 (n := 43) (by decide +kernel) (by decide +kernel)
theorem z_m75 : z_okM 75 := z_okM1 (n := 12) (by decide +kernel) (by decide +kernel)
theorem z_m76 : z_okM 76 := z_okM1 (n := 12) (by decide +kernel) (by decide +kernel)
theorem z_m77 : z_okM 77 := z_okM1 (n := 76) (by decide +kernel) (by decide +kernel)
theorem z_m78 : z_okM 78 := z_okM1 (n := 52) (by decide +kernel) (by decide +kernel)
theorem z_m79 : z_okM 79 := z_okM1 (n := 38) (by decide +kernel) (by decide +kernel)
theorem z_m80 : z_okM 80 := z_okM1 (n := 52) (by decide +kernel) (by decide +kernel)
theorem z_m81 : z_okM 81 := z_okM1 (n := 36) (by decide +kernel) (by decide +kernel)
theorem z_m82 : z_okM 82 := z_okM1 (n := 69) (by decide +kernel) (by decide +kernel)
theorem z_m83 : z_okM 83 := z_okM1 (n := 36) (by decide +kernel) (by decide +kernel)
theorem z_m84 : z_okM 84 := z_okM1 (n := 31) (by decide +kernel) (by decide +kernel)
theorem z_m85 : z_okM 85 := z_okM1 (n := 31) (by decide +kernel) (by decide +kernel)
theorem z_m86 : z_okM 86 := z_okM1 (n := 33) (by decide +kernel) (by decide +kernel)
theorem z_m87 : z_okM 87 := z_okM1 (n := 122) (by decide +kernel) (by decide +kernel)
theorem z_m88 : z_okM 88 := z_okM1 (n := 33) (by decide +kernel) (by decide +kernel)
theorem z_m89 : z_okM 89 := z_okM1 (n := 41) (by decide +kernel) (by decide +kernel)
theorem z_m90 : z_okM 90 := z_okM1 (n := 63) (by decide +kernel) (by decide +kernel)
theorem z_m91_0 : z_chkR 91 0 100 = true := by decide +kernel
theorem z_m91_1 : z_chkR 91 100 60 = true := by decide +kernel
theorem z_m91 : z_okM 91 := by
  intro pc hp
  have hl : z_cl 91 = 160 := by decide +kernel
  rw [hl] at hp
  by_cases h0 : pc < 100
  · exact z_chkR_at z_m91_0 (by omega) (by omega)
  exact z_chkR_at z_m91_1 (by omega) (by omega)
