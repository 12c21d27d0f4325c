theorem z_m92 : z_okM 92 := z_okM1 (n := 37) (by decide +kernel) (by decide +kernel)
theorem z_m93 : z_okM 93 := z_okM1 (n := 51) (by decide +kernel) (by decide +kernel)
theorem z_m94 : z_okM 94 := z_okM1 (n := 50) (by decide +kernel) (by decide +kernel)
theorem z_m95 : z_okM 95 := z_okM1 (n := 36) (by decide +kernel) (by decide +kernel)
theorem z_m96 : z_okM 96 := z_okM1 (n := 51) (by decide +kernel) (by decide +kernel)
theorem z_m97 : z_okM 97 := z_okM1 (n := 45) (by decide +kernel) (by decide +kernel)
theorem z_m98 : z_okM 98 := z_okM1 (n := 68) (by decide +kernel) (by decide +kernel)
theorem z_m99 : z_okM 99 := z_okM1 (n := 27) (by decide +kernel) (by decide +kernel)
theorem z_m100 : z_okM 100 := z_okM1 (n := 81) (by decide +kernel) (by decide +kernel)
theorem z_m101 : z_okM 101 := z_okM1 (n := 5) (by decide +kernel) (by decide +kernel)
theorem z_m102 : z_okM 102 := z_okM1 (n := 82) (by decide +kernel) (by decide +kernel)
theorem z_m103 : z_okM 103 := z_okM1 (n := 5) (by decide +kernel) (by decide +kernel)
theorem z_m104 : z_okM 104 := z_okM1 (n := 51) (by decide +kernel) (by decide +kernel)
theorem z_m105 : z_okM 105 := z_okM1 (n := 55) (by decide +kernel) (by decide +kernel)
theorem z_m106 : z_okM 106 := z_okM1 (n := 29) (by decide +kernel) (by decide +kernel)
theorem z_m107 : z_okM 107 := z_okM1 (n := 76) (by decide +kernel) (by decide +kernel)
theorem z_m108 : z_okM 108 := z_okM1 (n := 21) (by decide +kernel) (by decide +kernel)
theorem z_m109 : z_okM 109 := z_okM1 (n := 21) (by decide +kernel) (by decide +kernel)
theorem z_m110 : z_okM 110 := z_okM1 (n := 21) (by decide +kernel) (by decide +kernel)
theorem z_m111 : z_okM 111 := z_okM1 (n := 43) (by decide +kernel) (by decide +kernel)
theorem z_m112 : z_okM 112 := z_okM1 (n := 44) (by decide +kernel) (by decide +kernel)
theorem z_m113 : z_okM 113 := z_okM1 (n := 45) (by decide +kernel) (by decide +kernel)
theorem z_m114 : z_okM 114 := z_okM1 (n := 41) (by decide +kernel) (by decide +kernel)
theorem z_m115 : z_okM 115 := z_okM1 (n := 51) (by decide +kernel) (by decide +kernel)
theorem z_m116 : z_okM 116 := z_okM1 (n := 52) (by decide +kernel) (by decide +kernel)
theorem z_m117 : z_okM 117 := z_okM1 (n := 101) (by decide +kernel) (by decide +kernel)
theorem z_m118 : z_okM 118 := z_okM1 (n := 86) (by decide +kernel) (by decide +kernel)
theorem z_m119_0 : z_chkR 119 0 100 = true := by decide +kernel
theorem z_m119_1 : z_chkR 119 100 43 = true := by decide +kernel
theorem z_m119 : z_okM 119 := by
  intro pc hp
  have hl : z_cl 119 = 143 := by decide +kernel
  rw [hl] at hp
  by_cases h0 : pc < 100
  · exact z_chkR_at z_m119_0 (by omega) (by omega)
  exact z_chkR_at z_m119_1 (by omega) (by omega)
theorem z_m120 : z_okM 120 := z_okM1 (n := 109) (by decide +kernel) (by decide +kernel)
theorem z_m121 : z_okM 121 := z_okM1 (n := 27) (by decide +kernel) (by decide +kernel)
theorem z_m122 : z_okM 122 := z_okM1 (n := 18) (by decide +kernel) (by decide +kernel)
theorem z_m123 : z_okM 123 := z_okM1 (n := 85) (by decide +kernel) (by decide +kernel)
theorem z_m124 : z_okM 124 := z_okM1 (n := 53) (by decide +kernel) (by decide +kernel)
theorem z_m125 : z_okM 125 := z_okM1 (n := 40) (by decide +kernel) (by decide +kernel)
theorem z_m126 : z_okM 126 := z_okM1 (n := 41) (by decide +kernel) (by decide +kernel)
theorem z_m127 : z_okM 127 := z_okM1 (n := 50) (by decide +kernel) (by decide +kernel)
theorem z_m128_0 : z_chkR 128 0 100 = true := by decide +kernel
theorem z_m128_1 : z_chkR 128 100 98 = true := by decide +kernel
theorem z_m128 : z_okM 128 := by
  intro pc hp
  have hl : z_cl 128 = 198 := by decide +kernel
  rw [hl] at hp
  by_cases h0 : pc < 100
  · exact z_chkR_at z_m128_0 (by omega) (by omega)
  exact z_chkR_at z_m128_1 (by omega) (by omega)
theorem z_m129 : z_okM 129 := z_okM1 (n := 5) (by decide +kernel) (by decide +kernel)
theorem z_m130 : z_okM 130 := z_okM1 (n := 34) (by decide +kernel) (by decide +kernel)
theorem z_m131 : z_okM 131 := z_okM1 (n := 29) (by decide +kernel) (by decide +kernel)
theorem z_m132 : z_okM 132 := z_okM1 (n := 20) (by decide +kernel) (by decide +kernel)
theorem z_m133 : z_okM 133 := z_okM1 (n := 16) (by decide +kernel) (by decide +kernel)
theorem z_m134 : z_okM 134 := z_okM1 (n := 32) (by decide +kernel) (by decide +kernel)
theorem z_m135 : z_okM 135 := z_okM1 (n := 28) (by decide +kernel) (by decide +kernel)
theorem z_m136 : z_okM 136 := z_okM1 (n := 10) (by decide +kernel) (by decide +kernel)
theorem z_m137 : z_okM 137 := z_okM1 (n := 108) (by decide +kernel) (by decide +kernel)
theorem z_m138 : z_okM 138 := z_okM1 (n := 31) (by decide +kernel) (by decide +kernel)
theorem z_m139 : z_okM 139 := z_okM1 (n := 50) (by decide +kernel) (by decide +kernel)
theorem z_m140 : z_okM 140 := z_okM1 (n := 19) (by decide +kernel) (by decide +kernel)
theorem z_m141 : z_okM 141 := z_okM1 (n := 50) (by decide +kernel) (by decide +kernel)
theorem z_m142 : z_okM 142 := z_okM1 (n := 54) (by decide +kernel) (by decide +kernel)
theorem z_m143 : z_okM 143 := z_okM1 (n := 91) (by decide +kernel) (by decide +kernel)
