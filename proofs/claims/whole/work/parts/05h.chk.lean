theorem z_m239_0 : z_chkR 239 0 100 = true := by decide +kernel
theorem z_m239_1 : z_chkR 239 100 34 = true := by decide +kernel
theorem z_m239 : z_okM 239 := by
  intro pc hp
  have hl : z_cl 239 = 134 := by decide +kernel
  rw [hl] at hp
  by_cases h0 : pc < 100
  · exact z_chkR_at z_m239_0 (by omega) (by omega)
  exact z_chkR_at z_m239_1 (by omega) (by omega)
theorem z_m240 : z_okM 240 := z_okM1 (n := 105) (by decide +kernel) (by decide +kernel)
theorem z_m241 : z_okM 241 := z_okM1 (n := 67) (by decide +kernel) (by decide +kernel)
theorem z_m242 : z_okM 242 := z_okM1 (n := 21) (by decide +kernel) (by decide +kernel)
theorem z_m243_0 : z_chkR 243 0 100 = true := by decide +kernel
theorem z_m243_1 : z_chkR 243 100 45 = true := by decide +kernel
theorem z_m243 : z_okM 243 := by
  intro pc hp
  have hl : z_cl 243 = 145 := by decide +kernel
  rw [hl] at hp
  by_cases h0 : pc < 100
  · exact z_chkR_at z_m243_0 (by omega) (by omega)
  exact z_chkR_at z_m243_1 (by omega) (by omega)
theorem z_m244 : z_okM 244 := z_okM1 (n := 29) (by decide +kernel) (by decide +kernel)
theorem z_m245_0 : z_chkR 245 0 100 = true := by decide +kernel
theorem z_m245_1 : z_chkR 245 100 97 = true := by decide +kernel
theorem z_m245 : z_okM 245 := by
  intro pc hp
  have hl : z_cl 245 = 197 := by decide +kernel
  rw [hl] at hp
  by_cases h0 : pc < 100
  · exact z_chkR_at z_m245_0 (by omega) (by omega)
  exact z_chkR_at z_m245_1 (by omega) (by omega)
theorem z_m246 : z_okM 246 := z_okM1 (n := 48) (by decide +kernel) (by decide +kernel)
theorem z_m247_0 : z_chkR 247 0 100 = true := by decide +kernel
theorem z_m247_1 : z_chkR 247 100 100 = true := by decide +kernel
theorem z_m247_2 : z_chkR 247 200 9 = true := by decide +kernel
theorem z_m247 : z_okM 247 := by
  intro pc hp
  have hl : z_cl 247 = 209 := by decide +kernel
  rw [hl] at hp
  by_cases h0 : pc < 100
  · exact z_chkR_at z_m247_0 (by omega) (by omega)
  by_cases h1 : pc < 200
  · exact z_chkR_at z_m247_1 (by omega) (by omega)
  exact z_chkR_at z_m247_2 (by omega) (by omega)
theorem z_m248 : z_okM 248 := z_okM1 (n := 10) (by decide +kernel) (by decide +kernel)
theorem z_m249 : z_okM 249 := z_okM1 (n := 11) (by decide +kernel) (by decide +kernel)
theorem z_m250 : z_okM 250 := z_okM1 (n := 25) (by decide +kernel) (by decide +kernel)
theorem z_m251 : z_okM 251 := z_okM1 (n := 15) (by decide +kernel) (by decide +kernel)
theorem z_m252 : z_okM 252 := z_okM1 (n := 19) (by decide +kernel) (by decide +kernel)
theorem z_m253 : z_okM 253 := z_okM1 (n := 10) (by decide +kernel) (by decide +kernel)
theorem z_m254 : z_okM 254 := z_okM1 (n := 15) (by decide +kernel) (by decide +kernel)
theorem z_m255 : z_okM 255 := z_okM1 (n := 18) (by decide +kernel) (by decide +kernel)
theorem z_m256 : z_okM 256 := z_okM1 (n := 53) (by decide +kernel) (by decide +kernel)
theorem z_m257 : z_okM 257 := z_okM1 (n := 21) (by decide +kernel) (by decide +kernel)
theorem z_m258 : z_okM 258 := z_okM1 (n := 33) (by decide +kernel) (by decide +kernel)
theorem z_m259 : z_okM 259 := z_okM1 (n := 11) (by decide +kernel) (by decide +kernel)
theorem z_m260 : z_okM 260 := z_okM1 (n := 11) (by decide +kernel) (by decide +kernel)
theorem z_m261 : z_okM 261 := z_okM1 (n := 11) (by decide +kernel) (by decide +kernel)
