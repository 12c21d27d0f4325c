theorem z_m213_0 : z_chkR 213 0 100 = true := by decide +kernel
theorem z_m213_1 : z_chkR 213 100 85 = true := by decide +kernel
theorem z_m213 : z_okM 213 := by
  intro pc hp
  have hl : z_cl 213 = 185 := by decide +kernel
  rw [hl] at hp
  by_cases h0 : pc < 100
  · exact z_chkR_at z_m213_0 (by omega) (by omega)
  exact z_chkR_at z_m213_1 (by omega) (by omega)
theorem z_m214 : z_okM 214 := z_okM1 (n := 27) (by decide +kernel) (by decide +kernel)
theorem z_m215 : z_okM 215 := z_okM1 (n := 55) (by decide +kernel) (by decide +kernel)
theorem z_m216 : z_okM 216 := z_okM1 (n := 55) (by decide +kernel) (by decide +kernel)
theorem z_m217 : z_okM 217 := z_okM1 (n := 55) (by decide +kernel) (by decide +kernel)
theorem z_m218 : z_okM 218 := z_okM1 (n := 55) (by decide +kernel) (by decide +kernel)
theorem z_m219 : z_okM 219 := z_okM1 (n := 90) (by decide +kernel) (by decide +kernel)
theorem z_m220 : z_okM 220 := z_okM1 (n := 84) (by decide +kernel) (by decide +kernel)
theorem z_m221 : z_okM 221 := z_okM1 (n := 30) (by decide +kernel) (by decide +kernel)
theorem z_m222 : z_okM 222 := z_okM1 (n := 44) (by decide +kernel) (by decide +kernel)
theorem z_m223_0 : z_chkR 223 0 100 = true := by decide +kernel
theorem z_m223_1 : z_chkR 223 100 76 = true := by decide +kernel
theorem z_m223 : z_okM 223 := by
  intro pc hp
  have hl : z_cl 223 = 176 := by decide +kernel
  rw [hl] at hp
  by_cases h0 : pc < 100
  · exact z_chkR_at z_m223_0 (by omega) (by omega)
  exact z_chkR_at z_m223_1 (by omega) (by omega)
theorem z_m224 : z_okM 224 := z_okM1 (n := 75) (by decide +kernel) (by decide +kernel)
theorem z_m225 : z_okM 225 := z_okM1 (n := 12) (by decide +kernel) (by decide +kernel)
theorem z_m226 : z_okM 226 := z_okM1 (n := 54) (by decide +kernel) (by decide +kernel)
theorem z_m227 : z_okM 227 := z_okM1 (n := 53) (by decide +kernel) (by decide +kernel)
theorem z_m228 : z_okM 228 := z_okM1 (n := 49) (by decide +kernel) (by decide +kernel)
theorem z_m229 : z_okM 229 := z_okM1 (n := 36) (by decide +kernel) (by decide +kernel)
theorem z_m230 : z_okM 230 := z_okM1 (n := 104) (by decide +kernel) (by decide +kernel)
theorem z_m231 : z_okM 231 := z_okM1 (n := 27) (by decide +kernel) (by decide +kernel)
theorem z_m232 : z_okM 232 := z_okM1 (n := 111) (by decide +kernel) (by decide +kernel)
theorem z_m233_0 : z_chkR 233 0 100 = true := by decide +kernel
theorem z_m233_1 : z_chkR 233 100 73 = true := by decide +kernel
theorem z_m233 : z_okM 233 := by
  intro pc hp
  have hl : z_cl 233 = 173 := by decide +kernel
  rw [hl] at hp
  by_cases h0 : pc < 100
  · exact z_chkR_at z_m233_0 (by omega) (by omega)
  exact z_chkR_at z_m233_1 (by omega) (by omega)
theorem z_m234 : z_okM 234 := z_okM1 (n := 76) (by decide +kernel) (by decide +kernel)
theorem z_m235 : z_okM 235 := z_okM1 (n := 82) (by decide +kernel) (by decide +kernel)
theorem z_m236_0 : z_chkR 236 0 100 = true := by decide +kernel
theorem z_m236_1 : z_chkR 236 100 100 = true := by decide +kernel
theorem z_m236_2 : z_chkR 236 200 29 = true := by decide +kernel
theorem z_m236 : z_okM 236 := by
  intro pc hp
  have hl : z_cl 236 = 229 := by decide +kernel
  rw [hl] at hp
  by_cases h0 : pc < 100
  · exact z_chkR_at z_m236_0 (by omega) (by omega)
  by_cases h1 : pc < 200
  · exact z_chkR_at z_m236_1 (by omega) (by omega)
  exact z_chkR_at z_m236_2 (by omega) (by omega)
theorem z_m237_0 : z_chkR 237 0 100 = true := by decide +kernel
theorem z_m237_1 : z_chkR 237 100 83 = true := by decide +kernel
theorem z_m237 : z_okM 237 := by
  intro pc hp
  have hl : z_cl 237 = 183 := by decide +kernel
  rw [hl] at hp
  by_cases h0 : pc < 100
  · exact z_chkR_at z_m237_0 (by omega) (by omega)
  exact z_chkR_at z_m237_1 (by omega) (by omega)
theorem z_m238_0 : z_chkR 238 0 100 = true := by decide +kernel
theorem z_m238_1 : z_chkR 238 100 100 = true := by decide +kernel
theorem z_m238_2 : z_chkR 238 200 100 = true := by decide +kernel
theorem z_m238_3 : z_chkR 238 300 29 = true := by decide +kernel
theorem z_m238 : z_okM 238 := by
  intro pc hp
  have hl : z_cl 238 = 329 := by decide +kernel
  rw [hl] at hp
  by_cases h0 : pc < 100
  · exact z_chkR_at z_m238_0 (by omega) (by omega)
  by_cases h1 : pc < 200
  · exact z_chkR_at z_m238_1 (by omega) (by omega)
  by_cases h2 : pc < 300
  · exact z_chkR_at z_m238_2 (by omega) (by omega)
  exact z_chkR_at z_m238_3 (by omega) (by omega)
