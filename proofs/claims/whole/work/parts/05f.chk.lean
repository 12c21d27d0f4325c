theorem z_m192_0 : z_chkR 192 0 100 = true := by decide +kernel
theorem z_m192_1 : z_chkR 192 100 100 = true := by decide +kernel
theorem z_m192_2 : z_chkR 192 200 33 = true := by decide +kernel
theorem z_m192 : z_okM 192 := by
  intro pc hp
  have hl : z_cl 192 = 233 := by decide +kernel
  rw [hl] at hp
  by_cases h0 : pc < 100
  · exact z_chkR_at z_m192_0 (by omega) (by omega)
  by_cases h1 : pc < 200
  · exact z_chkR_at z_m192_1 (by omega) (by omega)
  exact z_chkR_at z_m192_2 (by omega) (by omega)
theorem z_m193 : z_okM 193 := z_okM1 (n := 130) (by decide +kernel) (by decide +kernel)
theorem z_m194 : z_okM 194 := z_okM1 (n := 82) (by decide +kernel) (by decide +kernel)
theorem z_m195_0 : z_chkR 195 0 100 = true := by decide +kernel
theorem z_m195_1 : z_chkR 195 100 94 = true := by decide +kernel
theorem z_m195 : z_okM 195 := by
  intro pc hp
  have hl : z_cl 195 = 194 := by decide +kernel
  rw [hl] at hp
  by_cases h0 : pc < 100
  · exact z_chkR_at z_m195_0 (by omega) (by omega)
  exact z_chkR_at z_m195_1 (by omega) (by omega)
theorem z_m196_0 : z_chkR 196 0 100 = true := by decide +kernel
theorem z_m196_1 : z_chkR 196 100 100 = true := by decide +kernel
theorem z_m196_2 : z_chkR 196 200 56 = true := by decide +kernel
theorem z_m196 : z_okM 196 := by
  intro pc hp
  have hl : z_cl 196 = 256 := by decide +kernel
  rw [hl] at hp
  by_cases h0 : pc < 100
  · exact z_chkR_at z_m196_0 (by omega) (by omega)
  by_cases h1 : pc < 200
  · exact z_chkR_at z_m196_1 (by omega) (by omega)
  exact z_chkR_at z_m196_2 (by omega) (by omega)
theorem z_m197 : z_okM 197 := z_okM1 (n := 44) (by decide +kernel) (by decide +kernel)
theorem z_m198 : z_okM 198 := z_okM1 (n := 126) (by decide +kernel) (by decide +kernel)
theorem z_m199_0 : z_chkR 199 0 100 = true := by decide +kernel
theorem z_m199_1 : z_chkR 199 100 100 = true := by decide +kernel
theorem z_m199_2 : z_chkR 199 200 64 = true := by decide +kernel
theorem z_m199 : z_okM 199 := by
  intro pc hp
  have hl : z_cl 199 = 264 := by decide +kernel
  rw [hl] at hp
  by_cases h0 : pc < 100
  · exact z_chkR_at z_m199_0 (by omega) (by omega)
  by_cases h1 : pc < 200
  · exact z_chkR_at z_m199_1 (by omega) (by omega)
  exact z_chkR_at z_m199_2 (by omega) (by omega)
theorem z_m200 : z_okM 200 := z_okM1 (n := 111) (by decide +kernel) (by decide +kernel)
theorem z_m201 : z_okM 201 := z_okM1 (n := 31) (by decide +kernel) (by decide +kernel)
theorem z_m202_0 : z_chkR 202 0 100 = true := by decide +kernel
theorem z_m202_1 : z_chkR 202 100 98 = true := by decide +kernel
theorem z_m202 : z_okM 202 := by
  intro pc hp
  have hl : z_cl 202 = 198 := by decide +kernel
  rw [hl] at hp
  by_cases h0 : pc < 100
  · exact z_chkR_at z_m202_0 (by omega) (by omega)
  exact z_chkR_at z_m202_1 (by omega) (by omega)
theorem z_m203_0 : z_chkR 203 0 100 = true := by decide +kernel
theorem z_m203_1 : z_chkR 203 100 100 = true := by decide +kernel
theorem z_m203_2 : z_chkR 203 200 42 = true := by decide +kernel
theorem z_m203 : z_okM 203 := by
  intro pc hp
  have hl : z_cl 203 = 242 := by decide +kernel
  rw [hl] at hp
  by_cases h0 : pc < 100
  · exact z_chkR_at z_m203_0 (by omega) (by omega)
  by_cases h1 : pc < 200
  · exact z_chkR_at z_m203_1 (by omega) (by omega)
  exact z_chkR_at z_m203_2 (by omega) (by omega)
theorem z_m204 : z_okM 204 := z_okM1 (n := 38) (by decide +kernel) (by decide +kernel)
theorem z_m205 : z_okM 205 := z_okM1 (n := 17) (by decide +kernel) (by decide +kernel)
theorem z_m206 : z_okM 206 := z_okM1 (n := 61) (by decide +kernel) (by decide +kernel)
theorem z_m207_0 : z_chkR 207 0 100 = true := by decide +kernel
theorem z_m207_1 : z_chkR 207 100 80 = true := by decide +kernel
theorem z_m207 : z_okM 207 := by
  intro pc hp
  have hl : z_cl 207 = 180 := by decide +kernel
  rw [hl] at hp
  by_cases h0 : pc < 100
  · exact z_chkR_at z_m207_0 (by omega) (by omega)
  exact z_chkR_at z_m207_1 (by omega) (by omega)
theorem z_m208 : z_okM 208 := z_okM1 (n := 14) (by decide +kernel) (by decide +kernel)
theorem z_m209 : z_okM 209 := z_okM1 (n := 26) (by decide +kernel) (by decide +kernel)
theorem z_m210 : z_okM 210 := z_okM1 (n := 72) (by decide +kernel) (by decide +kernel)
theorem z_m211_0 : z_chkR 211 0 100 = true := by decide +kernel
theorem z_m211_1 : z_chkR 211 100 65 = true := by decide +kernel
theorem z_m211 : z_okM 211 := by
  intro pc hp
  have hl : z_cl 211 = 165 := by decide +kernel
  rw [hl] at hp
  by_cases h0 : pc < 100
  · exact z_chkR_at z_m211_0 (by omega) (by omega)
  exact z_chkR_at z_m211_1 (by omega) (by omega)
theorem z_m212 : z_okM 212 := z_okM1 (n := 70) (by decide +kernel) (by decide +kernel)
