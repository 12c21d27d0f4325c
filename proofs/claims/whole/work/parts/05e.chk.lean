theorem z_m144_0 : z_chkR 144 0 100 = true := by decide +kernel
theorem z_m144_1 : z_chkR 144 100 100 = true := by decide +kernel
theorem z_m144_2 : z_chkR 144 200 100 = true := by decide +kernel
theorem z_m144_3 : z_chkR 144 300 7 = true := by decide +kernel
theorem z_m144 : z_okM 144 := by
  intro pc hp
  have hl : z_cl 144 = 307 := by decide +kernel
  rw [hl] at hp
  by_cases h0 : pc < 100
  · exact z_chkR_at z_m144_0 (by omega) (by omega)
  by_cases h1 : pc < 200
  · exact z_chkR_at z_m144_1 (by omega) (by omega)
  by_cases h2 : pc < 300
  · exact z_chkR_at z_m144_2 (by omega) (by omega)
  exact z_chkR_at z_m144_3 (by omega) (by omega)
theorem z_m145 : z_okM 145 := z_okM1 (n := 19) (by decide +kernel) (by decide +kernel)
theorem z_m146 : z_okM 146 := z_okM1 (n := 15) (by decide +kernel) (by decide +kernel)
theorem z_m147 : z_okM 147 := z_okM1 (n := 26) (by decide +kernel) (by decide +kernel)
theorem z_m148 : z_okM 148 := z_okM1 (n := 11) (by decide +kernel) (by decide +kernel)
theorem z_m149 : z_okM 149 := z_okM1 (n := 30) (by decide +kernel) (by decide +kernel)
theorem z_m150 : z_okM 150 := z_okM1 (n := 7) (by decide +kernel) (by decide +kernel)
theorem z_m151 : z_okM 151 := z_okM1 (n := 20) (by decide +kernel) (by decide +kernel)
theorem z_m152 : z_okM 152 := z_okM1 (n := 67) (by decide +kernel) (by decide +kernel)
theorem z_m153 : z_okM 153 := z_okM1 (n := 76) (by decide +kernel) (by decide +kernel)
theorem z_m154 : z_okM 154 := z_okM1 (n := 7) (by decide +kernel) (by decide +kernel)
theorem z_m155 : z_okM 155 := z_okM1 (n := 14) (by decide +kernel) (by decide +kernel)
theorem z_m156 : z_okM 156 := z_okM1 (n := 16) (by decide +kernel) (by decide +kernel)
theorem z_m157 : z_okM 157 := z_okM1 (n := 14) (by decide +kernel) (by decide +kernel)
theorem z_m158 : z_okM 158 := z_okM1 (n := 12) (by decide +kernel) (by decide +kernel)
theorem z_m159 : z_okM 159 := z_okM1 (n := 72) (by decide +kernel) (by decide +kernel)
theorem z_m160 : z_okM 160 := z_okM1 (n := 60) (by decide +kernel) (by decide +kernel)
theorem z_m161 : z_okM 161 := z_okM1 (n := 61) (by decide +kernel) (by decide +kernel)
theorem z_m162 : z_okM 162 := z_okM1 (n := 50) (by decide +kernel) (by decide +kernel)
theorem z_m163 : z_okM 163 := z_okM1 (n := 52) (by decide +kernel) (by decide +kernel)
theorem z_m164 : z_okM 164 := z_okM1 (n := 39) (by decide +kernel) (by decide +kernel)
theorem z_m165 : z_okM 165 := z_okM1 (n := 89) (by decide +kernel) (by decide +kernel)
theorem z_m166 : z_okM 166 := z_okM1 (n := 50) (by decide +kernel) (by decide +kernel)
theorem z_m167 : z_okM 167 := z_okM1 (n := 66) (by decide +kernel) (by decide +kernel)
theorem z_m168_0 : z_chkR 168 0 100 = true := by decide +kernel
theorem z_m168_1 : z_chkR 168 100 65 = true := by decide +kernel
theorem z_m168 : z_okM 168 := by
  intro pc hp
  have hl : z_cl 168 = 165 := by decide +kernel
  rw [hl] at hp
  by_cases h0 : pc < 100
  · exact z_chkR_at z_m168_0 (by omega) (by omega)
  exact z_chkR_at z_m168_1 (by omega) (by omega)
theorem z_m169 : z_okM 169 := z_okM1 (n := 10) (by decide +kernel) (by decide +kernel)
theorem z_m170 : z_okM 170 := z_okM1 (n := 40) (by decide +kernel) (by decide +kernel)
theorem z_m171 : z_okM 171 := z_okM1 (n := 52) (by decide +kernel) (by decide +kernel)
theorem z_m172 : z_okM 172 := z_okM1 (n := 26) (by decide +kernel) (by decide +kernel)
theorem z_m173 : z_okM 173 := z_okM1 (n := 18) (by decide +kernel) (by decide +kernel)
theorem z_m174 : z_okM 174 := z_okM1 (n := 18) (by decide +kernel) (by decide +kernel)
theorem z_m175 : z_okM 175 := z_okM1 (n := 20) (by decide +kernel) (by decide +kernel)
theorem z_m176_0 : z_chkR 176 0 100 = true := by decide +kernel
theorem z_m176_1 : z_chkR 176 100 100 = true := by decide +kernel
theorem z_m176_2 : z_chkR 176 200 100 = true := by decide +kernel
theorem z_m176_3 : z_chkR 176 300 36 = true := by decide +kernel
theorem z_m176 : z_okM 176 := by
  intro pc hp
  have hl : z_cl 176 = 336 := by decide +kernel
  rw [hl] at hp
  by_cases h0 : pc < 100
  · exact z_chkR_at z_m176_0 (by omega) (by omega)
  by_cases h1 : pc < 200
  · exact z_chkR_at z_m176_1 (by omega) (by omega)
  by_cases h2 : pc < 300
  · exact z_chkR_at z_m176_2 (by omega) (by omega)
  exact z_chkR_at z_m176_3 (by omega) (by omega)
theorem z_m177 : z_okM 177 := z_okM1 (n := 23) (by decide +kernel) (by decide +kernel)
theorem z_m178 : z_okM 178 := z_okM1 (n := 24) (by decide +kernel) (by decide +kernel)
theorem z_m179 : z_okM 179 := z_okM1 (n := 36) (by decide +kernel) (by decide +kernel)
theorem z_m180 : z_okM 180 := z_okM1 (n := 10) (by decide +kernel) (by decide +kernel)
theorem z_m181 : z_okM 181 := z_okM1 (n := 31) (by decide +kernel) (by decide +kernel)
theorem z_m182 : z_okM 182 := z_okM1 (n := 31) (by decide +kernel) (by decide +kernel)
theorem z_m183 : z_okM 183 := z_okM1 (n := 63) (by decide +kernel) (by decide +kernel)
theorem z_m184 : z_okM 184 := z_okM1 (n := 102) (by decide +kernel) (by decide +kernel)
theorem z_m185 : z_okM 185 := z_okM1 (n := 42) (by decide +kernel) (by decide +kernel)
theorem z_m186 : z_okM 186 := z_okM1 (n := 65) (by decide +kernel) (by decide +kernel)
theorem z_m187 : z_okM 187 := z_okM1 (n := 39) (by decide +kernel) (by decide +kernel)
theorem z_m188 : z_okM 188 := z_okM1 (n := 42) (by decide +kernel) (by decide +kernel)
theorem z_m189 : z_okM 189 := z_okM1 (n := 46) (by decide +kernel) (by decide +kernel)
theorem z_m190 : z_okM 190 := z_okM1 (n := 90) (by decide +kernel) (by decide +kernel)
theorem z_m191 : z_okM 191 := z_okM1 (n := 45) (by decide +kernel) (by decide +kernel)
