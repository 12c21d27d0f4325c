def z_codec (j : Nat) : Bool := Nat.beq j 0 || (decide (lw_tbl.getD (z_cp j) .tt = Cond.code (z_my j) (z_by j) (z_ml j) (z_rt j)) && Nat.blt (z_cp j) 1796 && goodWord (lw_tbl.getD (z_cp j) .tt) && decide (lw_tbl.getD (z_ip j) .tt = Cond.initialized (z_my j).cls) && Nat.blt (z_ip j) 1796)
theorem z_codeR {lo n j : Nat} (h : (List.range n).all (fun k => z_codec (lo + k)) = true) (h1 : lo ≤ j) (h2 : j < lo + n) : z_codec j = true := by
  have := List.all_eq_true.mp h (j - lo) (List.mem_range.mpr (by omega))
  rwa [Nat.add_sub_cancel' h1] at this
theorem z_cd_0 : (List.range 10).all (fun k => z_codec (0 + k)) = true := by decide +kernel
theorem z_cd_1 : (List.range 10).all (fun k => z_codec (10 + k)) = true := by decide +kernel
theorem z_cd_2 : (List.range 10).all (fun k => z_codec (20 + k)) = true := by decide +kernel
theorem z_cd_3 : (List.range 10).all (fun k => z_codec (30 + k)) = true := by decide +kernel
theorem z_cd_4 : (List.range 10).all (fun k => z_codec (40 + k)) = true := by decide +kernel
theorem z_cd_5 : (List.range 10).all (fun k => z_codec (50 + k)) = true := by decide +kernel
theorem z_cd_6 : (List.range 10).all (fun k => z_codec (60 + k)) = true := by decide +kernel
theorem z_cd_7 : (List.range 10).all (fun k => z_codec (70 + k)) = true := by decide +kernel
theorem z_cd_8 : (List.range 10).all (fun k => z_codec (80 + k)) = true := by decide +kernel
theorem z_cd_9 : (List.range 10).all (fun k => z_codec (90 + k)) = true := by decide +kernel
theorem z_cd_10 : (List.range 10).all (fun k => z_codec (100 + k)) = true := by decide +kernel
theorem z_cd_11 : (List.range 10).all (fun k => z_codec (110 + k)) = true := by decide +kernel
theorem z_cd_12 : (List.range 10).all (fun k => z_codec (120 + k)) = true := by decide +kernel
theorem z_cd_13 : (List.range 10).all (fun k => z_codec (130 + k)) = true := by decide +kernel
theorem z_cd_14 : (List.range 10).all (fun k => z_codec (140 + k)) = true := by decide +kernel
theorem z_cd_15 : (List.range 10).all (fun k => z_codec (150 + k)) = true := by decide +kernel
theorem z_cd_16 : (List.range 10).all (fun k => z_codec (160 + k)) = true := by decide +kernel
theorem z_cd_17 : (List.range 10).all (fun k => z_codec (170 + k)) = true := by decide +kernel
theorem z_cd_18 : (List.range 10).all (fun k => z_codec (180 + k)) = true := by decide +kernel
theorem z_cd_19 : (List.range 10).all (fun k => z_codec (190 + k)) = true := by decide +kernel
theorem z_cd_20 : (List.range 10).all (fun k => z_codec (200 + k)) = true := by decide +kernel
theorem z_cd_21 : (List.range 10).all (fun k => z_codec (210 + k)) = true := by decide +kernel
theorem z_cd_22 : (List.range 10).all (fun k => z_codec (220 + k)) = true := by decide +kernel
theorem z_cd_23 : (List.range 10).all (fun k => z_codec (230 + k)) = true := by decide +kernel
theorem z_cd_24 : (List.range 10).all (fun k => z_codec (240 + k)) = true := by decide +kernel
theorem z_cd_25 : (List.range 10).all (fun k => z_codec (250 + k)) = true := by decide +kernel
theorem z_cd_26 : (List.range 2).all (fun k => z_codec (260 + k)) = true := by decide +kernel
theorem z_codes (j : Nat) (hj : j < z_NM) : z_codec j = true := by
  have hj : j < 262 := hj
  by_cases h0 : j < 10
  · exact z_codeR z_cd_0 (by omega) (by omega)
  by_cases h1 : j < 20
  · exact z_codeR z_cd_1 (by omega) (by omega)
  by_cases h2 : j < 30
  · exact z_codeR z_cd_2 (by omega) (by omega)
  by_cases h3 : j < 40
  · exact z_codeR z_cd_3 (by omega) (by omega)
  by_cases h4 : j < 50
  · exact z_codeR z_cd_4 (by omega) (by omega)
  by_cases h5 : j < 60
  · exact z_codeR z_cd_5 (by omega) (by omega)
  by_cases h6 : j < 70
  · exact z_codeR z_cd_6 (by omega) (by omega)
  by_cases h7 : j < 80
  · exact z_codeR z_cd_7 (by omega) (by omega)
  by_cases h8 : j < 90
  · exact z_codeR z_cd_8 (by omega) (by omega)
  by_cases h9 : j < 100
  · exact z_codeR z_cd_9 (by omega) (by omega)
  by_cases h10 : j < 110
  · exact z_codeR z_cd_10 (by omega) (by omega)
  by_cases h11 : j < 120
  · exact z_codeR z_cd_11 (by omega) (by omega)
  by_cases h12 : j < 130
  · exact z_codeR z_cd_12 (by omega) (by omega)
  by_cases h13 : j < 140
  · exact z_codeR z_cd_13 (by omega) (by omega)
  by_cases h14 : j < 150
  · exact z_codeR z_cd_14 (by omega) (by omega)
  by_cases h15 : j < 160
  · exact z_codeR z_cd_15 (by omega) (by omega)
  by_cases h16 : j < 170
  · exact z_codeR z_cd_16 (by omega) (by omega)
  by_cases h17 : j < 180
  · exact z_codeR z_cd_17 (by omega) (by omega)
  by_cases h18 : j < 190
  · exact z_codeR z_cd_18 (by omega) (by omega)
  by_cases h19 : j < 200
  · exact z_codeR z_cd_19 (by omega) (by omega)
  by_cases h20 : j < 210
  · exact z_codeR z_cd_20 (by omega) (by omega)
  by_cases h21 : j < 220
  · exact z_codeR z_cd_21 (by omega) (by omega)
  by_cases h22 : j < 230
  · exact z_codeR z_cd_22 (by omega) (by omega)
  by_cases h23 : j < 240
  · exact z_codeR z_cd_23 (by omega) (by omega)
  by_cases h24 : j < 250
  · exact z_codeR z_cd_24 (by omega) (by omega)
  by_cases h25 : j < 260
  · exact z_codeR z_cd_25 (by omega) (by omega)
  exact z_codeR z_cd_26 (by omega) (by omega)
