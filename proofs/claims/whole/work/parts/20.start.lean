/-! the start: what lies there when the law begins -/
def z_sl : List Nat := [5, 4, 2, 2, 3, 3, 6, 5, 5, 5, 6, 6, 4, 4]
def z_sb : List (List Int32) := [[98, 101, 97, 114, 115], [98, 97, 114, 115], [105, 102], [111, 114], [97, 110, 100], [110, 111, 116], [114, 101, 97, 100, 101, 114], [116, 114, 101, 97, 100], [116, 104, 105, 99, 107], [108, 101, 118, 101, 108], [119, 101, 105, 103, 104, 116], [115, 116, 114, 105, 100, 101], [104, 111, 117, 114], [100, 117, 115, 116]]
def z_stt : List (List Int32) := [[1, 1, 0, 0], [9, 99, 9, 1], [40, 99], [23, 9], [0, 1, 2, 3, 4, 5, 6, 7, 8, 9, 10, 11]]
/-- the byte or int at slot k of the row at cell a, below 36 -/
def z_rw (a k : Nat) : Int32 := if a < 7 then (z_stt.getD (a - 2) []).getD k 0 else (z_sb.getD (a - 22) []).getD k 0
def z_VS (a k : Nat) : Int := if 2 ≤ a ∧ a < 7 then (z_rw a k).toInt else if 22 ≤ a ∧ a < 36 then (z_rw a k).toInt else if 8 ≤ a ∧ a < 22 ∧ k = 0 then ((a + 14 : Nat) : Int) else 0
def z_V0 (L : Nat) (xs : Nat → Int32) : z_M := fun a k => if a = 0 then (if k = 0 then 36 else if k = 1 then (L : Int) else 0) else if a = 1 then (if k < L then (xs k).toInt else 0) else z_VS a k
def z_stm (a : Nat) : Term := .static "FolioStair" (z_sn a) "[I"
def z_tm (i : Nat) : Term := .string "FolioStair$LawReader" (z_si i)
def z_fl0 : List Cond := flatC (Jvm.Cond.and given_1 narrow_1)
def z_sw1 (i : Nat) : List Cond := [.exactly (z_tm i) "java/lang/String", .eq (.field (z_tm i) "java/lang/String" "coder" "B") (.int 0), .arrayOf (.field (z_tm i) "java/lang/String" "value" "[B") .byte, .eq (.length (.field (z_tm i) "java/lang/String" "value" "[B")) (.int (Int32.ofNat (z_sl.getD i 0)))]
def z_sw2 (i : Nat) : List Cond := (List.range (z_sl.getD i 0)).map (fun j => Cond.eq (.elem (.field (z_tm i) "java/lang/String" "value" "[B") (.int (Int32.ofNat j))) (.int ((z_sb.getD i []).getD j 0)))
def z_aw1 (a : Nat) : List Cond := [.arrayOf (z_stm a) .int, .eq (.length (z_stm a)) (.int (Int32.ofNat (z_stt.getD (a - 2) []).length))]
def z_aw2 (a : Nat) : List Cond := (List.range (z_stt.getD (a - 2) []).length).map (fun j => Cond.eq (.elem (z_stm a) (.int (Int32.ofNat j))) (.int ((z_stt.getD (a - 2) []).getD j 0)))
def z_mx (big l : List Cond) (ix : List Nat) : Bool := decide (l.map some = ix.map (fun q => big[q]?))
theorem z_mx_at {big l : List Cond} {ix : List Nat} (h : z_mx big l ix = true) {w : Cond} (hw : w ∈ l) : w ∈ big := by
  have h1 : some w ∈ ix.map (fun q => big[q]?) := by rw [← of_decide_eq_true h]; exact List.mem_map.mpr ⟨w, hw, rfl⟩
  obtain ⟨q, -, hq⟩ := List.mem_map.mp h1
  exact List.mem_of_getElem? hq
def z_ix1 : List (List Nat) := [[74, 75, 76, 77], [83, 84, 85, 86], [209, 210, 211, 212], [262, 263, 264, 265], [243, 244, 245, 246], [225, 226, 227, 228], [92, 93, 94, 95], [104, 105, 106, 107], [116, 117, 118, 119], [129, 130, 131, 132], [143, 144, 145, 146], [159, 160, 161, 162], [176, 177, 178, 179], [192, 193, 194, 195]]
def z_ix2 : List (List Nat) := [[78, 79, 80, 81, 82], [87, 88, 89, 90], [213, 214], [266, 267], [247, 248, 249], [229, 230, 231], [96, 97, 98, 99, 100, 101], [108, 109, 110, 111, 112], [120, 121, 122, 123, 124], [133, 134, 135, 136, 137], [147, 148, 149, 150, 151, 152], [163, 164, 165, 166, 167, 168], [180, 181, 182, 183], [196, 197, 198, 199]]
def z_ix3 : List (List Nat) := [[5, 6], [12, 13], [19, 20], [24, 25], [34, 35]]
def z_ix3b : List (List Nat) := [[7, 8, 9, 10], [14, 15, 16, 17], [21, 22], [26, 27], [36, 37, 38, 39, 40, 41, 42, 43, 44, 45, 46, 47]]
def z_ix4 : List (Nat × Nat × Nat) := [(0, 1, 91), (0, 2, 215), (0, 3, 268), (0, 4, 250), (0, 5, 232), (0, 6, 102), (0, 7, 113), (0, 8, 125), (0, 9, 138), (0, 10, 153), (0, 11, 169), (0, 12, 184), (0, 13, 200), (1, 2, 216), (1, 3, 269), (1, 4, 251), (1, 5, 233), (1, 6, 103), (1, 7, 114), (1, 8, 126), (1, 9, 139), (1, 10, 154), (1, 11, 170), (1, 12, 185), (1, 13, 201), (2, 3, 278), (2, 4, 260), (2, 5, 242), (6, 2, 217), (7, 2, 218), (8, 2, 219), (9, 2, 220), (10, 2, 221), (11, 2, 222), (12, 2, 223), (13, 2, 224), (4, 3, 280), (5, 3, 279), (6, 3, 270), (7, 3, 271), (8, 3, 272), (9, 3, 273), (10, 3, 274), (11, 3, 275), (12, 3, 276), (13, 3, 277), (5, 4, 261), (6, 4, 252), (7, 4, 253), (8, 4, 254), (9, 4, 255), (10, 4, 256), (11, 4, 257), (12, 4, 258), (13, 4, 259), (6, 5, 234), (7, 5, 235), (8, 5, 236), (9, 5, 237), (10, 5, 238), (11, 5, 239), (12, 5, 240), (13, 5, 241), (6, 7, 115), (6, 8, 127), (6, 9, 140), (6, 10, 155), (6, 11, 171), (6, 12, 186), (6, 13, 202), (7, 8, 128), (7, 9, 141), (7, 10, 156), (7, 11, 172), (7, 12, 187), (7, 13, 203), (8, 9, 142), (8, 10, 157), (8, 11, 173), (8, 12, 188), (8, 13, 204), (9, 10, 158), (9, 11, 174), (9, 12, 189), (9, 13, 205), (10, 11, 175), (10, 12, 190), (10, 13, 206), (11, 12, 191), (11, 13, 207), (12, 13, 208)]
theorem z_in1 : ((List.range 14).all fun i => z_mx z_fl0 (z_sw1 i) (z_ix1.getD i [])) = true := by decide +kernel
theorem z_in2 : ((List.range 14).all fun i => z_mx z_fl0 (z_sw2 i) (z_ix2.getD i [])) = true := by decide +kernel
theorem z_in3 : ((List.range 5).all fun i => z_mx z_fl0 (z_aw1 (i + 2)) (z_ix3.getD i []) && z_mx z_fl0 (z_aw2 (i + 2)) (z_ix3b.getD i [])) = true := by decide +kernel
theorem z_in4 : z_mx z_fl0 (z_ix4.map fun t => Cond.not (.eq (z_tm t.1) (z_tm t.2.1))) (z_ix4.map fun t => t.2.2) = true := by decide +kernel
theorem z_in4a : ∀ i, i < 14 → ∀ j, j < 14 → i ≠ j → z_ix4.any (fun t => (Nat.beq t.1 i && Nat.beq t.2.1 j) || (Nat.beq t.1 j && Nat.beq t.2.1 i)) = true := by decide +kernel
theorem z_in4b {i j : Nat} (hi : i < 14) (hj : j < 14) (h : i ≠ j) : Cond.not (.eq (z_tm i) (z_tm j)) ∈ z_fl0 ∨ Cond.not (.eq (z_tm j) (z_tm i)) ∈ z_fl0 := by
  obtain ⟨t, ht, hq⟩ := List.any_eq_true.mp (z_in4a i hi j hj h)
  have hm := z_mx_at z_in4 (List.mem_map.mpr ⟨t, ht, rfl⟩)
  simp only [Bool.or_eq_true, Bool.and_eq_true] at hq
  rcases hq with ⟨a, b⟩ | ⟨a, b⟩
  · rw [Nat.eq_of_beq_eq_true a, Nat.eq_of_beq_eq_true b] at hm; exact Or.inl hm
  · rw [Nat.eq_of_beq_eq_true a, Nat.eq_of_beq_eq_true b] at hm; exact Or.inr hm
theorem z_in5 : Cond.eq (.static "java/lang/String" "COMPACT_STRINGS" "Z") (.int 1) ∈ z_fl0 ∧ Cond.isRef (.static "jdk/internal/util/Preconditions" "SIOOBE_FORMATTER" "Ljava/util/function/BiFunction;") ∈ z_fl0 := ⟨List.mem_of_getElem? (i := 28) (by decide +kernel), List.mem_of_getElem? (i := 29) (by decide +kernel)⟩
theorem z_in6 : z_mx lw_tbl ((List.range 13).map fun c => Cond.instantiable (z_cn c) (z_nf c)) [399, 341, 422, 268, 740, 230, 360, 297, 366, 212, 134, 126, 1176] = true := by decide +kernel
theorem z_in7 : z_mx lw_tbl ((List.range 14).map fun i => Cond.stringRef "FolioStair$LawReader" (z_si i) (z_sx i)) [616, 669, 715, 738, 737, 728, 703, 704, 705, 706, 707, 708, 709, 710] = true := by decide +kernel
theorem z_in8 : z_mx lw_tbl (([0, 2, 3, 4, 5, 6, 7] : List Nat).flatMap fun x => [Cond.laysStatic (z_sc x) (z_sn x) (z_sd x), Cond.initialized (z_sc x)]) [630, 117, 500, 104, 502, 104, 547, 104, 565, 104, 835, 104, 646, 119] = true := by decide +kernel
theorem z_in9 : z_mx lw_tbl [Cond.arrayOver (.array .int), Cond.arrayOver (.object "FolioStair$Law"), Cond.arrayOver (.object "FolioStair$Told")] [140, 142, 210] = true := by decide +kernel
/-- a row of ints or bytes that lies there -/
def z_Ar (s : State) (ty : FieldType) (n : Nat) (f : Nat → Int32) (t : Nat) : Prop := ∃ cell : Cell, s.heap[t]? = some cell ∧ s.isArrayOf cell ty ∧ cell.vm ≠ .unknown ∧ n ≤ cell.slots.size ∧ cell.slots.size.toInt32 = Int32.ofNat n ∧ ∀ j, j < n → cell.slots[j]? = some (.int (f j))
theorem z_Ar_of {s : State} {ty : FieldType} {t N : Nat} {f : Nat → Int32} {A : Nat → Prop} (h : va_T ty t N (fun j => .int (f j)) A s s.heap) : z_Ar s ty N f t := by
  obtain ⟨cell, h1, h2, h3, h4, h5, h6, -⟩ := h
  exact ⟨cell, h1, h2, h3, h4, h5, h6⟩
theorem z_Ar_X {s : State} {b L : Nat} {xs : Nat → Int32} (h : va_X b L xs s s.heap) : z_Ar s .int L xs b := by
  obtain ⟨cell, h1, h2, h3, h4, h5⟩ := h
  exact ⟨cell, h1, h2, h3, Nat.le_of_eq h4.symm, by rw [h4], h5⟩
