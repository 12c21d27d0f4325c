/-! stores and makings in the picture -/
theorem z_up_s (V : z_M) (a k : Nat) (v : Int) : z_up V a k v a k = v := by unfold z_up; rw [if_pos rfl, if_pos rfl]
theorem z_up_r {V : z_M} {a k : Nat} {v : Int} {b j : Nat} (h : ¬ b = a) : z_up V a k v b j = V b j := by unfold z_up; rw [if_neg h]
theorem z_up_k {V : z_M} {a k : Nat} {v : Int} {b j : Nat} (h : ¬ j = k) : z_up V a k v b j = V b j := by
  unfold z_up
  by_cases q : b = a
  · rw [if_pos q, if_neg h]
  · rw [if_neg q]
theorem z_ad_hi {w : z_Wd} {a : Nat} (h : 36 ≤ a) : z_ad w a = z_base w + (a - 36) := by unfold z_ad; rw [if_neg (by omega)]
theorem z_ad_lo {w : z_Wd} (hw : z_WV w) {a : Nat} (h0 : 0 < a) (h : a < 36) (h7 : ¬ a = 7) : z_ad w a < z_base w := by unfold z_ad; rw [if_pos h]; exact hw.1 a h0 h h7
theorem z_ad_ne {w : z_Wd} (hw : z_WV w) {a b : Nat} (ha : 36 ≤ a) (hb : 0 < b) (h7 : ¬ b = 7) (h : ¬ b = a) : z_ad w b ≠ z_ad w a := by
  rw [z_ad_hi ha]
  by_cases q : b < 36
  · have := z_ad_lo hw hb q h7
    omega
  · rw [z_ad_hi (by omega)]
    omega
theorem z_rv_hi {w : z_Wd} {a : Nat} (h : 0 < a) (h7 : ¬ a = 7) : z_rv w a = .ref (z_ad w a) := by unfold z_rv; rw [if_neg (by omega), if_neg h7]
theorem z_kd_pos {a : Nat} (h : ¬ z_kd a = 0) (h2 : ¬ z_kd a = 99) : 0 < a ∧ ¬ a = 7 := by
  refine ⟨?_, ?_⟩
  · rcases Nat.eq_zero_or_pos a with q | q
    · subst q; exact absurd (by decide +kernel) h
    · exact q
  · intro q; subst q; exact absurd (by decide +kernel) h2
theorem z_nS_up {V : z_M} {a k : Nat} {v : Int} (ha : ¬ a = 0) (b : Nat) : z_nS (z_up V a k v) b = z_nS V b := by
  unfold z_nS z_len'
  rw [z_up_r (fun q => ha q.symm)]
theorem z_oks_mono {V V' : z_M} (h : V 0 0 ≤ V' 0 0) {ty : FieldType} {z : Int} (hz : z_oks V ty z) : z_oks V' ty z := by
  cases ty <;> first | exact hz | exact ⟨hz.1, Int.lt_of_lt_of_le hz.2 h⟩
theorem z_okv_mono {V V' : z_M} (h : V 0 0 ≤ V' 0 0) {v : z_V} (hz : z_okv V v) : z_okv V' v := by
  rcases v with a | a | a
  · exact hz
  · exact hz
  · exact Int.lt_of_lt_of_le hz h
theorem z_rd_row {V V' : z_M} {a k : Nat} (h : V' a k = V a k) (ty : FieldType) : z_rd false ty V' a k = z_rd false ty V a k := by
  cases ty <;> simp [z_rd, z_rr, h]
def z_layw : List (Nat × Nat) := (List.range 13).flatMap (fun c => (List.range (z_nf c)).map (fun k => (c, k)))
def z_layp : List Nat := [412, 414, 416, 418, 350, 352, 354, 356, 433, 435, 437, 280, 282, 284, 286, 288, 290, 292, 765, 767, 769, 246, 248, 250, 252, 254, 256, 258, 260, 262, 264, 393, 395, 319, 321, 323, 325, 327, 329, 331, 333, 335, 337, 379, 381, 383, 385, 387, 223, 225, 182, 184, 186, 188, 190, 192, 194, 196, 198, 200, 202, 204, 206, 456, 458, 460, 462, 464, 466, 468, 470, 472, 474, 476, 478, 480, 482, 484, 486, 1246, 1248, 1250, 1252, 1254, 1256, 1258, 1260, 1262, 1264, 1266, 1268, 1270, 1272, 1274, 1276, 1278, 1280, 1282, 1284, 1286, 1288, 1290, 1292, 1294, 1296, 1298, 1300, 1302, 1304, 1306, 1308, 1310, 1312, 1314, 1316, 1318, 1320, 1322, 1324, 1326, 1328, 1330, 1332, 1334, 1336, 1338, 1340, 1342, 1344, 1346, 1348, 1350, 1352, 1354, 1356]
theorem z_lay_ok : z_layw.map (fun q => u_lay (z_cn q.1) (z_T q.1) q.2) = z_layp.map (fun q => lw_tbl.getD q .tt) ∧ z_layp.all (fun q => Nat.blt q 1796 && z_ok (lw_tbl.getD q .tt)) = true := by decide +kernel
theorem z_tbl_len : lw_tbl.length = 1796 := by decide +kernel
theorem z_tbl_at {q : Nat} (h : q < 1796) : lw_tbl.getD q .tt ∈ lw_tbl := by
  have hl : q < lw_tbl.length := by rw [z_tbl_len]; exact h
  rw [List.getD_eq_getElem?_getD, List.getElem?_eq_getElem hl]
  exact List.getElem_mem hl
theorem z_lays {c k : Nat} (hc : c < 13) (hk : k < z_nf c) : u_lay (z_cn c) (z_T c) k ∈ lw_tbl ∧ z_ok (u_lay (z_cn c) (z_T c) k) = true := by
  have h1 : (c, k) ∈ z_layw := List.mem_flatMap.mpr ⟨c, List.mem_range.mpr hc, List.mem_map.mpr ⟨k, List.mem_range.mpr hk, rfl⟩⟩
  have h2 : u_lay (z_cn c) (z_T c) k ∈ z_layw.map (fun q => u_lay (z_cn q.1) (z_T q.1) q.2) := List.mem_map.mpr ⟨_, h1, rfl⟩
  rw [z_lay_ok.1] at h2
  obtain ⟨q, hq, e⟩ := List.mem_map.mp h2
  have h3 := List.all_eq_true.mp z_lay_ok.2 q hq
  simp only [Bool.and_eq_true] at h3
  rw [← e]
  exact ⟨z_tbl_at ((Nat.blt_eq).mp h3.1), h3.2⟩
/-- what a program decides of the fields: the declarer, the types, the names apart -/
theorem z_Tok : ∀ c, c < 14 → ∀ k, k < z_nf c → (z_T c k).1 = z_cn c ∧ parseFieldDescriptor (z_T c k).2.2.1 = some (z_Y c k) ∧ ∀ j, j < z_nf c → j ≠ k → (z_T c j).2.1 ≠ (z_T c k).2.1 := by decide +kernel
theorem z_lay2 {w : z_Wd} {s : State} (hT : z_TB w s) {c k : Nat} (hc : c < 13) (hk : k < z_nf c) : (Cond.lays (z_cn c) (z_T c k).1 (z_T c k).2.1 (z_T c k).2.2.1).before #[] s = true ∨ (Cond.laysFinal (z_cn c) (z_T c k).1 (z_T c k).2.1 (z_T c k).2.2.1).before #[] s = true := by
  have h := hT.1 _ (z_lays hc hk).1 (z_lays hc hk).2
  unfold u_lay at h
  split at h
  · exact Or.inr h
  · exact Or.inl h
theorem z_fld {w : z_Wd} {s : State} (hT : z_TB w s) {c k : Nat} (hc : c < 14) (hk : k < z_nf c) : ∃ (cf : ClassId) (kf : Class) (fi : Nat) (f : Field), s.fieldFound? (z_cn c) (z_T c k).2.1 (z_T c k).2.2.1 = some (cf, kf, fi, f) ∧ f.isStatic = false ∧ f.slot = z_dI w c k := by
  by_cases h : c < 13
  · obtain ⟨hS, hfc, kC, hkC, hkind⟩ := hT.2.1 c h
    obtain ⟨cf, kf, fi, f, hi, hsl⟩ := hS k hk
    rw [(z_Tok c hc k hk).1] at hi
    have hl := z_lay2 hT h hk
    rw [(z_Tok c hc k hk).1] at hl
    exact ⟨cf, kf, fi, f, hi, (u_facts hfc hkC hl hi).1, hsl⟩
  · have e : c = 13 := by omega
    subst e
    exact hT.2.2.2.2.2.2 k hk
theorem z_apart {w : z_Wd} {s : State} (hT : z_TB w s) {c : Nat} (hc : c < 13) : ∀ x y, x < z_nf c → y < z_nf c → x ≠ y → z_dI w c x ≠ z_dI w c y := by
  intro x y hx hy hne
  obtain ⟨hS, hfc, kC, hkC, hkind⟩ := hT.2.1 c hc
  obtain ⟨_, _, _, fa, hia, ea⟩ := hS x hx
  obtain ⟨_, _, _, fb, hib, eb⟩ := hS y hy
  rw [← ea, ← eb]
  refine u_apart (z_lay2 hT hc hx) (z_lay2 hT hc hy) hia hib ?_
  rw [(State.fieldFound?_type hia (z_Tok c (by omega) x hx).2.1).1, (State.fieldFound?_type hib (z_Tok c (by omega) y hy).2.1).1]
  exact (z_Tok c (by omega) y hy).2.2 x hx hne
theorem z_HR.put {w : z_Wd} (hw : z_WV w) {s : State} (hT : z_TB w s) {md : Bool} {V : z_M} {H H' : Heap} (h : z_HR w md V H) {a k : Nat} {z : Int} (ha : 36 ≤ a) (han : (a : Int) < V 0 0) (hk : k < z_nS V a) (hkd : 101 ≤ z_kd a ∨ (0 < z_kd a ∧ z_kd a ≤ 13)) (hz : z_oks V (z_sty a k) z) (hrf : md = true → z_rf a k = 0)
    {cell : Cell} (hc : H[z_ad w a]? = some cell) (h1 : H'[z_ad w a]? = some (cell.setSlot (z_sm w a k) (z_enc w (z_rd false (z_sty a k) (z_up V a k z) a k)))) (h2 : H'.size = H.size) (h3 : ∀ q : Nat, q ≠ z_ad w a → H'[q]? = H[q]?) : z_HR w md (z_up V a k z) H' := by
  obtain ⟨g1, g2, g3, g4, g5, g6⟩ := h
  have e0 : ∀ j, z_up V a k z 0 j = V 0 j := fun j => z_up_r (by omega)
  have hlen : ∀ b, z_len' (z_up V a k z) b = z_len' V b := fun b => by unfold z_len'; rw [e0]
  refine ⟨by rw [e0]; exact g1, by rw [e0, h2]; exact g2, fun b hb hbn h7 => ?_, fun b hbn j => ?_, fun b hb hbn hkb => ?_, fun hm b j hr => ?_⟩
  · rw [e0] at hbn
    obtain ⟨cb, q1, q2, q3, q4, q5, q6, q7⟩ := g3 b hb hbn h7
    by_cases hba : b = a
    · subst hba
      cases hc.symm.trans q1
      refine ⟨_, h1, q2, q3, q4, q5, fun hh => by rw [k2_slotsz, z_nS_up (by omega)]; exact q6 hh, fun j hj => ?_⟩
      rw [z_nS_up (by omega)] at hj
      by_cases hjk : j = k
      · subst hjk
        refine ⟨?_, ?_⟩
        · exact Cell.slots_setSlot_self _ (k2_hasslot (q7 j hj).1)
        · rw [z_up_s]; exact z_oks_mono (by rw [e0]; exact Int.le_refl _) hz
      · have hne : z_sm w b k ≠ z_sm w b j := by
          unfold z_sm
          by_cases hh : 101 ≤ z_kd b
          · rw [if_pos hh, if_pos hh]; exact fun q => hjk q.symm
          · rw [if_neg hh, if_neg hh]
            have hx : z_nS V b = z_nf (z_kd b - 1) := by unfold z_nS; rw [if_neg hh]
            rw [hx] at hj hk
            exact z_apart hT (by omega) _ _ hk hj (fun q => hjk q.symm)
        refine ⟨?_, ?_⟩
        · rw [slot_ne _ _ hne, z_rd_row (z_up_k hjk)]
          exact (q7 j hj).1
        · rw [z_up_k hjk]; exact z_oks_mono (by rw [e0]; exact Int.le_refl _) (q7 j hj).2
    · refine ⟨cb, by rw [h3 _ (z_ad_ne hw ha hb h7 hba)]; exact q1, q2, q3, q4, q5, fun hh => by rw [z_nS_up (by omega)]; exact q6 hh, fun j hj => ?_⟩
      rw [z_nS_up (by omega)] at hj
      rw [z_rd_row (z_up_r hba), z_up_r hba]
      exact ⟨(q7 j hj).1, z_oks_mono (by rw [e0]; exact Int.le_refl _) (q7 j hj).2⟩
  · rw [e0] at hbn
    rw [z_up_r (by omega)]
    exact g4 b hbn j
  · rw [e0] at hbn
    rw [hlen]
    exact g5 b hb hbn hkb
  · by_cases hba : b = a
    · subst hba
      rw [z_up_k (fun q => hr (by rw [q]; exact hrf hm))]
      exact g6 hm b j hr
    · rw [z_up_r hba]
      exact g6 hm b j hr
/-- some cells are made -/
theorem z_HR.make {w : z_Wd} {md : Bool} {V V' : z_M} {H H' : Heap} (h : z_HR w md V H) (N : Nat) (h00 : V' 0 0 = V 0 0 + N) (hrow : ∀ b : Nat, 0 < b → (b : Int) < V 0 0 → (∀ j, V' b j = V b j) ∧ V' 0 b = V 0 b)
    (hz : ∀ b : Nat, V 0 0 + N ≤ (b : Int) → ∀ k, V' b k = 0) (hsz : H'.size = H.size + N) (hold : ∀ q : Nat, q < H.size → H'[q]? = H[q]?) (hw : z_WV w)
    (hnew : ∀ b : Nat, V 0 0 ≤ (b : Int) → (b : Int) < V 0 0 + N → z_CH w V' H' b ∧ (101 ≤ z_kd b → 0 ≤ z_len' V' b ∧ z_len' V' b < 20000)) (hmd : md = true → N = 1 ∧ True) : z_HR w md V' H' := by
  obtain ⟨g1, g2, g3, g4, g5, g6⟩ := h
  have hlen : ∀ b : Nat, 0 < b → (b : Int) < V 0 0 → z_len' V' b = z_len' V b := fun b h1 h2 => by unfold z_len'; rw [(hrow b h1 h2).2]
  refine ⟨by omega, by rw [h00, hsz]; omega, fun b hb hbn h7 => ?_, fun b hbn j => hz b (by omega) j, fun b hb hbn hkb => ?_, fun hm b j hr => ?_⟩
  · by_cases q : (b : Int) < V 0 0
    · obtain ⟨cb, q1, q2, q3, q4, q5, q6, q7⟩ := g3 b hb q h7
      have hns : z_nS V' b = z_nS V b := by unfold z_nS; rw [hlen b hb q]
      refine ⟨cb, ?_, q2, q3, q4, q5, fun hh => by rw [hns]; exact q6 hh, fun j hj => ?_⟩
      · rw [hold _ ((Array.getElem?_eq_some_iff.mp q1).1)]; exact q1
      · rw [hns] at hj
        rw [z_rd_row ((hrow b hb q).1 j), (hrow b hb q).1 j]
        exact ⟨(q7 j hj).1, z_oks_mono (by omega) (q7 j hj).2⟩
    · exact (hnew b (by omega) (by omega)).1
  · by_cases q : (b : Int) < V 0 0
    · rw [hlen b hb q]; exact g5 b hb q hkb
    · exact (hnew b (by omega) (by omega)).2 hkb
  · have h1 := g6 hm b j hr
    by_cases q : (b : Int) < V 0 0
    · have hb : 0 < b := by
        rcases Nat.eq_zero_or_pos b with e | e
        · subst e; exact absurd (by unfold z_rf; rfl) hr
        · exact e
      rw [(hrow b hb q).1 j]; exact h1
    · rw [g4 b (by omega) j] at h1
      omega
