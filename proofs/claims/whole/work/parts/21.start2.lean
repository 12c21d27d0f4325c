theorem z_ac {s : State} {ty : FieldType} {A : Array Value} (h : (Cond.arrayClass ty).before A s = true) (hr : ∀ c, s.vm.findClass ("[" ++ ty.toString) = some c → va_RA s c ty) : ∃ c, z_IsA s c ty ∧ va_RA s c ty := by
  obtain ⟨c, k, comp, h1, h2, h3⟩ := Cond.arrayClass_spec h
  exact ⟨c, ⟨k, comp, h2, h3⟩, hr c h1⟩
theorem z_ao {s : State} {n : String} {A : Array Value} (h : (Cond.arrayOver (.object n)).before A s = true) : ∃ c, z_IsA s c (.object n) ∧ va_RA s c (.object n) := by
  obtain ⟨comp, c, k, h1, h2, h3, h4, h5⟩ := Cond.arrayOver_spec h
  exact ⟨c, ⟨k, comp, h3, h4⟩, k, comp, h3, h4, h1, h5⟩
theorem z_aa {s : State} {A : Array Value} (h : (Cond.arrayOver (.array .int)).before A s = true) : ∃ c, z_IsA s c (.array .int) ∧ va_RA s c (.array .int) := by
  obtain ⟨comp, c, k, h1, h3, h4, h5⟩ := Cond.arrayOver_specA h
  exact ⟨c, ⟨k, comp, h3, h4⟩, h5⟩
theorem z_isA_of {s : State} {cell : Cell} {ty : FieldType} (h : s.isArrayOf cell ty) : z_IsA s cell.cls ty := by
  obtain ⟨-, k, h1, comp, h2⟩ := h
  exact ⟨k, comp, h1, h2⟩
theorem z_st_of {s : State} {cell : Cell} {ty : FieldType} (h : s.isArrayOf cell ty) : cell.vm.isStatics = false := by
  cases hv : cell.vm with
  | statics k => exact absurd hv (h.1 k)
  | _ => rfl
theorem z_CH_ar {w : z_Wd} {V : z_M} {s : State} {a n : Nat} {f : Nat → Int32} (hk : z_kd a = 101 ∨ z_kd a = 104) (ha : a < 36) (h : z_Ar s (z_ety (z_kd a)) n f (z_adS w a)) (hcls : ∀ cell : Cell, s.heap[z_adS w a]? = some cell → z_dS w a = cell.cls)
    (hn : (z_len' V a).toNat = n) (hf : ∀ k, k < n → V a k = (f k).toInt) (hb : z_kd a = 104 → ∀ k, k < n → -128 ≤ V a k ∧ V a k < 128) : z_CH w V s.heap a := by
  obtain ⟨cell, h1, h2, h3, h4, h5, h6⟩ := h
  have hk1 : 101 ≤ z_kd a := by omega
  have had : z_ad w a = z_adS w a := by unfold z_ad; rw [if_pos ha]
  have hnS : z_nS V a = n := by unfold z_nS; rw [if_pos hk1]; exact hn
  refine ⟨cell, by rw [had]; exact h1, ?_, z_st_of h2, h3, fun q => by omega, fun _ => ⟨by rw [hnS]; exact h4, by rw [hnS]; exact h5, fun q => by omega⟩, fun k hk2 => ?_⟩
  · unfold z_cls; rw [if_pos hk1, if_pos ha]; exact (hcls cell h1).symm
  · rw [hnS] at hk2
    have hsm : z_sm w a k = k := by unfold z_sm; rw [if_pos hk1]
    have hty : z_sty a k = z_ety (z_kd a) := by unfold z_sty; rw [if_pos hk1]
    rw [hsm, hty, h6 k hk2]
    have e1 : Value.int (f k) = Value.int (Int32.ofInt (V a k)) := by rw [hf k hk2, z_o32]
    have r1 := z_r32 (f k)
    rw [← hf k hk2] at r1
    rcases hk with q | q
    · rw [q]; exact ⟨congrArg some e1, r1⟩
    · have r2 := hb q k hk2
      rw [q]; exact ⟨congrArg some e1, r2⟩
theorem z_lnS : ∀ a, a < 36 → (2 ≤ a ∧ a < 7 → z_kd a = 101 ∧ z_LN a = (z_stt.getD (a - 2) []).length + 1) ∧ (22 ≤ a → z_kd a = 104 ∧ z_LN a = z_sl.getD (a - 22) 0 + 1 ∧ ∀ k, k < z_sl.getD (a - 22) 0 → -128 ≤ (z_rw a k).toInt ∧ (z_rw a k).toInt < 128) ∧ (8 ≤ a ∧ a < 22 → z_kd a = 14) := by decide +kernel
theorem z_lnB : ∀ a, a < 36 → z_LN a < 20000 := by decide +kernel
theorem z_kk1 : z_kd 1 = 101 ∧ z_LN 1 = 0 ∧ z_kd 7 = 99 := by decide +kernel
theorem z_V0_hi {L : Nat} {xs : Nat → Int32} {a : Nat} (h : 36 ≤ a) (k : Nat) : z_V0 L xs a k = 0 := by
  unfold z_V0 z_VS
  rw [if_neg (by omega), if_neg (by omega), if_neg (by omega), if_neg (by omega), if_neg (by omega)]
theorem z_V0_1 {L : Nat} {xs : Nat → Int32} {k : Nat} (h : k < L) : z_V0 L xs 1 k = (xs k).toInt := by
  unfold z_V0
  rw [if_neg (by omega), if_pos rfl, if_pos h]
theorem z_V0_s {L : Nat} {xs : Nat → Int32} {a : Nat} (h : 2 ≤ a ∧ a < 7) (k : Nat) : z_V0 L xs a k = (z_rw a k).toInt := by
  unfold z_V0 z_VS
  rw [if_neg (by omega), if_neg (by omega), if_pos h]
theorem z_V0_b {L : Nat} {xs : Nat → Int32} {a : Nat} (h : 22 ≤ a ∧ a < 36) (k : Nat) : z_V0 L xs a k = (z_rw a k).toInt := by
  unfold z_V0 z_VS
  rw [if_neg (by omega), if_neg (by omega), if_neg (by omega), if_pos h]
theorem z_V0_t {L : Nat} {xs : Nat → Int32} {a : Nat} (h : 8 ≤ a ∧ a < 22) : z_V0 L xs a 0 = ((a + 14 : Nat) : Int) ∧ z_V0 L xs a 1 = 0 := by
  unfold z_V0 z_VS
  rw [if_neg (by omega), if_neg (by omega), if_neg (by omega), if_neg (by omega), if_pos ⟨h.1, h.2, rfl⟩, if_neg (by omega), if_neg (by omega), if_neg (by omega), if_neg (by omega), if_neg (by omega)]
  exact ⟨rfl, rfl⟩
theorem z_len_lo {V : z_M} {a n : Nat} (h : z_LN a = n + 1) : z_len' V a = n := by
  unfold z_len'
  rw [h]
  rfl
set_option maxHeartbeats 4000000 in
theorem z_start {s : State} {b L : Nat} {xs : Nat → Int32} (hL : L ≤ 3072) (hts : ∀ w ∈ lw_tbl, w.before #[Value.ref b] s = true) (hX : va_X b L xs s s.heap) (hbl : b < s.heap.size) (hg : (Jvm.Cond.and given_1 narrow_1).before #[Value.ref b] s = true) :
    ∃ w : z_Wd, z_base w = s.heap.size ∧ z_adS w 1 = b ∧ z_WV w ∧ z_TB w s ∧ z_ZS w s s.heap ∧ z_HR w false (z_V0 L xs) s.heap := by
  have hs : ∀ c ∈ z_fl0, c.before #[Value.ref b] s = true := flat_of_before _ hg
  have hA : ∀ a : Nat, a < s.heap.size → ¬ (fun q => s.heap.size ≤ q) a := fun a h q => absurd h (Nat.not_lt.mpr q)
  obtain ⟨qC, hC⟩ : ∃ q : Nat → ClassId × (Nat → Nat), ∀ c, c < 13 → u_Kn s (z_cn c) (z_T c) (z_nf c) (q c).1 (q c).2 := by
    have h0 : ∀ c : Nat, ∃ q : ClassId × (Nat → Nat), c < 13 → u_Kn s (z_cn c) (z_T c) (z_nf c) q.1 q.2 := by
      intro c
      by_cases hc : c < 13
      · obtain ⟨cC, iS, h⟩ := u_known (ws := u_ws (z_cn c) (z_T c) (z_nf c)) (args := #[Value.ref b]) (n := z_nf c) (fun q hq => by
          obtain ⟨k, hk1, rfl⟩ := List.mem_map.mp hq
          exact hts _ (z_lays hc (List.mem_range.mp hk1)).1) (fun _ q => q) (hts _ (z_mx_at z_in6 (List.mem_map.mpr ⟨c, List.mem_range.mpr hc, rfl⟩)))
        exact ⟨(cC, iS), fun _ => h⟩
      · exact ⟨(0, fun _ => 0), fun h => absurd h hc⟩
    exact Classical.axiomOfChoice h0
  obtain ⟨dA, hdA⟩ : ∃ dA : Nat → ClassId, ∀ k, 101 ≤ k → k ≤ 107 → z_IsA s (dA k) (z_ety k) ∧ va_RA s (dA k) (z_ety k) := by
    have h0 : ∀ k : Nat, ∃ c : ClassId, 101 ≤ k → k ≤ 107 → z_IsA s c (z_ety k) ∧ va_RA s c (z_ety k) := by
      intro k
      by_cases hk : 101 ≤ k ∧ k ≤ 107
      · obtain ⟨c, hc⟩ : ∃ c, z_IsA s c (z_ety k) ∧ va_RA s c (z_ety k) := by
          have : k = 101 ∨ k = 102 ∨ k = 103 ∨ k = 104 ∨ k = 105 ∨ k = 106 ∨ k = 107 := by omega
          rcases this with rfl | rfl | rfl | rfl | rfl | rfl | rfl
          · exact z_ac (ty := .int) (hts _ z_arrw.1) (fun _ q => q)
          · exact z_ac (ty := .long) (hts _ z_arrw.2.1) (fun _ q => q)
          · exact z_ac (ty := .boolean) (hts _ z_arrw.2.2.1) (fun _ q => q)
          · exact z_ac (ty := .byte) (hts _ z_arrw.2.2.2) (fun _ q => q)
          · exact z_aa (hts _ (z_mx_at z_in9 List.mem_cons_self))
          · exact z_ao (hts _ (z_mx_at z_in9 (List.mem_cons_of_mem _ List.mem_cons_self)))
          · exact z_ao (hts _ (z_mx_at z_in9 (List.mem_cons_of_mem _ (List.mem_cons_of_mem _ List.mem_cons_self))))
        exact ⟨c, fun _ _ => hc⟩
      · exact ⟨0, fun h1 h2 => absurd ⟨h1, h2⟩ hk⟩
    obtain ⟨dA, h⟩ := Classical.axiomOfChoice h0
    exact ⟨dA, h⟩
  have m1 : ∀ i, i < 14 → ∀ c ∈ z_sw1 i, c.before #[Value.ref b] s = true := fun i hi c hc => hs _ (z_mx_at (List.all_eq_true.mp z_in1 i (List.mem_range.mpr hi)) hc)
  have m3 : ∀ a, 2 ≤ a → a < 7 → z_mx z_fl0 (z_aw1 a) (z_ix3.getD (a - 2) []) = true ∧ z_mx z_fl0 (z_aw2 a) (z_ix3b.getD (a - 2) []) = true := fun a h1 h2 => by
    have q := List.all_eq_true.mp z_in3 (a - 2) (List.mem_range.mpr (by omega))
    rw [show a - 2 + 2 = a by omega] at q
    exact ⟨(Bool.and_eq_true_iff.mp q).1, (Bool.and_eq_true_iff.mp q).2⟩
  obtain ⟨adK, adV, hS, hSt⟩ := vk_Sof (args := #[Value.ref b]) (s := s) (N := 14) (tm := z_tm) (len := z_sl) (byt := z_sb) (A := fun q => s.heap.size ≤ q) (by decide +kernel) (fun i hi => m1 i hi _ List.mem_cons_self) (fun i hi => m1 i hi _ (List.mem_cons_of_mem _ List.mem_cons_self))
    (fun i hi => m1 i hi _ (List.mem_cons_of_mem _ (List.mem_cons_of_mem _ List.mem_cons_self))) (fun i hi => m1 i hi _ (List.mem_cons_of_mem _ (List.mem_cons_of_mem _ (List.mem_cons_of_mem _ List.mem_cons_self))))
    (fun i hi j hj => hs _ (z_mx_at (List.all_eq_true.mp z_in2 i (List.mem_range.mpr hi)) (List.mem_map.mpr ⟨j, List.mem_range.mpr hj, rfl⟩)))
    (fun i j hi hj hij => (z_in4b hi hj hij).imp (hs _) (hs _)) hA
  obtain ⟨ta, hta⟩ : ∃ ta : Nat → Nat, ∀ a, 2 ≤ a ∧ a < 7 → (z_stm a).eval #[Value.ref b] s none [] s = some (.ref (ta a)) ∧ z_Ar s .int (z_stt.getD (a - 2) []).length (fun k => (z_stt.getD (a - 2) []).getD k 0) (ta a) := by
    have h0 : ∀ a : Nat, ∃ t : Nat, 2 ≤ a ∧ a < 7 → (z_stm a).eval #[Value.ref b] s none [] s = some (.ref t) ∧ z_Ar s .int (z_stt.getD (a - 2) []).length (fun k => (z_stt.getD (a - 2) []).getD k 0) t := by
      intro a
      by_cases ha : 2 ≤ a ∧ a < 7
      · obtain ⟨q1, q2⟩ := m3 a ha.1 ha.2
        have hlt : (z_stt.getD (a - 2) []).length < 2 ^ 31 := by
          have := z_lnB a (by omega)
          have h2 := ((z_lnS a (by omega)).1 ha).2
          omega
        obtain ⟨t, t1, t2⟩ := va_Tof (args := #[Value.ref b]) (s := s) (tm := z_stm a) (ty := .int) (N := (z_stt.getD (a - 2) []).length) (f := fun j => .int ((z_stt.getD (a - 2) []).getD j 0)) (A := fun q => s.heap.size ≤ q) hlt (hs _ (z_mx_at q1 List.mem_cons_self)) (va_eqt (hs _ (z_mx_at q1 (List.mem_cons_of_mem _ List.mem_cons_self))))
          (fun j hj => va_eqt (hs _ (z_mx_at q2 (List.mem_map.mpr ⟨j, List.mem_range.mpr hj, rfl⟩)))) hA
        exact ⟨t, fun _ => ⟨t1, z_Ar_of t2⟩⟩
      · exact ⟨0, fun h => absurd h ha⟩
    obtain ⟨ta, h⟩ := Classical.axiomOfChoice h0
    exact ⟨ta, h⟩
  have hst : ∀ x, (x = 0 ∨ (1 < x ∧ x < 8)) → (Cond.laysStatic (z_sc x) (z_sn x) (z_sd x)).before #[Value.ref b] s = true ∧ (Cond.initialized (z_sc x)).before #[Value.ref b] s = true := fun x hx => by
    have hm : x ∈ ([0, 2, 3, 4, 5, 6, 7] : List Nat) := by
      simp only [List.mem_cons, List.not_mem_nil, or_false]
      omega
    exact ⟨hts _ (z_mx_at z_in8 (List.mem_flatMap.mpr ⟨x, hm, List.mem_cons_self⟩)), hts _ (z_mx_at z_in8 (List.mem_flatMap.mpr ⟨x, hm, List.mem_cons_of_mem _ List.mem_cons_self⟩))⟩
  obtain ⟨opq, hopq, hZ7⟩ : ∃ opq : Value, (opq = .null ∨ ∃ q, opq = .ref q) ∧ va_Z (z_sc 7) (z_sn 7) (z_sd 7) opq (fun q => s.heap.size ≤ q) s s.heap := by
    rcases va_Zqof (A := fun q => s.heap.size ≤ q) (hst 7 (by omega)).1 (hst 7 (by omega)).2 (hs _ z_in5.2) hA with h | ⟨t, h⟩
    · exact ⟨_, Or.inl rfl, h⟩
    · exact ⟨_, Or.inr ⟨t, rfl⟩, h⟩
  obtain ⟨hO0, hCo0, hVa0, -⟩ := hS.1 0 (by omega)
  obtain ⟨c0, -, -, hcS, -⟩ := hO0
  obtain ⟨cfv, kfv, fiv, fv, -, fv1, fv2, -⟩ := hVa0
  obtain ⟨cfc, kfc, fic, fc, -, fc1, fc2, -⟩ := hCo0
  let adS : Nat → Nat := fun a => if a = 1 then b else if a < 7 then ta a else if a < 22 then adK (a - 8) else adV (a - 22)
  let w : z_Wd := (s.heap.size, adS, (fun c => if c = 13 then c0.cls else (qC c).1), (fun c => if c = 13 then (fun k => if k = 0 then fv.slot else fc.slot) else (qC c).2), dA, (fun a => match s.heap[adS a]? with | some y => y.cls | none => 0), opq)
  have hdS : ∀ (a : Nat) (cell : Cell), s.heap[z_adS w a]? = some cell → z_dS w a = cell.cls := fun a cell h => by
    show (match s.heap[adS a]? with | some y => y.cls | none => 0) = cell.cls
    rw [show s.heap[adS a]? = some cell from h]
  have ad1 : z_adS w 1 = b := rfl
  have ad2 : ∀ a, 2 ≤ a ∧ a < 7 → z_adS w a = ta a := fun a ha => by
    show (if a = 1 then b else if a < 7 then ta a else if a < 22 then adK (a - 8) else adV (a - 22)) = _
    rw [if_neg (by omega), if_pos ha.2]
  have ad3 : ∀ a, 8 ≤ a ∧ a < 22 → z_adS w a = adK (a - 8) := fun a ha => by
    show (if a = 1 then b else if a < 7 then ta a else if a < 22 then adK (a - 8) else adV (a - 22)) = _
    rw [if_neg (by omega), if_neg (by omega), if_pos ha.2]
  have ad4 : ∀ a, 22 ≤ a → z_adS w a = adV (a - 22) := fun a ha => by
    show (if a = 1 then b else if a < 7 then ta a else if a < 22 then adK (a - 8) else adV (a - 22)) = _
    rw [if_neg (by omega), if_neg (by omega), if_neg (by omega)]
  have kind : ∀ a, 0 < a → a < 36 → 101 ≤ z_kd a → a = 1 ∨ (2 ≤ a ∧ a < 7) ∨ (22 ≤ a ∧ a < 36) := fun a h0 h1 h2 => by
    by_cases q : a = 7
    · rw [q, z_kk1.2.2] at h2; omega
    · by_cases q2 : 8 ≤ a ∧ a < 22
      · rw [(z_lnS a h1).2.2 q2] at h2; omega
      · omega
  have ar1 : z_Ar s .int L xs (z_adS w 1) := z_Ar_X hX
  have ar2 : ∀ a, 2 ≤ a ∧ a < 7 → z_Ar s .int (z_stt.getD (a - 2) []).length (z_rw a) (z_adS w a) := fun a ha => by
    rw [ad2 a ha]
    have e : z_rw a = fun k => (z_stt.getD (a - 2) []).getD k 0 := by funext k; unfold z_rw; rw [if_pos ha.2]
    rw [e]
    exact (hta a ha).2
  have ar3 : ∀ a, 22 ≤ a ∧ a < 36 → z_Ar s .byte (z_sl.getD (a - 22) 0) (z_rw a) (z_adS w a) := fun a ha => by
    rw [ad4 a ha.1]
    have e : z_rw a = fun k => (z_sb.getD (a - 22) []).getD k 0 := by funext k; unfold z_rw; rw [if_neg (by omega)]
    rw [e]
    exact z_Ar_of (hS.1 (a - 22) (by omega)).2.2.2
  have hIsA : ∀ a, 0 < a → a < 36 → 101 ≤ z_kd a → z_IsA s (z_dS w a) (z_ety (z_kd a)) := fun a h0 h1 h2 => by
    rcases kind a h0 h1 h2 with rfl | q | q
    · rw [z_kk1.1]
      obtain ⟨cell, g1, g2, -⟩ := ar1
      rw [hdS 1 cell g1]; exact z_isA_of g2
    · rw [((z_lnS a h1).1 q).1]
      obtain ⟨cell, g1, g2, -⟩ := ar2 a q
      rw [hdS a cell g1]; exact z_isA_of g2
    · rw [((z_lnS a h1).2.1 q.1).1]
      obtain ⟨cell, g1, g2, -⟩ := ar3 a q
      rw [hdS a cell g1]; exact z_isA_of g2
  have lt_of : ∀ {t : Nat} {cell : Cell}, s.heap[t]? = some cell → t < s.heap.size := fun h => (Array.getElem?_eq_some_iff.mp h).1
  have hWV : z_WV w := by
    refine ⟨fun a h0 h1 h7 => ?_, hopq⟩
    show z_adS w a < s.heap.size
    by_cases q1 : a = 1
    · rw [q1]; exact hbl
    · by_cases q2 : a < 7
      · obtain ⟨cell, g1, -⟩ := ar2 a (by omega)
        exact lt_of g1
      · by_cases q3 : a < 22
        · rw [ad3 a (by omega)]
          obtain ⟨cell, g1, -⟩ := (hS.1 (a - 8) (by omega)).1
          exact lt_of g1
        · obtain ⟨cell, g1, -⟩ := ar3 a (by omega)
          exact lt_of g1
  refine ⟨w, rfl, ad1, hWV, ⟨?_, ?_, ?_, hIsA, ?_, ?_, ?_⟩, ?_, ?_⟩
  · intro x hx ho
    unfold z_ok at ho
    rcases (Bool.or_eq_true _ _).mp ho with g | g
    · rcases good_of_word g with h | ⟨ty, rfl⟩
      · exact va_Nw.of (Bool.and_eq_true_iff.mp h).1 (hts x hx)
      · exact hts _ hx
    · cases x <;> first | (cases g; done) | exact va_Nw.of rfl (hts _ hx) | exact hts _ hx
  · intro c hc
    show u_Kn s (z_cn c) (z_T c) (z_nf c) (if c = 13 then c0.cls else (qC c).1) (if c = 13 then (fun k => if k = 0 then fv.slot else fc.slot) else (qC c).2)
    rw [if_neg (by omega), if_neg (by omega)]
    exact hC c hc
  · exact hdA
  · intro j hj
    rw [ad3 (8 + j) (by omega), show 8 + j - 8 = j by omega]
    exact vk_R.of (hts _ (z_mx_at z_in7 (List.mem_map.mpr ⟨j, List.mem_range.mpr hj, rfl⟩))) (hSt j hj)
  · exact hcS
  · intro k hk
    have : k = 0 ∨ k = 1 := by omega
    rcases this with rfl | rfl
    · exact ⟨cfv, kfv, fiv, fv, fv1, fv2, rfl⟩
    · exact ⟨cfc, kfc, fic, fc, fc1, fc2, rfl⟩
  · intro x hx
    have hx' : x = 0 ∨ x = 7 ∨ (2 ≤ x ∧ x < 7) := by omega
    rcases hx' with rfl | rfl | q
    · exact va_Zof (hst 0 hx).1 (hst 0 hx).2 (va_eqi (hs _ z_in5.1)) hA
    · exact hZ7
    · have e1 : z_zv w x = .ref (ta x) := by
        unfold z_zv z_rv z_ad
        rw [if_neg (by omega), if_neg (by omega), if_neg (by omega), if_pos (by omega), ad2 x q]
      have e2 : z_stm x = .static (z_sc x) (z_sn x) (z_sd x) := by
        have : x = 2 ∨ x = 3 ∨ x = 4 ∨ x = 5 ∨ x = 6 := by omega
        rcases this with rfl | rfl | rfl | rfl | rfl <;> rfl
      have e3 := (hta x q).1
      rw [e2] at e3
      rw [e1]
      exact va_Zof (hst x hx).1 (hst x hx).2 e3 hA
  · refine ⟨Int.le_refl _, ?_, ?_, ?_, ?_, fun h => by cases h⟩
    · show (s.heap.size : Int) = (s.heap.size : Int) + (36 - 36)
      omega
    · intro a h0 h1 h7
      have h1' : a < 36 := by
        have : (a : Int) < 36 := h1
        omega
      by_cases q2 : 8 ≤ a ∧ a < 22
      · have hk14 := (z_lnS a h1').2.2 q2
        obtain ⟨hO, hCo, hVa, -⟩ := hS.1 (a - 8) (by omega)
        obtain ⟨cell, g1, g2, g3, -⟩ := hO
        obtain ⟨cf1, k1, i1, f1, cell1, a1, -, a3, a4, a5, -⟩ := hCo
        obtain ⟨cf2, k2, i2, f2, cell2, b1, -, b3, b4, b5, -⟩ := hVa
        rw [g1] at a3 b3
        cases a3
        cases b3
        rw [fc1] at a1
        rw [fv1] at b1
        cases a1
        cases b1
        have had : z_ad w a = adK (a - 8) := by unfold z_ad; rw [if_pos h1', ad3 a q2]
        have hnS : z_nS (z_V0 L xs) a = 2 := by unfold z_nS; rw [if_neg (by omega), hk14]; rfl
        refine ⟨cell, by rw [had]; exact g1, ?_, g2, a4, fun q => by omega, fun q => by omega, fun k hk2 => ?_⟩
        · unfold z_cls
          rw [if_neg (by omega), hk14]
          rw [hcS] at g3
          show cell.cls = c0.cls
          exact (Option.some.inj g3).symm
        · rw [hnS] at hk2
          obtain ⟨v1, v2⟩ := z_V0_t (L := L) (xs := xs) q2
          have hty : z_sty a k = z_Y 13 k := by unfold z_sty; rw [if_neg (by omega), hk14]
          have hsm : z_sm w a k = z_dI w 13 k := by unfold z_sm; rw [if_neg (by omega), hk14]
          rw [hty, hsm]
          have : k = 0 ∨ k = 1 := by omega
          rcases this with rfl | rfl
          · refine ⟨?_, ?_⟩
            · show cell.slots[fv.slot]? = some (z_rv w (z_V0 L xs a 0).toNat)
              rw [v1, b5]
              congr 1
              rw [show (((a + 14 : Nat) : Int)).toNat = a + 14 by omega]
              unfold z_rv z_ad
              rw [if_neg (by omega), if_neg (by omega), if_pos (by omega), ad4 (a + 14) (by omega), show a + 14 - 22 = a - 8 by omega]
            · show 0 ≤ z_V0 L xs a 0 ∧ z_V0 L xs a 0 < 36
              rw [v1]; omega
          · refine ⟨?_, ?_⟩
            · show cell.slots[fc.slot]? = some (.int (Int32.ofInt (z_V0 L xs a 1)))
              rw [v2, a5]
              rfl
            · show -128 ≤ z_V0 L xs a 1 ∧ z_V0 L xs a 1 < 128
              rw [v2]; omega
      · by_cases q1 : a = 1
        · subst q1
          refine z_CH_ar (f := xs) (n := L) (Or.inl z_kk1.1) h1' (by rw [z_kk1.1]; exact ar1) (hdS 1) ?_ (fun k hk => z_V0_1 hk) (fun q => by rw [z_kk1.1] at q; omega)
          unfold z_len'
          rw [z_kk1.2.1]
          exact Int.toNat_natCast L
        · by_cases q3 : a < 7
          · have hq : 2 ≤ a ∧ a < 7 := by omega
            obtain ⟨k1, k2⟩ := (z_lnS a h1').1 hq
            exact z_CH_ar (f := z_rw a) (Or.inl k1) h1' (by rw [k1]; exact ar2 a hq) (hdS a) (by rw [z_len_lo k2]; exact Int.toNat_natCast _) (fun k _ => z_V0_s hq k) (fun q => by omega)
          · have hq : 22 ≤ a ∧ a < 36 := by omega
            obtain ⟨k1, k2, k3⟩ := (z_lnS a h1').2.1 hq.1
            exact z_CH_ar (f := z_rw a) (Or.inr k1) h1' (by rw [k1]; exact ar3 a hq) (hdS a) (by rw [z_len_lo k2]; exact Int.toNat_natCast _) (fun k _ => z_V0_b hq k) (fun _ k hk => by rw [z_V0_b hq k]; exact k3 k hk)
    · intro a ha k
      have : (36 : Int) ≤ a := ha
      exact z_V0_hi (by omega) k
    · intro a h0 h1 h2
      have h1' : a < 36 := by
        have : (a : Int) < 36 := h1
        omega
      rcases kind a h0 h1' h2 with rfl | q | q
      · have e : z_len' (z_V0 L xs) 1 = (L : Int) := by unfold z_len'; rw [z_kk1.2.1]; rfl
        rw [e]; omega
      · rw [z_len_lo ((z_lnS a h1').1 q).2]
        have := z_lnB a h1'
        have h2 := ((z_lnS a h1').1 q).2
        omega
      · rw [z_len_lo ((z_lnS a h1').2.1 q.1).2.1]
        have := z_lnB a h1'
        have h2 := ((z_lnS a h1').2.1 q.1).2.1
        omega
