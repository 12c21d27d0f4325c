/-! the world: how memory lies in the machine's heap; what the tables say -/
abbrev z_Wd : Type := Nat × (Nat → Nat) × (Nat → ClassId) × (Nat → Nat → Nat) × (Nat → ClassId) × (Nat → ClassId) × Value
def z_base (w : z_Wd) : Nat := w.1
def z_adS (w : z_Wd) : Nat → Nat := w.2.1
def z_dC (w : z_Wd) : Nat → ClassId := w.2.2.1
def z_dI (w : z_Wd) : Nat → Nat → Nat := w.2.2.2.1
def z_dA (w : z_Wd) : Nat → ClassId := w.2.2.2.2.1
def z_dS (w : z_Wd) : Nat → ClassId := w.2.2.2.2.2.1
def z_opq (w : z_Wd) : Value := w.2.2.2.2.2.2
def z_ad (w : z_Wd) (a : Nat) : Nat := if a < 36 then z_adS w a else z_base w + (a - 36)
def z_rv (w : z_Wd) (a : Nat) : Value := if a = 0 then .null else if a = 7 then z_opq w else .ref (z_ad w a)
def z_enc (w : z_Wd) : z_V → Value
  | .inl z => .int (Int32.ofInt z)
  | .inr (.inl z) => .long (Int64.ofInt z)
  | .inr (.inr a) => z_rv w a
def z_okv (V : z_M) : z_V → Prop
  | .inl z => -2147483648 ≤ z ∧ z < 2147483648
  | .inr (.inl z) => -9223372036854775808 ≤ z ∧ z < 9223372036854775808
  | .inr (.inr a) => (a : Int) < V 0 0
def z_ety (k : Nat) : FieldType := cond (Nat.beq k 101) .int (cond (Nat.beq k 102) .long (cond (Nat.beq k 103) .boolean (cond (Nat.beq k 104) .byte (cond (Nat.beq k 105) (.array .int) (cond (Nat.beq k 106) (.object "FolioStair$Law") (.object "FolioStair$Told"))))))
def z_sty (a k : Nat) : FieldType := if 101 ≤ z_kd a then z_ety (z_kd a) else z_Y (z_kd a - 1) k
def z_oks (V : z_M) (ty : FieldType) (z : Int) : Prop := match ty with
  | .object _ => 0 ≤ z ∧ z < V 0 0
  | .array _ => 0 ≤ z ∧ z < V 0 0
  | .long => -9223372036854775808 ≤ z ∧ z < 9223372036854775808
  | .boolean => z = 0 ∨ z = 1
  | .byte => -128 ≤ z ∧ z < 128
  | _ => -2147483648 ≤ z ∧ z < 2147483648
def z_nS (V : z_M) (a : Nat) : Nat := if 101 ≤ z_kd a then (z_len' V a).toNat else z_nf (z_kd a - 1)
def z_sm (w : z_Wd) (a k : Nat) : Nat := if 101 ≤ z_kd a then k else z_dI w (z_kd a - 1) k
def z_cls (w : z_Wd) (a : Nat) : ClassId := if 101 ≤ z_kd a then (if a < 36 then z_dS w a else z_dA w (z_kd a)) else z_dC w (z_kd a - 1)
/-- what lies at cell a -/
def z_CH (w : z_Wd) (V : z_M) (H : Heap) (a : Nat) : Prop := ∃ cell : Cell, H[z_ad w a]? = some cell ∧ cell.cls = z_cls w a ∧ cell.vm.isStatics = false ∧ cell.vm ≠ .unknown ∧ (36 ≤ a → cell.vm = .none) ∧
  (101 ≤ z_kd a → z_nS V a ≤ cell.slots.size ∧ cell.slots.size.toInt32 = Int32.ofNat (z_nS V a) ∧ (36 ≤ a → cell.slots.size = z_nS V a)) ∧ ∀ k, k < z_nS V a → cell.slots[z_sm w a k]? = some (z_enc w (z_rd false (z_sty a k) V a k)) ∧ z_oks V (z_sty a k) (V a k)
def z_HR (w : z_Wd) (md : Bool) (V : z_M) (H : Heap) : Prop := 36 ≤ V 0 0 ∧ (H.size : Int) = z_base w + (V 0 0 - 36) ∧ (∀ a : Nat, 0 < a → (a : Int) < V 0 0 → ¬ a = 7 → z_CH w V H a) ∧ (∀ a : Nat, V 0 0 ≤ (a : Int) → ∀ k, V a k = 0) ∧
  (∀ a : Nat, 0 < a → (a : Int) < V 0 0 → 101 ≤ z_kd a → 0 ≤ z_len' V a ∧ z_len' V a < 20000) ∧ (md = true → z_Gr V)
def z_WV (w : z_Wd) : Prop := (∀ a, 0 < a → a < 36 → ¬ a = 7 → z_adS w a < z_base w) ∧ (z_opq w = .null ∨ ∃ q, z_opq w = .ref q)
def z_IsA (s : State) (c : ClassId) (ty : FieldType) : Prop := ∃ (k : Class) (comp : ClassId), s.vm.classes[c]? = some k ∧ k.kind = .array comp ty
def z_sx (j : Nat) : String := ["bears", "bars", "if", "or", "and", "not", "reader", "tread", "thick", "level", "weight", "stride", "hour", "dust"].getD j ""
def z_TB (w : z_Wd) (s : State) : Prop := (∀ x, x ∈ lw_tbl → z_ok x = true → x.before #[] s = true) ∧ (∀ c, c < 13 → u_Kn s (z_cn c) (z_T c) (z_nf c) (z_dC w c) (z_dI w c)) ∧
  (∀ k, 101 ≤ k → k ≤ 107 → z_IsA s (z_dA w k) (z_ety k) ∧ va_RA s (z_dA w k) (z_ety k)) ∧ (∀ a, 0 < a → a < 36 → 101 ≤ z_kd a → z_IsA s (z_dS w a) (z_ety (z_kd a))) ∧
  (∀ j, j < 14 → vk_R "FolioStair$LawReader" (z_si j) (z_sx j) (z_adS w (8 + j)) s) ∧
  s.vm.findClass "java/lang/String" = some (z_dC w 13) ∧ (∀ k, k < 2 → ∃ (cf : ClassId) (kf : Class) (fi : Nat) (f : Field), s.fieldFound? "java/lang/String" (z_T 13 k).2.1 (z_T 13 k).2.2.1 = some (cf, kf, fi, f) ∧ f.isStatic = false ∧ f.slot = z_dI w 13 k)
def z_zv (w : z_Wd) (x : Nat) : Value := if x = 0 then .int 1 else z_rv w x
def z_ZS (w : z_Wd) (s : State) (H : Heap) : Prop := ∀ x, (x = 0 ∨ (1 < x ∧ x < 8)) → va_Z (z_sc x) (z_sn x) (z_sd x) (z_zv w x) (fun q => z_base w ≤ q) s H
def z_LR (w : z_Wd) (LS : Array Slot) (ls : z_L) (n : Nat) : Prop := LS.size = n ∧ lv_wf LS ∧ ls.length = n ∧ ∀ k v, z_at ls k = some v → LS[k]? = some (.val (z_enc w v))
def z_Fc (w : z_Wd) (s : State) (i : Nat) (n0 : Int) (md : Bool) (ls : z_L) (st : List z_V) (kc ks : Nat) (V : z_M) (H : Heap) (locs : List Loc) (LS : Array Slot) : Prop :=
  z_HR w md V H ∧ z_ZS w s H ∧ z_LR w LS ls (z_ml i) ∧ (∀ v ∈ st, z_okv V v) ∧ (∀ k v, z_at ls k = some v → z_okv V v) ∧ kc ≤ (z_al i).1 ∧ ks ≤ (z_al i).2 ∧ va_S (fun q => z_base w ≤ q) s.heap H locs ∧ n0 ≤ V 0 0
def z_WP (p : Program) (l : Launch) (e : Env) (R : Room) (s : State) (m : MethodId) (args : Array Value) (below : List Frame) (meth : Method) (c : Code) (QQ : State → Prop) (w : z_Wd) (i : Nat) (n0 : Int) : z_P :=
  fun md pc ls st kc ks V => ∀ (H : Heap) (locs : List Loc) (LS : Array Slot), z_Fc w s i n0 md ls st kc ks V H locs LS → W p l e R s m args below meth c H locs kc ks QQ (F0 m pc LS (st.map (z_enc w)))
-- numbers
theorem z_t32 {z : Int} (h : -2147483648 ≤ z) (h2 : z < 2147483648) : (Int32.ofInt z).toInt = z := by
  rw [Int32.toInt_ofInt]; simp only [Int.bmod, Int32.size]; omega
theorem z_t64 {z : Int} (h : -9223372036854775808 ≤ z) (h2 : z < 9223372036854775808) : (Int64.ofInt z).toInt = z := by
  rw [Int64.toInt_ofInt]; simp only [Int.bmod, Int64.size]; omega
theorem z_r32 (x : Int32) : -2147483648 ≤ x.toInt ∧ x.toInt < 2147483648 := ⟨Int32.le_toInt x, Int32.toInt_lt x⟩
theorem z_r64 (x : Int64) : -9223372036854775808 ≤ x.toInt ∧ x.toInt < 9223372036854775808 := ⟨Int64.le_toInt x, Int64.toInt_lt x⟩
theorem z_o32 (x : Int32) : Int32.ofInt x.toInt = x := Int32.ofInt_toInt x
theorem z_o64 (x : Int64) : Int64.ofInt x.toInt = x := Int64.ofInt_toInt x
theorem z_eq32 {a b : Int} (ha : -2147483648 ≤ a ∧ a < 2147483648) (hb : -2147483648 ≤ b ∧ b < 2147483648) : Int32.ofInt a = Int32.ofInt b ↔ a = b := by
  constructor
  · intro h
    have := congrArg Int32.toInt h
    rwa [z_t32 ha.1 ha.2, z_t32 hb.1 hb.2] at this
  · intro h; rw [h]
theorem z_lt32 {a b : Int} (ha : -2147483648 ≤ a ∧ a < 2147483648) (hb : -2147483648 ≤ b ∧ b < 2147483648) : Int32.ofInt a < Int32.ofInt b ↔ a < b := by
  rw [Int32.lt_iff_toInt_lt, z_t32 ha.1 ha.2, z_t32 hb.1 hb.2]
theorem z_le32 {a b : Int} (ha : -2147483648 ≤ a ∧ a < 2147483648) (hb : -2147483648 ≤ b ∧ b < 2147483648) : Int32.ofInt a ≤ Int32.ofInt b ↔ a ≤ b := by
  rw [Int32.le_iff_toInt_le, z_t32 ha.1 ha.2, z_t32 hb.1 hb.2]
theorem z_sz_of {a n : Nat} {c : Prop} (h : a = n) : n ≤ a ∧ a.toInt32 = Int32.ofNat n ∧ (c → a = n) := ⟨Nat.le_of_eq h.symm, by rw [h], fun _ => h⟩
theorem z_in32 {j : Int} {n : Nat} (h0 : 0 ≤ j) (h : j < n) (hn : j < 20001) : ¬ (Int32.ofInt j < 0 ∨ n ≤ (Int32.ofInt j).toNatClampNeg) ∧ (Int32.ofInt j).toNatClampNeg = j.toNat := by
  have e : (Int32.ofInt j).toInt = j := z_t32 (by omega) (by omega)
  have e2 : (Int32.ofInt j).toNatClampNeg = j.toNat := by
    show (Int32.ofInt j).toInt.toNat = _
    rw [e]
  refine ⟨?_, e2⟩
  rw [e2]
  rintro (q | q)
  · rw [Int32.lt_iff_toInt_lt, e, Int32.toInt_zero] at q
    omega
  · omega
-- places
theorem z_LR.size {w : z_Wd} {LS : Array Slot} {ls : z_L} {n : Nat} (h : z_LR w LS ls n) : LS.size = n := h.1
theorem z_at_len {ls : z_L} : ∀ {k : Nat} {v : z_V}, z_at ls k = some v → k < ls.length := by
  induction ls with
  | nil => intro k v h; cases h
  | cons u t ih =>
    intro k v h
    cases k with
    | zero => exact Nat.succ_pos _
    | succ k => exact Nat.succ_lt_succ (ih h)
theorem z_s1_len : ∀ (ls : z_L) (k : Nat) (v : z_V), (z_s1 ls k v).length = ls.length
  | [], _, _ => rfl
  | _ :: t, 0, v => rfl
  | u :: t, k + 1, v => congrArg Nat.succ (z_s1_len t k v)
theorem z_s2_len : ∀ (ls : z_L) (k : Nat) (v : z_V), (z_s2 ls k v).length = ls.length
  | [], _, _ => rfl
  | [_], 0, v => rfl
  | _ :: _ :: t, 0, v => rfl
  | u :: t, k + 1, v => congrArg Nat.succ (z_s2_len t k v)
theorem z_s1_at : ∀ (ls : z_L) (k : Nat) (v : z_V) (j : Nat) (x : z_V), z_at (z_s1 ls k v) j = some x → (j = k ∧ x = v) ∨ (¬ j = k ∧ z_at ls j = some x ∧ ¬ (j + 1 = k ∧ z_is2 x = true))
  | [], _, _, _, _, h => by cases h
  | _ :: t, 0, v, 0, x, h => Or.inl ⟨rfl, (Option.some.inj h).symm⟩
  | _ :: t, 0, v, j + 1, x, h => Or.inr ⟨by omega, h, by omega⟩
  | u :: t, k + 1, v, 0, x, h => by
    refine Or.inr ⟨by omega, ?_, ?_⟩
    · have h' : cond (Nat.beq k 0 && z_o2 u) none u = some x := h
      cases hb : (Nat.beq k 0 && z_o2 u) with
      | true => rw [hb] at h'; cases h'
      | false => rw [hb] at h'; exact h'
    · rintro ⟨h1, h2⟩
      have h' : cond (Nat.beq k 0 && z_o2 u) none u = some x := h
      have hk : k = 0 := by omega
      subst hk
      cases u with
      | none => cases h'
      | some u =>
        cases hu : z_is2 u with
        | true => simp [z_o2, hu] at h'
        | false =>
          simp [z_o2, hu] at h'
          rw [h'] at hu
          rw [hu] at h2
          cases h2
  | u :: t, k + 1, v, j + 1, x, h => by
    rcases z_s1_at t k v j x h with ⟨h1, h2⟩ | ⟨h1, h2, h3⟩
    · exact Or.inl ⟨by omega, h2⟩
    · exact Or.inr ⟨by omega, h2, fun q => h3 ⟨by omega, q.2⟩⟩
theorem z_s2_at : ∀ (ls : z_L) (k : Nat) (v : z_V) (j : Nat) (x : z_V), z_at (z_s2 ls k v) j = some x → (j = k ∧ x = v) ∨ (¬ j = k ∧ ¬ j = k + 1 ∧ z_at ls j = some x ∧ ¬ (j + 1 = k ∧ z_is2 x = true))
  | [], _, _, _, _, h => by cases h
  | _ :: t, 0, v, 0, x, h => Or.inl ⟨rfl, (Option.some.inj h).symm⟩
  | [_], 0, v, j + 1, x, h => by cases h
  | _ :: _ :: t, 0, v, 1, x, h => by cases h
  | _ :: _ :: t, 0, v, j + 2, x, h => Or.inr ⟨by omega, by omega, h, by omega⟩
  | u :: t, k + 1, v, 0, x, h => by
    refine Or.inr ⟨by omega, by omega, ?_, ?_⟩
    · have h' : cond (Nat.beq k 0 && z_o2 u) none u = some x := h
      cases hb : (Nat.beq k 0 && z_o2 u) with
      | true => rw [hb] at h'; cases h'
      | false => rw [hb] at h'; exact h'
    · rintro ⟨h1, h2⟩
      have h' : cond (Nat.beq k 0 && z_o2 u) none u = some x := h
      have hk : k = 0 := by omega
      subst hk
      cases u with
      | none => cases h'
      | some u =>
        cases hu : z_is2 u with
        | true => simp [z_o2, hu] at h'
        | false =>
          simp [z_o2, hu] at h'
          rw [h'] at hu
          rw [hu] at h2
          cases h2
  | u :: t, k + 1, v, j + 1, x, h => by
    rcases z_s2_at t k v j x h with ⟨h1, h2⟩ | ⟨h1, h2, h3, h4⟩
    · exact Or.inl ⟨by omega, h2⟩
    · exact Or.inr ⟨by omega, by omega, h3, fun q => h4 ⟨by omega, q.2⟩⟩
theorem z_cat1 {w : z_Wd} (hw : z_WV w) {v : z_V} (h : z_is2 v = false) : (z_enc w v).category = 1 := by
  rcases v with a | a | a
  · rfl
  · cases h
  · show (z_rv w a).category = 1
    unfold z_rv
    split
    · rfl
    · split
      · rcases hw.2 with q | ⟨q, e⟩
        · rw [q]; rfl
        · rw [e]; rfl
      · rfl
theorem z_cat2 {w : z_Wd} {v : z_V} (h : z_is2 v = true) : (z_enc w v).category = 2 := by
  rcases v with a | a | a
  · cases h
  · rfl
  · cases h
/-- the listed places, as the kit lists them -/
def z_lst (w : z_Wd) (ls : z_L) : List (Nat × Value) := (List.range ls.length).filterMap (fun k => (z_at ls k).map (fun v => (k, z_enc w v)))
theorem z_lst_mem {w : z_Wd} {ls : z_L} {k : Nat} {v : z_V} (h : z_at ls k = some v) : (k, z_enc w v) ∈ z_lst w ls :=
  List.mem_filterMap.mpr ⟨k, List.mem_range.mpr (z_at_len h), by rw [h]; rfl⟩
theorem z_lst_has {w : z_Wd} {LS : Array Slot} {ls : z_L} {n : Nat} (h : z_LR w LS ls n) : lv_has LS n (z_lst w ls) := by
  refine ⟨h.1, h.2.1, fun q hq => ?_⟩
  obtain ⟨k, -, hk⟩ := List.mem_filterMap.mp hq
  cases hz : z_at ls k with
  | none => rw [hz] at hk; cases hk
  | some v =>
    rw [hz] at hk
    cases hk
    exact h.2.2.2 k v hz
theorem z_store1 {w : z_Wd} (hw : z_WV w) {LS : Array Slot} {ls : z_L} {n k : Nat} {v : z_V} (h : z_LR w LS ls n) (hk : k < n) (hc : z_is2 v = false) : ∃ LS', storeLocals LS k (z_enc w v) = some LS' ∧ z_LR w LS' (z_s1 ls k v) n := by
  obtain ⟨LS', h1, h2⟩ := lv_store1 (v := z_enc w v) (z_lst_has h) hk (z_cat1 hw hc)
  refine ⟨LS', h1, h2.1, h2.2.1, (z_s1_len _ _ _).trans h.2.2.1, fun j x hx => ?_⟩
  rcases z_s1_at _ _ _ _ _ hx with ⟨rfl, rfl⟩ | ⟨g1, g2, g3⟩
  · exact h2.2.2 _ List.mem_cons_self
  · refine h2.2.2 (j, z_enc w x) (List.mem_cons_of_mem _ (List.mem_filter.mpr ⟨z_lst_mem g2, ?_⟩))
    have e1 : (j == k) = false := by simpa using g1
    simp only [e1, Bool.not_false, Bool.true_and, Bool.not_eq_true', Bool.and_eq_false_iff, beq_eq_false_iff_ne]
    by_cases q : j + 1 = k
    · right
      intro z
      cases hx2 : z_is2 x with
      | true => exact g3 ⟨q, hx2⟩
      | false => rw [z_cat1 hw hx2] at z; omega
    · exact Or.inl q
theorem z_store2 {w : z_Wd} (hw : z_WV w) {LS : Array Slot} {ls : z_L} {n k : Nat} {v : z_V} (h : z_LR w LS ls n) (hk : k + 1 < n) (hc : z_is2 v = true) : ∃ LS', storeLocals LS k (z_enc w v) = some LS' ∧ z_LR w LS' (z_s2 ls k v) n := by
  obtain ⟨LS', h1, h2⟩ := lv_store2 (v := z_enc w v) (z_lst_has h) hk (z_cat2 hc)
  refine ⟨LS', h1, h2.1, h2.2.1, (z_s2_len _ _ _).trans h.2.2.1, fun j x hx => ?_⟩
  rcases z_s2_at _ _ _ _ _ hx with ⟨rfl, rfl⟩ | ⟨g1, g1', g2, g3⟩
  · exact h2.2.2 _ List.mem_cons_self
  · refine h2.2.2 (j, z_enc w x) (List.mem_cons_of_mem _ (List.mem_filter.mpr ⟨z_lst_mem g2, ?_⟩))
    have e1 : (j == k) = false := by simpa using g1
    have e2 : (j == k + 1) = false := by simpa using g1'
    simp only [e1, e2, Bool.not_false, Bool.true_and, Bool.not_eq_true', Bool.and_eq_false_iff, beq_eq_false_iff_ne]
    by_cases q : j + 1 = k
    · right
      intro z
      cases hx2 : z_is2 x with
      | true => exact g3 ⟨q, hx2⟩
      | false => rw [z_cat1 hw hx2] at z; omega
    · exact Or.inl q
theorem z_dec {i pc : Nat} {I : Instr} (hI : (z_co i pc).1 = I) (hne : ¬ I = .athrow) : decode (z_by i) pc = .ok (I, z_len I (z_co i pc).2.1) ∧ ∀ x ∈ z_need i I (z_co i pc).2.2.1 (z_co i pc).2.2.2.1, x ∈ lw_tbl ∧ z_ok x = true := by
  have h := z_checked i pc
  unfold z_chk at h
  generalize z_co i pc = r at h hI
  obtain ⟨I', k, x, y, ps⟩ := r
  dsimp only at hI h ⊢
  subst hI
  have h' : (decide (decode (z_by i) pc = .ok (I', z_len I' k)) && decide (z_need i I' x y = ps.map (fun q => lw_tbl.getD q .tt)) && ps.all (fun q => Nat.blt q 1796 && z_ok (lw_tbl.getD q .tt))) = true := by
    cases I' <;> first | exact absurd rfl hne | exact h
  simp only [Bool.and_eq_true, decide_eq_true_eq] at h'
  obtain ⟨⟨h1, h2⟩, h3⟩ := h'
  refine ⟨h1, fun v hv => ?_⟩
  rw [h2] at hv
  obtain ⟨q, hq, rfl⟩ := List.mem_map.mp hv
  have h4 := List.all_eq_true.mp h3 q hq
  simp only [Bool.and_eq_true] at h4
  refine ⟨?_, h4.2⟩
  have hl : q < lw_tbl.length := by
    have e : lw_tbl.length = 1796 := by decide +kernel
    rw [e]
    exact (Nat.blt_eq).mp h4.1
  rw [List.getD_eq_getElem?_getD, List.getElem?_eq_getElem hl]
  exact List.getElem_mem hl
