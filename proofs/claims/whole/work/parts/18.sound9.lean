theorem z_b8 {n : Int} (h : -128 ≤ n ∧ n < 128) : (Int8.ofInt n).toInt32 = Int32.ofInt n := by
  apply Int32.toInt_inj.mp
  rw [Int8.toInt_toInt32, Int8.toInt_ofInt, z_t32 (by omega) (by omega)]
  simp only [Int.bmod, Int8.size]
  omega
theorem z_b16 {n : Int} (h : -32768 ≤ n ∧ n < 32768) : (Int16.ofInt n).toInt32 = Int32.ofInt n := by
  apply Int32.toInt_inj.mp
  rw [Int16.toInt_toInt32, Int16.toInt_ofInt, z_t32 (by omega) (by omega)]
  simp only [Int.bmod, Int16.size]
  omega
theorem z_b64 {a : Int} (h : -2147483648 ≤ a ∧ a < 2147483648) : (Int32.ofInt a).toInt64 = Int64.ofInt a := by
  apply Int64.toInt_inj.mp
  rw [Int32.toInt_toInt64, z_t32 h.1 h.2, z_t64 (by omega) (by omega)]
theorem z_cst {x : Nat} (y : Nat) : (cond (Nat.beq y 0) (Int32.ofNat x) (-(Int32.ofNat x)) : Int32) = Int32.ofInt (cond (Nat.beq y 0) ((x : Nat) : Int) (-((x : Nat) : Int))) := by
  cases Nat.beq y 0
  · show -(Int32.ofNat x) = Int32.ofInt (-((x : Nat) : Int))
    rw [Int32.ofInt_neg, Int32.ofInt_eq_ofNat]
  · show Int32.ofNat x = Int32.ofInt (x : Int)
    rw [Int32.ofInt_eq_ofNat]
theorem z_cstL {x : Nat} (y : Nat) : (cond (Nat.beq y 0) (Int64.ofNat x) (-(Int64.ofNat x)) : Int64) = Int64.ofInt (cond (Nat.beq y 0) ((x : Nat) : Int) (-((x : Nat) : Int))) := by
  cases Nat.beq y 0
  · show -(Int64.ofNat x) = Int64.ofInt (-((x : Nat) : Int))
    rw [Int64.ofInt_neg, Int64.ofInt_eq_ofNat]
  · show Int64.ofNat x = Int64.ofInt (x : Int)
    rw [Int64.ofInt_eq_ofNat]
theorem z_strs : ∀ x, 7 < x → x < 22 → 8 + (x - 8) = x := by omega
section SoundM
variable {p : Program} {l : Launch} {e : Env} {R : Room} {s : State} {m : MethodId} {args : Array Value} {below : List Frame} {meth : Method} {c : Code} {QQ : State → Prop} {w : z_Wd} {i : Nat} {n0 : Int}
variable {md : Bool} {pc : Nat} {ls : z_L} {st : List z_V} {kc ks : Nat} {V : z_M}
theorem z_math_w (hT : z_TB w s) {j idx y : Nat} (hj : j = 259 ∨ j = 260 ∨ j = 261) (hy : z_lk i idx y (z_my j) ∈ lw_tbl ∧ z_ok (z_lk i idx y (z_my j)) = true) (hst : Cond.static (z_my j) ∈ lw_tbl ∧ z_ok (Cond.static (z_my j)) = true) (hyy : Nat.beq y 0 = true) :
    (Cond.methodLink (z_own i) idx (z_my j)).before args s = true ∧ (Cond.static (z_my j)).before args s = true ∧ (Cond.initialized (z_my j).cls).before args s = true ∧ (Cond.code (z_my j) (z_by j) (z_ml j) (z_rt j)).before args s = true := by
  unfold z_lk at hy
  rw [hyy] at hy
  obtain ⟨c1, c2, c3⟩ := z_code_at (j := j) (by omega) (by unfold z_NM; omega)
  exact ⟨z_word hT hy rfl, z_word hT hst rfl, z_word hT ⟨c3, rfl⟩ rfl, z_word hT ⟨c1, by unfold z_ok; rw [c2]; rfl⟩ rfl⟩
theorem z_s_abs (hT : z_TB w s) (hw : z_WV w) (hx : p.tables.exec = Jvm.exec) (hb : c.code = z_by i) (hml : c.maxLocals = z_ml i) (hown : s.vm.findClass (z_own i) = some m.cls) (hR : (z_al i).1 ≤ R.cells ∧ (z_al i).2 ≤ R.slots) (hR2 : 1 ≤ R.frames ∧ 45 ≤ R.locals) {idx : Nat} (hd : decode (z_by i) pc = .ok (.invokestatic idx, 3))
    (hw4 : (Cond.methodLink (z_own i) idx (z_my 259)).before args s = true ∧ (Cond.static (z_my 259)).before args s = true ∧ (Cond.initialized (z_my 259).cls).before args s = true ∧ (Cond.code (z_my 259) (z_by 259) (z_ml 259) (z_rt 259)).before args s = true)
    (h : z_i1 st fun a r => z_g (z_sum r ≤ 8) (z_WP p l e R s m args below meth c QQ w i n0 md (pc + 3) ls (.inl (z_abs a) :: r) kc ks V)) : z_WP p l e R s m args below meth c QQ w i n0 md pc ls st kc ks V := by
  unfold z_i1 at h
  split at h
  · rename_i a r
    obtain ⟨hs, h⟩ := z_g_e h
    intro H locs LS hF
    have ha := z_ok_hd hF.2.2.2.1
    have k := h H locs LS (hF.stk (z_ok_cons (v := .inl (z_abs a)) (by unfold z_abs; split; exact z_r32 _; exact ha) (z_ok_tl hF.2.2.2.1)))
    refine va_mabs hx hb (by rw [hml]; exact hF.2.2.1.1.symm) hown hw4.1 hw4.2.1 hw4.2.2.1 hw4.2.2.2 hR2.1 (by rw [z_sum_cat hw]; omega) (Nat.le_trans hF.2.2.2.2.2.1 hR.1) (Nat.le_trans hF.2.2.2.2.2.2.1 hR.2) hd ?_
    have e : (if 0 ≤ Int32.ofInt a then Int32.ofInt a else 0 - Int32.ofInt a) = Int32.ofInt (z_abs a) := by
      have e4 : 0 ≤ Int32.ofInt a ↔ ¬ a < 0 := (z_le32 (a := 0) (by omega) ha).trans (by omega)
      unfold z_abs
      by_cases q : a < 0
      · rw [if_neg (fun z => (e4.mp z) q), if_pos q]
        unfold z_neg
        rw [z_o32]
        exact Int32.zero_sub _
      · rw [if_pos (e4.mpr q), if_neg q]
    rw [e]
    exact k
  · exact h.elim
theorem z_s_max (hT : z_TB w s) (hw : z_WV w) (hx : p.tables.exec = Jvm.exec) (hb : c.code = z_by i) (hml : c.maxLocals = z_ml i) (hown : s.vm.findClass (z_own i) = some m.cls) (hR : (z_al i).1 ≤ R.cells ∧ (z_al i).2 ≤ R.slots) (hR2 : 1 ≤ R.frames ∧ 45 ≤ R.locals) {idx : Nat} (hd : decode (z_by i) pc = .ok (.invokestatic idx, 3))
    (hw4 : (Cond.methodLink (z_own i) idx (z_my 260)).before args s = true ∧ (Cond.static (z_my 260)).before args s = true ∧ (Cond.initialized (z_my 260).cls).before args s = true ∧ (Cond.code (z_my 260) (z_by 260) (z_ml 260) (z_rt 260)).before args s = true)
    (h : z_i2 st fun a b r => z_g (z_sum r ≤ 8) (z_WP p l e R s m args below meth c QQ w i n0 md (pc + 3) ls (.inl (z_max a b) :: r) kc ks V)) : z_WP p l e R s m args below meth c QQ w i n0 md pc ls st kc ks V := by
  unfold z_i2 at h
  split at h
  · rename_i b a r
    obtain ⟨hs, h⟩ := z_g_e h
    intro H locs LS hF
    have hb' := z_ok_hd hF.2.2.2.1
    have ha := z_ok_hd (z_ok_tl hF.2.2.2.1)
    have k := h H locs LS (hF.stk (z_ok_cons (v := .inl (z_max a b)) (by unfold z_max; split; exact hb'; exact ha) (z_ok_tl (z_ok_tl hF.2.2.2.1))))
    refine va_mmax hx hb (by rw [hml]; exact hF.2.2.1.1.symm) hown hw4.1 hw4.2.1 hw4.2.2.1 hw4.2.2.2 hR2.1 (by rw [z_sum_cat hw]; omega) (Nat.le_trans hF.2.2.2.2.2.1 hR.1) (Nat.le_trans hF.2.2.2.2.2.2.1 hR.2) hd ?_
    have e : (if Int32.ofInt a < Int32.ofInt b then Int32.ofInt b else Int32.ofInt a) = Int32.ofInt (z_max a b) := by
      have e4 := z_lt32 ha hb'
      unfold z_max
      by_cases q : a < b
      · rw [if_pos (e4.mpr q), if_pos q]
      · rw [if_neg (fun z => q (e4.mp z)), if_neg q]
    rw [e]
    exact k
  · exact h.elim
theorem z_s_min (hT : z_TB w s) (hw : z_WV w) (hx : p.tables.exec = Jvm.exec) (hb : c.code = z_by i) (hml : c.maxLocals = z_ml i) (hown : s.vm.findClass (z_own i) = some m.cls) (hR : (z_al i).1 ≤ R.cells ∧ (z_al i).2 ≤ R.slots) (hR2 : 1 ≤ R.frames ∧ 45 ≤ R.locals) {idx : Nat} (hd : decode (z_by i) pc = .ok (.invokestatic idx, 3))
    (hw4 : (Cond.methodLink (z_own i) idx (z_my 261)).before args s = true ∧ (Cond.static (z_my 261)).before args s = true ∧ (Cond.initialized (z_my 261).cls).before args s = true ∧ (Cond.code (z_my 261) (z_by 261) (z_ml 261) (z_rt 261)).before args s = true)
    (h : z_i2 st fun a b r => z_g (z_sum r ≤ 8) (z_WP p l e R s m args below meth c QQ w i n0 md (pc + 3) ls (.inl (z_min a b) :: r) kc ks V)) : z_WP p l e R s m args below meth c QQ w i n0 md pc ls st kc ks V := by
  unfold z_i2 at h
  split at h
  · rename_i b a r
    obtain ⟨hs, h⟩ := z_g_e h
    intro H locs LS hF
    have hb' := z_ok_hd hF.2.2.2.1
    have ha := z_ok_hd (z_ok_tl hF.2.2.2.1)
    have k := h H locs LS (hF.stk (z_ok_cons (v := .inl (z_min a b)) (by unfold z_min; split; exact hb'; exact ha) (z_ok_tl (z_ok_tl hF.2.2.2.1))))
    refine va_mmin hx hb (by rw [hml]; exact hF.2.2.1.1.symm) hown hw4.1 hw4.2.1 hw4.2.2.1 hw4.2.2.2 hR2.1 (by rw [z_sum_cat hw]; omega) (Nat.le_trans hF.2.2.2.2.2.1 hR.1) (Nat.le_trans hF.2.2.2.2.2.2.1 hR.2) hd ?_
    have e : (if Int32.ofInt b < Int32.ofInt a then Int32.ofInt b else Int32.ofInt a) = Int32.ofInt (z_min a b) := by
      have e4 := z_lt32 hb' ha
      unfold z_min
      by_cases q : b < a
      · rw [if_pos (e4.mpr q), if_pos q]
      · rw [if_neg (fun z => q (e4.mp z)), if_neg q]
    rw [e]
    exact k
  · exact h.elim
end SoundM
section Sound9
variable {p : Program} {l : Launch} {e : Env} {R : Room} {s : State} {m : MethodId} {args : Array Value} {below : List Frame} {meth : Method} {c : Code} {QQ : State → Prop} {w : z_Wd} {i : Nat} {n0 : Int}
variable {md : Bool} {pc : Nat} {ls : z_L} {st : List z_V} {kc ks : Nat} {V : z_M} {C : z_C} {d : Nat} {Q : Int → z_M → Prop}
theorem z_sound1 (hw : z_WV w) (hT : z_TB w s) (hx : p.tables.exec = Jvm.exec) (hb : c.code = z_by i) (hml : c.maxLocals = z_ml i) (hown : s.vm.findClass (z_own i) = some m.cls) (hname : (z_my i).name = "<init>" → meth.name = "<init>") (hR : (z_al i).1 ≤ R.cells ∧ (z_al i).2 ≤ R.slots) (hR3 : d + 1 ≤ R.frames ∧ 45 * (d + 1) ≤ R.locals) (hC : z_IH C l w d)
    (hri : ∀ (pc : Nat) (ls : z_L) (LS : Array Slot) (kc ks : Nat) (z : Int) (V : z_M) (H : Heap) (locs : List Loc), decode (z_by i) pc = .ok (.ireturn, 1) → z_ret (z_rk i) z (Q z V) → z_Fc w s i n0 md ls [.inl z] kc ks V H locs LS → W p l e R s m args below meth c H locs kc ks QQ (F0 m pc LS [.int (Int32.ofInt z)]))
    (hrl : ∀ (pc : Nat) (ls : z_L) (LS : Array Slot) (kc ks : Nat) (z : Int) (V : z_M) (H : Heap) (locs : List Loc), decode (z_by i) pc = .ok (.lreturn, 1) → z_rk i = 2 → Q z V → z_Fc w s i n0 md ls [.inr (.inl z)] kc ks V H locs LS → W p l e R s m args below meth c H locs kc ks QQ (F0 m pc LS [.long (Int64.ofInt z)]))
    (hra : ∀ (pc : Nat) (ls : z_L) (LS : Array Slot) (kc ks : Nat) (a : Nat) (V : z_M) (H : Heap) (locs : List Loc), decode (z_by i) pc = .ok (.areturn, 1) → z_rk i = 3 → Q a V → z_Fc w s i n0 md ls [.inr (.inr a)] kc ks V H locs LS → W p l e R s m args below meth c H locs kc ks QQ (F0 m pc LS [z_rv w a]))
    (hrv : ∀ (pc : Nat) (ls : z_L) (LS : Array Slot) (kc ks : Nat) (V : z_M) (H : Heap) (locs : List Loc), decode (z_by i) pc = .ok (.return_, 1) → z_rk i = 0 → Q 0 V → z_Fc w s i n0 md ls [] kc ks V H locs LS → W p l e R s m args below meth c H locs kc ks QQ (F0 m pc LS []))
    (h : z_Stp C i Q (z_WP p l e R s m args below meth c QQ w i n0) md pc ls st kc ks V) : z_WP p l e R s m args below meth c QQ w i n0 md pc ls st kc ks V := by
  have hR2 : 1 ≤ R.frames ∧ 45 ≤ R.locals := ⟨by omega, by omega⟩
  cases hI : (z_co i pc).1 with
  | iconst n =>
    obtain ⟨hd, hn⟩ := z_dec hI (fun q => by cases q)
    unfold z_Stp at h; rw [hI] at h; dsimp only at h
    obtain ⟨h1, h2⟩ := z_g_e h
    exact z_s_push (v := .inl n) (k := 1) (fun H locs LS rest kk => lv_iconst hx hb hd rfl kk) h1 h2
  | bipush n =>
    obtain ⟨hd, hn⟩ := z_dec hI (fun q => by cases q)
    unfold z_Stp at h; rw [hI] at h; dsimp only at h
    obtain ⟨h1, h2⟩ := z_g_e h
    exact z_s_push (v := .inl n) (k := 2) (fun H locs LS rest kk => lv_bipush hx hb hd (z_b8 h1) kk) (by show _ ≤ _ ∧ _; omega) h2
  | sipush n =>
    obtain ⟨hd, hn⟩ := z_dec hI (fun q => by cases q)
    unfold z_Stp at h; rw [hI] at h; dsimp only at h
    obtain ⟨h1, h2⟩ := z_g_e h
    exact z_s_push (v := .inl n) (k := 3) (fun H locs LS rest kk => lv_sipush hx hb hd (z_b16 h1) kk) (by show _ ≤ _ ∧ _; omega) h2
  | lconst n =>
    obtain ⟨hd, hn⟩ := z_dec hI (fun q => by cases q)
    unfold z_Stp at h; rw [hI] at h; dsimp only at h
    exact z_s_push (v := .inr (.inl ((n : Nat) : Int))) (k := 1) (fun H locs LS rest kk => lv_lconst hx hb hd (Int64.ofInt_eq_ofNat ..).symm kk) (by have := n.isLt; show _ ≤ _ ∧ _; omega) h
  | aconst_null =>
    obtain ⟨hd, hn⟩ := z_dec hI (fun q => by cases q)
    unfold z_Stp at h; rw [hI] at h; dsimp only at h
    intro H locs LS hF
    exact lv_null hx hb hd (h H locs LS (hF.stk (z_ok_cons (by show (0 : Int) < V 0 0; have := hF.1.1; omega) hF.2.2.2.1)))
  | iload_n k =>
    obtain ⟨hd, hn⟩ := z_dec hI (fun q => by cases q)
    unfold z_Stp at h; rw [hI] at h; dsimp only at h
    exact z_s_iload hx hb (Or.inl ⟨k, rfl, rfl, hd⟩) h
  | iload k =>
    obtain ⟨hd, hn⟩ := z_dec hI (fun q => by cases q)
    unfold z_Stp at h; rw [hI] at h; dsimp only at h
    exact z_s_iload hx hb (Or.inr ⟨rfl, hd⟩) h
  | lload_n k =>
    obtain ⟨hd, hn⟩ := z_dec hI (fun q => by cases q)
    unfold z_Stp at h; rw [hI] at h; dsimp only at h
    exact z_s_lload hx hb (Or.inl ⟨k, rfl, rfl, hd⟩) h
  | lload k =>
    obtain ⟨hd, hn⟩ := z_dec hI (fun q => by cases q)
    unfold z_Stp at h; rw [hI] at h; dsimp only at h
    exact z_s_lload hx hb (Or.inr ⟨rfl, hd⟩) h
  | aload_n k =>
    obtain ⟨hd, hn⟩ := z_dec hI (fun q => by cases q)
    unfold z_Stp at h; rw [hI] at h; dsimp only at h
    exact z_s_aload hw hx hb (Or.inl ⟨k, rfl, rfl, hd⟩) h
  | aload k =>
    obtain ⟨hd, hn⟩ := z_dec hI (fun q => by cases q)
    unfold z_Stp at h; rw [hI] at h; dsimp only at h
    exact z_s_aload hw hx hb (Or.inr ⟨rfl, hd⟩) h
  | istore_n k =>
    obtain ⟨hd, hn⟩ := z_dec hI (fun q => by cases q)
    unfold z_Stp at h; rw [hI] at h; dsimp only at h
    exact z_s_istore hw hx hb (Or.inl ⟨k, rfl, rfl, hd⟩) h
  | istore k =>
    obtain ⟨hd, hn⟩ := z_dec hI (fun q => by cases q)
    unfold z_Stp at h; rw [hI] at h; dsimp only at h
    exact z_s_istore hw hx hb (Or.inr ⟨rfl, hd⟩) h
  | astore_n k =>
    obtain ⟨hd, hn⟩ := z_dec hI (fun q => by cases q)
    unfold z_Stp at h; rw [hI] at h; dsimp only at h
    exact z_s_astore hw hx hb (Or.inl ⟨k, rfl, rfl, hd⟩) h
  | astore k =>
    obtain ⟨hd, hn⟩ := z_dec hI (fun q => by cases q)
    unfold z_Stp at h; rw [hI] at h; dsimp only at h
    exact z_s_astore hw hx hb (Or.inr ⟨rfl, hd⟩) h
  | lstore_n k =>
    obtain ⟨hd, hn⟩ := z_dec hI (fun q => by cases q)
    unfold z_Stp at h; rw [hI] at h; dsimp only at h
    exact z_s_lstore hw hx hb (Or.inl ⟨k, rfl, rfl, hd⟩) h
  | lstore k =>
    obtain ⟨hd, hn⟩ := z_dec hI (fun q => by cases q)
    unfold z_Stp at h; rw [hI] at h; dsimp only at h
    exact z_s_lstore hw hx hb (Or.inr ⟨rfl, hd⟩) h
  | iinc k q =>
    obtain ⟨hd, hn⟩ := z_dec hI (fun q => by cases q)
    unfold z_Stp at h; rw [hI] at h; dsimp only at h
    exact z_s_iinc hw hx hb hd h
  | iadd =>
    obtain ⟨hd, hn⟩ := z_dec hI (fun q => by cases q)
    unfold z_Stp at h; rw [hI] at h; dsimp only at h
    exact z_s_bin (fun x y => x + y) (fun H locs LS x y rest kk => lv_iadd hx hb hd kk) h
  | isub =>
    obtain ⟨hd, hn⟩ := z_dec hI (fun q => by cases q)
    unfold z_Stp at h; rw [hI] at h; dsimp only at h
    exact z_s_bin (fun x y => x - y) (fun H locs LS x y rest kk => lv_isub hx hb hd kk) h
  | imul =>
    obtain ⟨hd, hn⟩ := z_dec hI (fun q => by cases q)
    unfold z_Stp at h; rw [hI] at h; dsimp only at h
    exact z_s_bin (fun x y => x * y) (fun H locs LS x y rest kk => lv_imul hx hb hd kk) h
  | iand =>
    obtain ⟨hd, hn⟩ := z_dec hI (fun q => by cases q)
    unfold z_Stp at h; rw [hI] at h; dsimp only at h
    exact z_s_bin (fun x y => x &&& y) (fun H locs LS x y rest kk => lv_iand hx hb hd kk) h
  | ior =>
    obtain ⟨hd, hn⟩ := z_dec hI (fun q => by cases q)
    unfold z_Stp at h; rw [hI] at h; dsimp only at h
    exact z_s_bin (fun x y => x ||| y) (fun H locs LS x y rest kk => lv_ior hx hb hd kk) h
  | ixor =>
    obtain ⟨hd, hn⟩ := z_dec hI (fun q => by cases q)
    unfold z_Stp at h; rw [hI] at h; dsimp only at h
    exact z_s_bin (fun x y => x ^^^ y) (fun H locs LS x y rest kk => lv_ixor hx hb hd kk) h
  | ishl =>
    obtain ⟨hd, hn⟩ := z_dec hI (fun q => by cases q)
    unfold z_Stp at h; rw [hI] at h; dsimp only at h
    exact z_s_bin (fun x y => x <<< (y &&& 31)) (fun H locs LS x y rest kk => lv_ishl hx hb hd kk) h
  | ishr =>
    obtain ⟨hd, hn⟩ := z_dec hI (fun q => by cases q)
    unfold z_Stp at h; rw [hI] at h; dsimp only at h
    exact z_s_bin (fun x y => x >>> (y &&& 31)) (fun H locs LS x y rest kk => lv_ishr hx hb hd kk) h
  | iushr =>
    obtain ⟨hd, hn⟩ := z_dec hI (fun q => by cases q)
    unfold z_Stp at h; rw [hI] at h; dsimp only at h
    exact z_s_bin (fun x y => (x.toUInt32 >>> (y.toUInt32 &&& Int32.toUInt32 31)).toInt32) (fun H locs LS x y rest kk => lv_iushr hx hb hd rfl kk) h
  | irem =>
    obtain ⟨hd, hn⟩ := z_dec hI (fun q => by cases q)
    unfold z_Stp at h; rw [hI] at h; dsimp only at h
    exact z_s_binN (fun x y => x - x / y * y) (fun H locs LS x y rest hne kk => lv_irem hx hb hd hne kk) h
  | ineg =>
    obtain ⟨hd, hn⟩ := z_dec hI (fun q => by cases q)
    unfold z_Stp at h; rw [hI] at h; dsimp only at h
    exact z_s_un (g := fun a => .inl (z_neg a)) (fun H locs LS a rest ha kk => lv_ineg hx hb hd (by have kk : W p l e R s m args below meth c H locs kc ks QQ (F0 m (pc + 1) LS (.int (Int32.ofInt (z_neg a)) :: rest)) := kk; unfold z_neg at kk; rw [z_o32] at kk; exact kk)) (fun a _ => z_r32 _) h
  | i2c =>
    obtain ⟨hd, hn⟩ := z_dec hI (fun q => by cases q)
    unfold z_Stp at h; rw [hI] at h; dsimp only at h
    exact z_s_un (g := fun a => .inl (z_i2c a)) (fun H locs LS a rest ha kk => lv_i2c hx hb hd (by unfold z_i2c; rw [z_o32]) kk) (fun a _ => z_r32 _) h
  | i2l =>
    obtain ⟨hd, hn⟩ := z_dec hI (fun q => by cases q)
    unfold z_Stp at h; rw [hI] at h; dsimp only at h
    exact z_s_un (g := fun a => .inr (.inl a)) (fun H locs LS a rest ha kk => lv_i2l hx hb hd (z_b64 ha) kk) (fun a ha => by show _ ≤ _ ∧ _; omega) h
  | l2i =>
    obtain ⟨hd, hn⟩ := z_dec hI (fun q => by cases q)
    unfold z_Stp at h; rw [hI] at h; dsimp only at h
    exact z_s_l2i hx hb hd h
  | ladd =>
    obtain ⟨hd, hn⟩ := z_dec hI (fun q => by cases q)
    unfold z_Stp at h; rw [hI] at h; dsimp only at h
    exact z_s_lbin (fun x y => x + y) (fun H locs LS x y rest kk => lv_ladd hx hb hd kk) h
  | lsub =>
    obtain ⟨hd, hn⟩ := z_dec hI (fun q => by cases q)
    unfold z_Stp at h; rw [hI] at h; dsimp only at h
    exact z_s_lbin (fun x y => x - y) (fun H locs LS x y rest kk => lv_lsub hx hb hd kk) h
  | lmul =>
    obtain ⟨hd, hn⟩ := z_dec hI (fun q => by cases q)
    unfold z_Stp at h; rw [hI] at h; dsimp only at h
    exact z_s_lbin (fun x y => x * y) (fun H locs LS x y rest kk => lv_lmul hx hb hd kk) h
  | ldiv =>
    obtain ⟨hd, hn⟩ := z_dec hI (fun q => by cases q)
    unfold z_Stp at h; rw [hI] at h; dsimp only at h
    exact z_s_lbinN (fun x y => x / y) (fun H locs LS x y rest hne kk => lv_ldiv hx hb hd hne kk) h
  | lrem =>
    obtain ⟨hd, hn⟩ := z_dec hI (fun q => by cases q)
    unfold z_Stp at h; rw [hI] at h; dsimp only at h
    exact z_s_lbinN (fun x y => x - x / y * y) (fun H locs LS x y rest hne kk => lv_lrem hx hb hd hne kk) h
  | lcmp =>
    obtain ⟨hd, hn⟩ := z_dec hI (fun q => by cases q)
    unfold z_Stp at h; rw [hI] at h; dsimp only at h
    exact z_s_lcmp hx hb hd h
  | dup =>
    obtain ⟨hd, hn⟩ := z_dec hI (fun q => by cases q)
    unfold z_Stp at h; rw [hI] at h; dsimp only at h
    exact z_s_dup hw hx hb hd h
  | pop =>
    obtain ⟨hd, hn⟩ := z_dec hI (fun q => by cases q)
    unfold z_Stp at h; rw [hI] at h; dsimp only at h
    exact z_s_pop hw hx hb hd h
  | dup2 =>
    obtain ⟨hd, hn⟩ := z_dec hI (fun q => by cases q)
    unfold z_Stp at h; rw [hI] at h; dsimp only at h
    exact z_s_dup2 hw hx hb hd h
  | goto off =>
    obtain ⟨hd, hn⟩ := z_dec hI (fun q => by cases q)
    unfold z_Stp at h; rw [hI] at h; dsimp only at h
    exact z_s_goto hx hb hd h
  | ifCond cd off =>
    obtain ⟨hd, hn⟩ := z_dec hI (fun q => by cases q)
    unfold z_Stp at h; rw [hI] at h; dsimp only at h
    exact z_s_if hx hb hd h
  | if_icmp cd off =>
    obtain ⟨hd, hn⟩ := z_dec hI (fun q => by cases q)
    unfold z_Stp at h; rw [hI] at h; dsimp only at h
    exact z_s_icmp hx hb hd h
  | ifnull off =>
    obtain ⟨hd, hn⟩ := z_dec hI (fun q => by cases q)
    unfold z_Stp at h; rw [hI] at h; dsimp only at h
    exact z_s_ifnull hx hb hd h
  | ifnonnull off =>
    obtain ⟨hd, hn⟩ := z_dec hI (fun q => by cases q)
    unfold z_Stp at h; rw [hI] at h; dsimp only at h
    exact z_s_ifnonnull hx hb hd h
  | tableswitch dd lo hi offs =>
    obtain ⟨hd, hn⟩ := z_dec hI (fun q => by cases q)
    unfold z_Stp at h; rw [hI] at h; dsimp only at h
    exact z_s_sw hx hb hd h
  | ldc idx =>
    obtain ⟨hd, hn⟩ := z_dec hI (fun q => by cases q)
    unfold z_Stp at h; rw [hI] at h; dsimp only at h
    unfold z_need at hn; dsimp only at hn
    cases hy : Nat.beq (z_co i pc).2.2.2.1 2 with
    | true =>
      rw [hy] at h
      obtain ⟨h1, h2⟩ := z_g_e h
      have hs := hT.2.2.2.2.1 ((z_co i pc).2.2.1 - 8) (by omega)
      have hq := z_checked3 i pc
      unfold z_chk3 at hq
      generalize z_co i pc = r at *
      obtain ⟨I, k, x, y, ps⟩ := r
      dsimp only at hI h1 h2 hs hy
      subst hI
      dsimp only at hq
      rw [hy] at hq
      simp only [Bool.not_true, Bool.false_or, Bool.and_eq_true, decide_eq_true_eq] at hq
      have e8 : 8 + (x - 8) = x := by omega
      rw [e8, ← hq.2, ← hq.1] at hs
      intro H locs LS hF
      have k := h2 H locs LS (hF.stk (z_ok_cons (v := .inr (.inr x)) (by show (x : Int) < V 0 0; have := hF.1.1; omega) hF.2.2.2.1))
      have k : W p l e R s m args below meth c H locs kc ks QQ (F0 m (pc + 2) LS (z_rv w x :: st.map (z_enc w))) := k
      rw [z_rv_hi (by omega) (by omega)] at k
      have ead : z_ad w x = z_adS w x := by unfold z_ad; rw [if_pos (by omega)]
      rw [ead] at k
      exact va_ldcS hx hb hown hs hd k
    | false =>
      rw [hy] at h hn
      obtain ⟨h1, h2⟩ := z_g_e h
      have hc := z_word (A := args) hT (hn _ List.mem_cons_self) rfl
      rw [z_cst] at hc
      refine z_s_push (v := .inl _) (k := 2) (fun H locs LS rest kk => lv_ldc hx hb hown hc hd kk) ?_ h2
      cases Nat.beq (z_co i pc).2.2.2.1 0
      · simp only [z_okv, cond_false]; omega
      · simp only [z_okv, cond_true]; omega
  | ldc_w idx =>
    obtain ⟨hd, hn⟩ := z_dec hI (fun q => by cases q)
    unfold z_Stp at h; rw [hI] at h; dsimp only at h
    unfold z_need at hn; dsimp only at hn
    obtain ⟨h1, h2⟩ := z_g_e h
    have hc := z_word (A := args) hT (hn _ List.mem_cons_self) rfl
    rw [z_cst] at hc
    refine z_s_push (v := .inl _) (k := 3) (fun H locs LS rest kk => lv_ldcw hx hb hown hc hd kk) ?_ h2
    cases Nat.beq (z_co i pc).2.2.2.1 0
    · simp only [z_okv, cond_false]; omega
    · simp only [z_okv, cond_true]; omega
  | ldc2_w idx =>
    obtain ⟨hd, hn⟩ := z_dec hI (fun q => by cases q)
    unfold z_Stp at h; rw [hI] at h; dsimp only at h
    unfold z_need at hn; dsimp only at hn
    obtain ⟨h1, h2⟩ := z_g_e h
    have hc := z_word (A := args) hT (hn _ List.mem_cons_self) rfl
    rw [z_cstL] at hc
    refine z_s_push (v := .inr (.inl _)) (k := 3) (fun H locs LS rest kk => lv_ldc2 hx hb hown hc hd kk) ?_ h2
    cases Nat.beq (z_co i pc).2.2.2.1 0
    · simp only [z_okv, cond_false]; omega
    · simp only [z_okv, cond_true]; omega
  | getfield idx =>
    obtain ⟨hd, hn⟩ := z_dec hI (fun q => by cases q)
    unfold z_Stp at h; rw [hI] at h; dsimp only at h
    have h2 := z_checked2 i pc
    unfold z_chk2 at h2
    generalize z_co i pc = r at *
    obtain ⟨I, k, x, y, ps⟩ := r
    dsimp only at hI
    subst hI
    simp only [Bool.and_eq_true] at h2
    exact z_s_getf hT hx hb hown ⟨(Nat.blt_eq).mp h2.1, (Nat.blt_eq).mp h2.2⟩ hd (hn _ List.mem_cons_self) h
  | putfield idx =>
    obtain ⟨hd, hn⟩ := z_dec hI (fun q => by cases q)
    unfold z_Stp at h; rw [hI] at h; dsimp only at h
    have h2 := z_checked2 i pc
    unfold z_chk2 at h2
    generalize z_co i pc = r at *
    obtain ⟨I, k, x, y, ps⟩ := r
    dsimp only at hI
    subst hI
    simp only [Bool.and_eq_true, Bool.or_eq_true, decide_eq_true_eq, Bool.not_eq_true'] at h2
    exact z_s_putf hw hT hx hb hown hname ⟨(Nat.blt_eq).mp h2.1.1, (Nat.blt_eq).mp h2.1.2⟩ (fun q => by rcases h2.2 with z | z; rw [q] at z; cases z; exact z) hd (hn _ List.mem_cons_self) h
  | getstatic idx =>
    obtain ⟨hd, hn⟩ := z_dec hI (fun q => by cases q)
    unfold z_Stp at h; rw [hI] at h; dsimp only at h
    exact z_s_gets hx hb hown hT hd hn h
  | iaload =>
    obtain ⟨hd, hn⟩ := z_dec hI (fun q => by cases q)
    unfold z_Stp at h; rw [hI] at h; dsimp only at h
    exact z_s_iald hT hx hb hd h
  | laload =>
    obtain ⟨hd, hn⟩ := z_dec hI (fun q => by cases q)
    unfold z_Stp at h; rw [hI] at h; dsimp only at h
    exact z_s_lald hT hx hb hd h
  | baload =>
    obtain ⟨hd, hn⟩ := z_dec hI (fun q => by cases q)
    unfold z_Stp at h; rw [hI] at h; dsimp only at h
    exact z_s_bald hT hx hb hd h
  | aaload =>
    obtain ⟨hd, hn⟩ := z_dec hI (fun q => by cases q)
    unfold z_Stp at h; rw [hI] at h; dsimp only at h
    exact z_s_aald hT hx hb hd h
  | iastore =>
    obtain ⟨hd, hn⟩ := z_dec hI (fun q => by cases q)
    unfold z_Stp at h; rw [hI] at h; dsimp only at h
    exact z_s_iast hw hT hx hb hd h
  | lastore =>
    obtain ⟨hd, hn⟩ := z_dec hI (fun q => by cases q)
    unfold z_Stp at h; rw [hI] at h; dsimp only at h
    exact z_s_last hw hT hx hb hd h
  | bastore =>
    obtain ⟨hd, hn⟩ := z_dec hI (fun q => by cases q)
    unfold z_Stp at h; rw [hI] at h; dsimp only at h
    exact z_s_bast hw hT hx hb hd h
  | aastore =>
    obtain ⟨hd, hn⟩ := z_dec hI (fun q => by cases q)
    unfold z_Stp at h; rw [hI] at h; dsimp only at h
    exact z_s_aast hw hT hx hb hd h
  | arraylength =>
    obtain ⟨hd, hn⟩ := z_dec hI (fun q => by cases q)
    unfold z_Stp at h; rw [hI] at h; dsimp only at h
    exact z_s_alen hT hx hb hd h
  | checkcast idx =>
    obtain ⟨hd, hn⟩ := z_dec hI (fun q => by cases q)
    unfold z_Stp at h; rw [hI] at h; dsimp only at h
    exact z_s_cast hT hx hb hown hd (hn _ List.mem_cons_self) h
  | new idx =>
    obtain ⟨hd, hn⟩ := z_dec hI (fun q => by cases q)
    unfold z_Stp at h; rw [hI] at h; dsimp only at h
    exact z_s_new hT hw hx hb hown hR hd hn h
  | newarray t =>
    obtain ⟨hd, hn⟩ := z_dec hI (fun q => by cases q)
    unfold z_Stp at h; rw [hI] at h; dsimp only at h
    exact z_s_newa hT hw hx hb hR hd h
  | anewarray idx =>
    obtain ⟨hd, hn⟩ := z_dec hI (fun q => by cases q)
    unfold z_Stp at h; rw [hI] at h; dsimp only at h
    exact z_s_anew hT hw hx hb hown hR hd hn h
  | multianewarray idx dims =>
    obtain ⟨hd, hn⟩ := z_dec hI (fun q => by cases q)
    unfold z_Stp at h; rw [hI] at h; dsimp only at h
    exact z_s_mna hT hw hx hb hown hR hd hn h
  | ireturn =>
    obtain ⟨hd, hn⟩ := z_dec hI (fun q => by cases q)
    unfold z_Stp at h; rw [hI] at h; dsimp only at h
    split at h
    · intro H locs LS hF
      exact hri _ _ _ _ _ _ _ _ _ hd h hF
    · exact h.elim
  | lreturn =>
    obtain ⟨hd, hn⟩ := z_dec hI (fun q => by cases q)
    unfold z_Stp at h; rw [hI] at h; dsimp only at h
    split at h
    · obtain ⟨h1, h2⟩ := z_g_e h
      intro H locs LS hF
      exact hrl _ _ _ _ _ _ _ _ _ hd h1 h2 hF
    · exact h.elim
  | areturn =>
    obtain ⟨hd, hn⟩ := z_dec hI (fun q => by cases q)
    unfold z_Stp at h; rw [hI] at h; dsimp only at h
    split at h
    · obtain ⟨h1, h2⟩ := z_g_e h
      intro H locs LS hF
      exact hra _ _ _ _ _ _ _ _ _ hd h1.1 h2 hF
    · exact h.elim
  | return_ =>
    obtain ⟨hd, hn⟩ := z_dec hI (fun q => by cases q)
    unfold z_Stp at h; rw [hI] at h; dsimp only at h
    split at h
    · obtain ⟨h1, h2⟩ := z_g_e h
      intro H locs LS hF
      exact hrv _ _ _ _ _ _ _ _ hd h1 h2 hF
    · exact h.elim
  | invokevirtual idx =>
    obtain ⟨hd, hn⟩ := z_dec hI (fun q => by cases q)
    unfold z_Stp at h; rw [hI] at h; dsimp only at h
    have h3 := z_checked3 i pc
    unfold z_chk3 at h3
    generalize z_co i pc = r at *
    obtain ⟨I, k, x, y, ps⟩ := r
    dsimp only at hI h hn
    subst hI
    unfold z_need at hn
    dsimp only at hn h3
    cases hx2 : Nat.beq x 1002 with
    | true =>
      rw [hx2] at h hn
      exact z_s_clone hT hw hx hb hml hown hR hR2 hd hn h
    | false =>
      rw [hx2] at h hn
      unfold z_head at h
      dsimp only [cond_false] at h
      split at h
      · rename_i a as' has
        obtain ⟨⟨g1, g2⟩, h⟩ := z_g_e h
        have hj9 := (z_g_e h).1.2.2.2.1
        have hk14 := z_rc_le (j := x) (by omega)
        obtain ⟨p1, p2⟩ := z_kd_pos (a := a) (by omega) (by omega)
        exact z_s_call hw hT hx hb hml hown hR hR3 hC (Or.inr ⟨rfl, a, as', has, p1, p2, Or.inl ⟨hd, hn, g1, g2⟩⟩) h
      · exact h.elim
  | invokespecial idx =>
    obtain ⟨hd, hn⟩ := z_dec hI (fun q => by cases q)
    unfold z_Stp at h; rw [hI] at h; dsimp only at h
    have h3 := z_checked3 i pc
    unfold z_chk3 at h3
    generalize z_co i pc = r at *
    obtain ⟨I, k, x, y, ps⟩ := r
    dsimp only at hI h hn
    subst hI
    unfold z_need at hn
    dsimp only at hn h3
    cases hx2 : Nat.beq x 1000 with
    | true =>
      rw [hx2] at h hn
      exact z_s_oinit hT hw hx hb hml hown hR2 hd hn h
    | false =>
      rw [hx2] at h hn h3
      unfold z_head at h
      dsimp only [cond_false] at h
      simp only [Bool.false_or, Bool.and_eq_true, decide_eq_true_eq] at h3
      split at h
      · rename_i a as' has
        obtain ⟨⟨g1, g2⟩, h⟩ := z_g_e h
        exact z_s_call hw hT hx hb hml hown hR hR3 hC (Or.inr ⟨rfl, a, as', has, g1, g2, Or.inr ⟨hd, hn, h3.1, h3.2⟩⟩) h
      · exact h.elim
  | invokestatic idx =>
    obtain ⟨hd, hn⟩ := z_dec hI (fun q => by cases q)
    unfold z_Stp at h; rw [hI] at h; dsimp only at h
    have h3 := z_checked3 i pc
    unfold z_chk3 at h3
    generalize z_co i pc = r at *
    obtain ⟨I, k, x, y, ps⟩ := r
    dsimp only at hI h hn
    subst hI
    unfold z_need at hn
    dsimp only at hn h3
    cases hx2 : Nat.beq x 1001 with
    | true =>
      rw [hx2] at h hn
      exact z_s_copy hT hw hx hb hml hown hR2 hd hn h
    | false =>
      rw [hx2] at h hn
      dsimp only [cond_false] at h hn
      have hm : x = 259 ∨ x = 260 ∨ x = 261 → Nat.beq y 0 = true := by
        intro q
        simp only [Bool.or_eq_true] at h3
        rcases h3 with (z | z) | z
        · have := (Nat.blt_eq).mp z; omega
        · have := (Nat.blt_eq).mp z; omega
        · exact z
      cases ha : Nat.beq x 259 with
      | true =>
        rw [ha] at h
        have e := Nat.eq_of_beq_eq_true ha
        subst e
        exact z_s_abs hT hw hx hb hml hown hR hR2 hd (z_math_w hT (Or.inl rfl) (hn _ List.mem_cons_self) (hn _ (List.mem_cons_of_mem _ List.mem_cons_self)) (hm (Or.inl rfl))) h
      | false =>
        rw [ha] at h
        dsimp only [cond_false] at h
        cases hb2 : Nat.beq x 260 with
        | true =>
          rw [hb2] at h
          have e := Nat.eq_of_beq_eq_true hb2
          subst e
          exact z_s_max hT hw hx hb hml hown hR hR2 hd (z_math_w hT (Or.inr (Or.inl rfl)) (hn _ List.mem_cons_self) (hn _ (List.mem_cons_of_mem _ List.mem_cons_self)) (hm (Or.inr (Or.inl rfl)))) h
        | false =>
          rw [hb2] at h
          dsimp only [cond_false] at h
          cases hc2 : Nat.beq x 261 with
          | true =>
            rw [hc2] at h
            have e := Nat.eq_of_beq_eq_true hc2
            subst e
            exact z_s_min hT hw hx hb hml hown hR hR2 hd (z_math_w hT (Or.inr (Or.inr rfl)) (hn _ List.mem_cons_self) (hn _ (List.mem_cons_of_mem _ List.mem_cons_self)) (hm (Or.inr (Or.inr rfl)))) h
          | false =>
            rw [hc2] at h
            exact z_s_call hw hT hx hb hml hown hR hR3 hC (Or.inl ⟨rfl, hd, hn⟩) h
  | _ =>
    unfold z_Stp at h
    rw [hI] at h
    exact h.elim
end Sound9
