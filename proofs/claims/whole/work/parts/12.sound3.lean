section Sound3
variable {p : Program} {l : Launch} {e : Env} {R : Room} {s : State} {m : MethodId} {args : Array Value} {below : List Frame} {meth : Method} {c : Code} {QQ : State → Prop} {w : z_Wd} {i : Nat} {n0 : Int}
variable {md : Bool} {pc : Nat} {ls : z_L} {st : List z_V} {kc ks : Nat} {V : z_M}
/-- a field is written -/
theorem z_s_putf (hw : z_WV w) (hT : z_TB w s) (hx : p.tables.exec = Jvm.exec) (hb : c.code = z_by i) (hown : s.vm.findClass (z_own i) = some m.cls) (hname : (z_my i).name = "<init>" → meth.name = "<init>") {idx x y : Nat} (hxy : x < 13 ∧ y < z_nf x) (hfin : (z_T x y).2.2.2 = true → (z_my i).name = "<init>" ∧ z_own i = z_cn x)
    (hd : decode (z_by i) pc = .ok (.putfield idx, 3)) (hn : z_fl i idx x y ∈ lw_tbl ∧ z_ok (z_fl i idx x y) = true)
    (h : z_fv st fun a v r => z_g (z_kd a = x + 1 ∧ 36 ≤ a) (z_wr md (z_Y x y) a y v fun z => z_WP p l e R s m args below meth c QQ w i n0 md (pc + 3) ls r kc ks (z_up V a y z))) : z_WP p l e R s m args below meth c QQ w i n0 md pc ls st kc ks V := by
  unfold z_fv at h
  split at h
  · rename_i v a r
    obtain ⟨⟨hk, ha36⟩, h⟩ := z_g_e h
    intro H locs LS hF
    have hokv := z_ok_hd hF.2.2.2.1
    have hoka := z_ok_hd (z_ok_tl hF.2.2.2.1)
    obtain ⟨a1, a2, a3, cell, q1, q2, q3, q4, q5, q6, q7⟩ := hF.cell hoka (by omega) (by omega)
    obtain ⟨z, hP, hz, hrf, henc, hnar, hfit⟩ := z_wr_e h hokv (z_Yok x hxy.1 y hxy.2)
    have hns : z_nS V a = z_nf x := by unfold z_nS; rw [if_neg (by omega), hk]; rfl
    have hkS : y < z_nS V a := by rw [hns]; exact hxy.2
    have hsm : z_sm w a y = z_dI w x y := by unfold z_sm; rw [if_neg (by omega), hk]; rfl
    have hty : z_sty a y = z_Y x y := by unfold z_sty; rw [if_neg (by omega), hk]; rfl
    have hcl : z_cls w a = z_dC w x := by unfold z_cls; rw [if_neg (by omega), hk]; rfl
    have hslot := (q7 y hkS).1
    rw [hsm] at hslot
    have hrf0 : md = true → z_rf a y = 0 := by
      intro hm
      by_cases hbig : 169 ≤ a
      · exact z_rf_big hbig
      · rcases z_Yok x hxy.1 y hxy.2 with t | t | t | t | t
        · exact z_rf_int x hxy.1 a (by omega) hk y hxy.2 (Or.inl t)
        · exact z_rf_int x hxy.1 a (by omega) hk y hxy.2 (Or.inr (Or.inl t))
        · exact z_rf_int x hxy.1 a (by omega) hk y hxy.2 (Or.inr (Or.inr t))
        · exact hrf (Or.inl t) hm
        · exact hrf (Or.inr t) hm
    obtain ⟨hS, hfc, kC, hkC, hkind⟩ := hT.2.1 x hxy.1
    obtain ⟨cf, kf, fi, f, hi, hsl⟩ := hS y hxy.2
    have hlay2 := z_lay2 hT hxy.1 hxy.2
    have hst := (u_facts hfc hkC hlay2 hi).1
    have hpd := (z_Tok x (by omega) y hxy.2).2.1
    have hdecl := (z_Tok x (by omega) y hxy.2).1
    have fin : ∀ H' : Heap, H'[z_ad w a]? = some (cell.setSlot f.slot (z_enc w v)) → H'.size = H.size → (∀ q, q ≠ z_ad w a → H'[q]? = H[q]?) → W p l e R s m args below meth c H' (locs ++ [⟨z_ad w a, f.slot⟩]) kc ks QQ (F0 m (pc + 3) LS (r.map (z_enc w))) := by
      intro H' e1 e2 e3
      refine hP H' _ LS (hF.put hw hT ha36 hoka hkS (Or.inr (by omega)) (by rw [hty]; exact hz) hrf0 q1 ?_ e2 e3 (z_ok_tl (z_ok_tl hF.2.2.2.1)) _)
      rw [hty, henc _ (z_up_s _ _ _ _), hsm, ← hsl]
      exact e1
    show W p l e R s m args below meth c H locs kc ks QQ (F0 m pc LS (z_enc w v :: z_rv w a :: r.map (z_enc w)))
    rw [a3]
    have hi' : s.fieldFound? (z_cn x) (z_T x y).2.1 (z_T x y).2.2.1 = some (cf, kf, fi, f) := by rw [← hdecl]; exact hi
    cases hff : (z_T x y).2.2.2 with
    | false =>
      have hlay := hT.1 _ (z_lays hxy.1 hxy.2).1 (z_lays hxy.1 hxy.2).2
      unfold u_lay at hlay
      rw [if_neg (by rw [hff]; decide)] at hlay
      have h6 := u_store hfc hkC hkind hlay hi hpd hnar (hfit hw)
      exact W.putK hx hb (f := f) ⟨hown, z_word hT hn rfl, ⟨_, _, _, hi'⟩, hst⟩ (by rw [q2, hcl]; exact h6) q1 (q5 ha36) (by rw [hsl]; exact k2_hasslot hslot) rfl rfl hd fin
    | true =>
      have hlay := hT.1 _ (z_lays hxy.1 hxy.2).1 (z_lays hxy.1 hxy.2).2
      unfold u_lay at hlay
      rw [if_pos hff] at hlay
      have hcf : m.cls = cf := by
        obtain ⟨_, _, c', _, _, _, -, -, hf', -, -, -, hown2, -⟩ := Cond.laysFinal_spec hlay
        have e1 : c' = cf := by have := hi.symm.trans hf'; simp at this; exact this.1.symm
        rw [hdecl, ← (hfin hff).2] at hown2
        rw [← e1]; exact Option.some.inj (hown.symm.trans hown2)
      have h6 := u_fits hfc hkC hkind (Or.inr hlay) hi hpd hnar (hfit hw)
      exact W.putFinK hx hb hown (z_word hT hn rfl) hi' hst hcf (hname (hfin hff).1) (by rw [q2, hcl]; exact h6) q1 (q5 ha36) (by rw [hsl]; exact k2_hasslot hslot) rfl rfl hd fin
  · exact h.elim
/-- a static is read -/
theorem z_r_gets (hx : p.tables.exec = Jvm.exec) (hb : c.code = z_by i) (hown : s.vm.findClass (z_own i) = some m.cls) (hT : z_TB w s) {idx x y : Nat} (hd : decode (z_by i) pc = .ok (.getstatic idx, 3)) (hn : ∀ q ∈ z_need i (.getstatic idx) x y, q ∈ lw_tbl ∧ z_ok q = true) (hx0 : x = 0 ∨ (1 < x ∧ x < 8))
    {H : Heap} {locs : List Loc} {LS : Array Slot} {rest : List Value} (hZ : z_ZS w s H) (kk : W p l e R s m args below meth c H locs kc ks QQ (F0 m (pc + 3) LS (z_zv w x :: rest))) : W p l e R s m args below meth c H locs kc ks QQ (F0 m pc LS rest) := by
  obtain ⟨cf, kf, fi, f, a, cell, h1, h2, h3, h4, h5, h6, h7, h8⟩ := hZ x hx0
  have hun : cell.vm ≠ .unknown := fun q => by rw [q] at h6; cases h6
  unfold z_need at hn
  dsimp only at hn
  cases hy : Nat.beq y 0 with
  | true =>
    rw [hy] at hn
    exact W.gets hx hb hown (z_word hT (hn _ List.mem_cons_self) rfl) h1 h2 h3 h4 h5 hun h7 rfl hd kk
  | false =>
    rw [hy] at hn
    have hl := z_word (A := args) hT (hn _ List.mem_cons_self) rfl
    intro T hT' X
    obtain ⟨vm', X', st⟩ := X.getstaticNest hx hown hl h1 h2 h3 h4 (by rw [hT']; exact h5) hun h7 (g := F0 m pc LS rest) rfl (by rw [hb]; exact hd)
    obtain ⟨t, a1, b1⟩ := kk (T.setVm vm') hT' X'
    exact ⟨t, st t a1, b1⟩
theorem z_s_gets (hx : p.tables.exec = Jvm.exec) (hb : c.code = z_by i) (hown : s.vm.findClass (z_own i) = some m.cls) (hT : z_TB w s) {idx x y : Nat} (hd : decode (z_by i) pc = .ok (.getstatic idx, 3)) (hn : ∀ q ∈ z_need i (.getstatic idx) x y, q ∈ lw_tbl ∧ z_ok q = true)
    (h : cond (Nat.beq x 0) (z_WP p l e R s m args below meth c QQ w i n0 md (pc + 3) ls (.inl 1 :: st) kc ks V) (z_g (1 < x ∧ x < 8) (z_WP p l e R s m args below meth c QQ w i n0 md (pc + 3) ls (.inr (.inr x) :: st) kc ks V))) : z_WP p l e R s m args below meth c QQ w i n0 md pc ls st kc ks V := by
  intro H locs LS hF
  cases hx0 : Nat.beq x 0 with
  | true =>
    rw [hx0] at h
    have e0 : x = 0 := Nat.eq_of_beq_eq_true hx0
    subst e0
    exact z_r_gets hx hb hown hT hd hn (Or.inl rfl) hF.2.1 (h H locs LS (hF.stk (z_ok_cons (by show _ ∧ _; omega) hF.2.2.2.1)))
  | false =>
    rw [hx0] at h
    obtain ⟨h1, h2⟩ := z_g_e h
    refine z_r_gets hx hb hown hT hd hn (Or.inr h1) hF.2.1 ?_
    have e1 : z_zv w x = z_rv w x := by unfold z_zv; rw [if_neg (by omega)]
    rw [e1]
    exact h2 H locs LS (hF.stk (z_ok_cons (by show (x : Int) < V 0 0; have := hF.1.1; omega) hF.2.2.2.1))
/-- an element is read -/
theorem z_s_ald (hT : z_TB w s) {mk : Nat → Int → z_V} (K : Nat → Prop) (hK : ∀ a, K a → 101 ≤ z_kd a ∧ z_kd a ≤ 107)
    (hmk : ∀ (a : Nat) (j : Int), K a → mk a j = z_rd md (z_ety (z_kd a)) V a j.toNat)
    (hrow : ∀ (H : Heap) (locs : List Loc) (LS : Array Slot) (a : Nat) (q : Addr) (cell : Cell) (j : Int32) (v : Value) (rest : List Value), K a → H[q]? = some cell → s.isArrayOf cell (z_ety (z_kd a)) → cell.vm ≠ .unknown → ¬ (j < 0 ∨ cell.slots.size ≤ j.toNatClampNeg) → cell.slots[j.toNatClampNeg]? = some v →
      W p l e R s m args below meth c H locs kc ks QQ (F0 m (pc + 1) LS (v :: rest)) → W p l e R s m args below meth c H locs kc ks QQ (F0 m pc LS (.int j :: .ref q :: rest)))
    (h : z_ai st fun a j r => K a ∧ z_g (0 ≤ j ∧ j < z_len' V a) (z_WP p l e R s m args below meth c QQ w i n0 md (pc + 1) ls (mk a j :: r) kc ks V)) : z_WP p l e R s m args below meth c QQ w i n0 md pc ls st kc ks V := by
  unfold z_ai at h
  split at h
  · rename_i j a r
    obtain ⟨hk, h⟩ := h
    obtain ⟨⟨j0, j1⟩, h⟩ := z_g_e h
    intro H locs LS hF
    have hoka := z_ok_hd (z_ok_tl hF.2.2.2.1)
    have hkk := hK a hk
    obtain ⟨a1, a2, a3, cell, q1, q2, q3, q4, q5, q6, q7⟩ := hF.cell hoka (by omega) (by omega)
    obtain ⟨l0, l1, l2⟩ := hF.len hoka a1 hkk.1
    have hsz := (q6 hkk.1).1
    obtain ⟨hin, hjn⟩ := z_in32 (j := j) (n := cell.slots.size) j0 (by omega) (by omega)
    obtain ⟨q8, q9⟩ := q7 j.toNat (by rw [l2]; omega)
    have hsm : z_sm w a j.toNat = j.toNat := by unfold z_sm; rw [if_pos hkk.1]
    have hty : z_sty a j.toNat = z_ety (z_kd a) := by unfold z_sty; rw [if_pos hkk.1]
    rw [hsm, hty] at q8
    rw [hty] at q9
    show W p l e R s m args below meth c H locs kc ks QQ (F0 m pc LS (.int (Int32.ofInt j) :: z_rv w a :: r.map (z_enc w)))
    rw [a3]
    refine hrow _ _ _ a _ cell _ (z_enc w (z_rd false (z_ety (z_kd a)) V a j.toNat)) _ hk q1 (z_isArr hT a1 hkk.1 hkk.2 q2 q3) q4 hin (by rw [hjn]; exact q8) ?_
    have e1 : mk a j = z_rd false (z_ety (z_kd a)) V a j.toNat := by rw [hmk a j hk, z_rd_md hF.1.2.2.2.2.2]
    have k := h H locs LS (hF.stk (z_ok_cons (by rw [e1]; exact z_rd_ok q9) (z_ok_tl (z_ok_tl hF.2.2.2.1))))
    rw [e1] at k
    exact k
  · exact h.elim
/-- an element is written: v of the stack, z the number in memory -/
theorem z_s_ast1 (hw : z_WV w) (hT : z_TB w s) {a : Nat} {j : Int} {v : z_V} {z : Int} {r : List z_V} (hk : 101 ≤ z_kd a ∧ z_kd a ≤ 107) (ha36 : 36 ≤ a) (hj : 0 ≤ j ∧ j < z_len' V a) (hrf : md = true → z_rf a j.toNat = 0)
    (hrow : ∀ (H : Heap) (locs : List Loc) (LS : Array Slot) (cell : Cell) (rest : List Value), z_Fc w s i n0 md ls (v :: .inl j :: .inr (.inr a) :: r) kc ks V H locs LS → H[z_ad w a]? = some cell → s.isArrayOf cell (z_ety (z_kd a)) → cell.vm = .none → cell.cls = z_dA w (z_kd a) → ¬ (Int32.ofInt j < 0 ∨ cell.slots.size ≤ (Int32.ofInt j).toNatClampNeg) → (Int32.ofInt j).toNatClampNeg = j.toNat →
      (∀ H' : Heap, H'[z_ad w a]? = some (cell.setSlot j.toNat (z_enc w v)) → H'.size = H.size → (∀ q, q ≠ z_ad w a → H'[q]? = H[q]?) → W p l e R s m args below meth c H' (locs ++ [⟨z_ad w a, j.toNat⟩]) kc ks QQ (F0 m (pc + 1) LS rest)) → W p l e R s m args below meth c H locs kc ks QQ (F0 m pc LS (z_enc w v :: .int (Int32.ofInt j) :: .ref (z_ad w a) :: rest)))
    (hz : ∀ H locs LS, z_Fc w s i n0 md ls (v :: .inl j :: .inr (.inr a) :: r) kc ks V H locs LS → z_oks V (z_ety (z_kd a)) z) (henc : ∀ V' : z_M, V' a j.toNat = z → z_enc w (z_rd false (z_ety (z_kd a)) V' a j.toNat) = z_enc w v)
    (h : z_WP p l e R s m args below meth c QQ w i n0 md (pc + 1) ls r kc ks (z_up V a j.toNat z)) : z_WP p l e R s m args below meth c QQ w i n0 md pc ls (v :: .inl j :: .inr (.inr a) :: r) kc ks V := by
  intro H locs LS hF
  have hoka := z_ok_hd (z_ok_tl (z_ok_tl hF.2.2.2.1))
  obtain ⟨a1, a2, a3, cell, q1, q2, q3, q4, q5, q6, q7⟩ := hF.cell hoka (by omega) (by omega)
  obtain ⟨l0, l1, l2⟩ := hF.len hoka a1 hk.1
  have hsz := (q6 hk.1).2.2 ha36
  obtain ⟨hin, hjn⟩ := z_in32 (j := j) (n := cell.slots.size) hj.1 (by rw [hsz, l2]; omega) (by omega)
  have hsm : z_sm w a j.toNat = j.toNat := by unfold z_sm; rw [if_pos hk.1]
  have hty : z_sty a j.toNat = z_ety (z_kd a) := by unfold z_sty; rw [if_pos hk.1]
  have hcl : z_cls w a = z_dA w (z_kd a) := by unfold z_cls; rw [if_pos hk.1, if_neg (by omega)]
  show W p l e R s m args below meth c H locs kc ks QQ (F0 m pc LS (z_enc w v :: .int (Int32.ofInt j) :: z_rv w a :: r.map (z_enc w)))
  rw [a3]
  refine hrow _ _ _ cell _ hF q1 (z_isArr hT a1 hk.1 hk.2 q2 q3) (q5 ha36) (by rw [q2, hcl]) hin hjn (fun H' e1 e2 e3 => ?_)
  refine h H' _ LS (hF.put hw hT ha36 hoka (by rw [l2]; omega) (Or.inl hk.1) (by rw [hty]; exact hz _ _ _ hF) hrf q1 ?_ e2 e3 (z_ok_tl (z_ok_tl (z_ok_tl hF.2.2.2.1))) _)
  rw [hty, hsm, henc _ (z_up_s _ _ _ _)]
  exact e1
theorem z_ety_101 {a : Nat} (h : z_kd a = 101) : z_ety (z_kd a) = .int := by rw [h]; rfl
theorem z_ety_102 {a : Nat} (h : z_kd a = 102) : z_ety (z_kd a) = .long := by rw [h]; rfl
theorem z_ety_103 {a : Nat} (h : z_kd a = 103) : z_ety (z_kd a) = .boolean := by rw [h]; rfl
theorem z_ety_104 {a : Nat} (h : z_kd a = 104) : z_ety (z_kd a) = .byte := by rw [h]; rfl
theorem z_g_and {q : Prop} {c : Prop} [Decidable c] (h : z_g c q) : c ∧ q := z_g_e h
theorem z_s_iald (hT : z_TB w s) (hx : p.tables.exec = Jvm.exec) (hb : c.code = z_by i) (hd : decode (z_by i) pc = .ok (.iaload, 1)) (h : z_ai st fun a j r => z_g (z_kd a = 101) (z_g (0 ≤ j ∧ j < z_len' V a) (z_WP p l e R s m args below meth c QQ w i n0 md (pc + 1) ls (.inl (V a j.toNat) :: r) kc ks V))) : z_WP p l e R s m args below meth c QQ w i n0 md pc ls st kc ks V :=
  z_s_ald hT (mk := fun a j => .inl (V a j.toNat)) (fun a => z_kd a = 101) (fun a h => ⟨by omega, by omega⟩) (fun a j h => by rw [z_ety_101 h]; rfl) (fun H locs LS a q cell j v rest k1 k2 k3 k4 k5 k6 kk => W.iald hx hb k2 (by rw [z_ety_101 k1] at k3; exact k3) k4 k5 k6 rfl rfl hd kk) (z_ai_m (fun _ _ _ => z_g_e) h)
theorem z_s_lald (hT : z_TB w s) (hx : p.tables.exec = Jvm.exec) (hb : c.code = z_by i) (hd : decode (z_by i) pc = .ok (.laload, 1)) (h : z_ai st fun a j r => z_g (z_kd a = 102) (z_g (0 ≤ j ∧ j < z_len' V a) (z_WP p l e R s m args below meth c QQ w i n0 md (pc + 1) ls (.inr (.inl (V a j.toNat)) :: r) kc ks V))) : z_WP p l e R s m args below meth c QQ w i n0 md pc ls st kc ks V :=
  z_s_ald hT (mk := fun a j => .inr (.inl (V a j.toNat))) (fun a => z_kd a = 102) (fun a h => ⟨by omega, by omega⟩) (fun a j h => by rw [z_ety_102 h]; rfl) (fun H locs LS a q cell j v rest k1 k2 k3 k4 k5 k6 kk => W.lald hx hb k2 (by rw [z_ety_102 k1] at k3; exact k3) k4 k5 k6 rfl rfl hd kk) (z_ai_m (fun _ _ _ => z_g_e) h)
theorem z_s_bald (hT : z_TB w s) (hx : p.tables.exec = Jvm.exec) (hb : c.code = z_by i) (hd : decode (z_by i) pc = .ok (.baload, 1)) (h : z_ai st fun a j r => z_g (z_kd a = 103 ∨ z_kd a = 104) (z_g (0 ≤ j ∧ j < z_len' V a) (z_WP p l e R s m args below meth c QQ w i n0 md (pc + 1) ls (.inl (V a j.toNat) :: r) kc ks V))) : z_WP p l e R s m args below meth c QQ w i n0 md pc ls st kc ks V :=
  z_s_ald hT (mk := fun a j => .inl (V a j.toNat)) (fun a => z_kd a = 103 ∨ z_kd a = 104) (fun a h => ⟨by omega, by omega⟩) (fun a j h => by rcases h with h | h; rw [z_ety_103 h]; rfl; rw [z_ety_104 h]; rfl) (fun H locs LS a q cell j v rest k1 k2 k3 k4 k5 k6 kk => by
    rcases k1 with k1 | k1
    · exact W.zald hx hb k2 (by rw [z_ety_103 k1] at k3; exact k3) k4 k5 k6 rfl rfl hd kk
    · exact W.bald hx hb k2 (by rw [z_ety_104 k1] at k3; exact k3) k4 k5 k6 rfl rfl hd kk) (z_ai_m (fun _ _ _ => z_g_e) h)
theorem z_ety_r {a : Nat} (h : 105 ≤ z_kd a ∧ z_kd a ≤ 107) : (z_ety (z_kd a)).isReference = true ∧ ∀ (md : Bool) (V : z_M) (k : Nat), z_rd md (z_ety (z_kd a)) V a k = .inr (.inr (z_rr md V a k)) := by
  rcases (show z_kd a = 105 ∨ z_kd a = 106 ∨ z_kd a = 107 by omega) with q | q | q <;> rw [q] <;> exact ⟨rfl, fun _ _ _ => rfl⟩
theorem z_s_aald (hT : z_TB w s) (hx : p.tables.exec = Jvm.exec) (hb : c.code = z_by i) (hd : decode (z_by i) pc = .ok (.aaload, 1)) (h : z_ai st fun a j r => z_g (105 ≤ z_kd a ∧ z_kd a ≤ 107) (z_g (0 ≤ j ∧ j < z_len' V a) (z_WP p l e R s m args below meth c QQ w i n0 md (pc + 1) ls (.inr (.inr (z_rr md V a j.toNat)) :: r) kc ks V))) : z_WP p l e R s m args below meth c QQ w i n0 md pc ls st kc ks V :=
  z_s_ald hT (mk := fun a j => .inr (.inr (z_rr md V a j.toNat))) (fun a => 105 ≤ z_kd a ∧ z_kd a ≤ 107) (fun a h => ⟨by omega, by omega⟩) (fun a j h => ((z_ety_r h).2 _ _ _).symm) (fun H locs LS a q cell j v rest k1 k2 k3 k4 k5 k6 kk => W.aald hx hb k2 k3 (z_ety_r k1).1 k4 k5 k6 rfl rfl hd kk) (z_ai_m (fun _ _ _ => z_g_e) h)
theorem z_vm_none {cell : Cell} (h : cell.vm = .none) : cell.vm ≠ .unknown ∧ (∀ q, cell.vm ≠ .statics q) := ⟨fun q => (by rw [h] at q; cases q), fun z q => (by rw [h] at q; cases q)⟩
theorem z_rf_arr {a : Nat} (h : 101 ≤ z_kd a ∧ z_kd a ≤ 104) (k : Nat) : z_rf a k = 0 := by
  by_cases hb : 169 ≤ a
  · exact z_rf_big hb
  · rw [z_rqu169 a (by omega) h]
end Sound3
