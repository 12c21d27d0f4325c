section Sound1
variable {p : Program} {l : Launch} {e : Env} {R : Room} {s : State} {m : MethodId} {args : Array Value} {below : List Frame} {meth : Method} {c : Code} {QQ : State → Prop} {w : z_Wd} {i : Nat} {n0 : Int}
variable {C : z_C} {Q : Int → z_M → Prop} {md : Bool} {pc : Nat} {ls : z_L} {st : List z_V} {kc ks : Nat} {V : z_M}
theorem z_Fc.stk {H : Heap} {locs : List Loc} {LS : Array Slot} {st' : List z_V} (h : z_Fc w s i n0 md ls st kc ks V H locs LS) (h2 : ∀ v ∈ st', z_okv V v) : z_Fc w s i n0 md ls st' kc ks V H locs LS :=
  ⟨h.1, h.2.1, h.2.2.1, h2, h.2.2.2.2.1, h.2.2.2.2.2⟩
theorem z_ok_cons {V : z_M} {v : z_V} {r : List z_V} (h : z_okv V v) (h2 : ∀ x ∈ r, z_okv V x) : ∀ x ∈ v :: r, z_okv V x := fun x hx => by
  rcases List.mem_cons.mp hx with rfl | q
  · exact h
  · exact h2 x q
theorem z_ok_tl {V : z_M} {v : z_V} {r : List z_V} (h : ∀ x ∈ v :: r, z_okv V x) : ∀ x ∈ r, z_okv V x := fun x hx => h x (List.mem_cons_of_mem _ hx)
theorem z_ok_hd {V : z_M} {v : z_V} {r : List z_V} (h : ∀ x ∈ v :: r, z_okv V x) : z_okv V v := h v List.mem_cons_self
/-- a value is pushed -/
theorem z_s_push {k : Nat} {v : z_V} (hrow : ∀ (H : Heap) (locs : List Loc) (LS : Array Slot) (rest : List Value), W p l e R s m args below meth c H locs kc ks QQ (F0 m (pc + k) LS (z_enc w v :: rest)) → W p l e R s m args below meth c H locs kc ks QQ (F0 m pc LS rest))
    (hv : z_okv V v) (h : z_WP p l e R s m args below meth c QQ w i n0 md (pc + k) ls (v :: st) kc ks V) : z_WP p l e R s m args below meth c QQ w i n0 md pc ls st kc ks V := by
  intro H locs LS hF
  exact hrow _ _ _ _ (h H locs LS (hF.stk (z_ok_cons hv hF.2.2.2.1)))
/-- a value is pushed out of a place -/
theorem z_s_load {n k : Nat} {v : z_V} (hz : z_at ls n = some v) (hrow : ∀ (H : Heap) (locs : List Loc) (LS : Array Slot) (rest : List Value), LS[n]? = some (.val (z_enc w v)) → W p l e R s m args below meth c H locs kc ks QQ (F0 m (pc + k) LS (z_enc w v :: rest)) → W p l e R s m args below meth c H locs kc ks QQ (F0 m pc LS rest))
    (h : z_WP p l e R s m args below meth c QQ w i n0 md (pc + k) ls (v :: st) kc ks V) : z_WP p l e R s m args below meth c QQ w i n0 md pc ls st kc ks V := by
  intro H locs LS hF
  exact hrow _ _ _ _ (hF.2.2.1.2.2.2 _ _ hz) (h H locs LS (hF.stk (z_ok_cons (hF.2.2.2.2.1 _ _ hz) hF.2.2.2.1)))
theorem z_s_iload (hx : p.tables.exec = Jvm.exec) (hb : c.code = z_by i) {n k : Nat} (hd : (∃ q : Fin 4, (q : Nat) = n ∧ k = 1 ∧ decode (z_by i) pc = .ok (.iload_n q, 1)) ∨ (k = 2 ∧ decode (z_by i) pc = .ok (.iload n, 2)))
    (h : z_li ls n fun a => z_WP p l e R s m args below meth c QQ w i n0 md (pc + k) ls (.inl a :: st) kc ks V) : z_WP p l e R s m args below meth c QQ w i n0 md pc ls st kc ks V := by
  unfold z_li at h
  split at h
  · rename_i a hz
    refine z_s_load hz (fun H locs LS rest hl kk => ?_) h
    rcases hd with ⟨q, h1, h2, h3⟩ | ⟨h2, h3⟩ <;> subst h2
    · exact lv_iload_n hx hb h3 h1 hl kk
    · exact lv_iload hx hb h3 hl kk
  · exact h.elim
theorem z_s_lload (hx : p.tables.exec = Jvm.exec) (hb : c.code = z_by i) {n k : Nat} (hd : (∃ q : Fin 4, (q : Nat) = n ∧ k = 1 ∧ decode (z_by i) pc = .ok (.lload_n q, 1)) ∨ (k = 2 ∧ decode (z_by i) pc = .ok (.lload n, 2)))
    (h : z_ll ls n fun a => z_WP p l e R s m args below meth c QQ w i n0 md (pc + k) ls (.inr (.inl a) :: st) kc ks V) : z_WP p l e R s m args below meth c QQ w i n0 md pc ls st kc ks V := by
  unfold z_ll at h
  split at h
  · rename_i a hz
    refine z_s_load hz (fun H locs LS rest hl kk => ?_) h
    rcases hd with ⟨q, h1, h2, h3⟩ | ⟨h2, h3⟩ <;> subst h2
    · exact lv_lload_n hx hb h3 h1 hl kk
    · exact lv_lload hx hb h3 hl kk
  · exact h.elim
theorem z_rv_cases (hw : z_WV w) (a : Nat) : z_rv w a = .null ∨ ∃ q, z_rv w a = .ref q := by
  unfold z_rv
  split
  · exact Or.inl rfl
  · split
    · exact hw.2
    · exact Or.inr ⟨_, rfl⟩
theorem z_s_aload (hw : z_WV w) (hx : p.tables.exec = Jvm.exec) (hb : c.code = z_by i) {n k : Nat} (hd : (∃ q : Fin 4, (q : Nat) = n ∧ k = 1 ∧ decode (z_by i) pc = .ok (.aload_n q, 1)) ∨ (k = 2 ∧ decode (z_by i) pc = .ok (.aload n, 2)))
    (h : z_lr1 ls n fun a => z_WP p l e R s m args below meth c QQ w i n0 md (pc + k) ls (.inr (.inr a) :: st) kc ks V) : z_WP p l e R s m args below meth c QQ w i n0 md pc ls st kc ks V := by
  unfold z_lr1 at h
  split at h
  · rename_i a hz
    refine z_s_load hz (fun H locs LS rest hl kk => ?_) h
    have hl : LS[n]? = some (.val (z_rv w a)) := hl
    have kk : W p l e R s m args below meth c H locs kc ks QQ (F0 m (pc + k) LS (z_rv w a :: rest)) := kk
    rcases z_rv_cases hw a with q | ⟨q, hq⟩
    · rw [q] at hl kk
      rcases hd with ⟨q, h1, h2, h3⟩ | ⟨h2, h3⟩ <;> subst h2
      · exact lv_aload_nN hx hb h3 h1 hl kk
      · exact lv_aloadN hx hb h3 hl kk
    · rw [hq] at hl kk
      rcases hd with ⟨q, h1, h2, h3⟩ | ⟨h2, h3⟩ <;> subst h2
      · exact lv_aload_n hx hb h3 h1 hl kk
      · exact lv_aload hx hb h3 hl kk
  · exact h.elim
/-- a value goes into a place -/
theorem z_s_store (hw : z_WV w) {n k : Nat} {v : z_V} {r : List z_V} (hn : n < ls.length) (h2 : z_is2 v = true → n + 1 < ls.length) (hst : st = v :: r)
    (hrow : ∀ (H : Heap) (locs : List Loc) (LS LS' : Array Slot) (rest : List Value), storeLocals LS n (z_enc w v) = some LS' → W p l e R s m args below meth c H locs kc ks QQ (F0 m (pc + k) LS' rest) → W p l e R s m args below meth c H locs kc ks QQ (F0 m pc LS (z_enc w v :: rest)))
    (h : z_WP p l e R s m args below meth c QQ w i n0 md (pc + k) (cond (z_is2 v) (z_s2 ls n v) (z_s1 ls n v)) r kc ks V) : z_WP p l e R s m args below meth c QQ w i n0 md pc ls st kc ks V := by
  subst hst
  intro H locs LS hF
  have hL := hF.2.2.1
  have hn' : n < z_ml i := by rw [← hL.2.2.1]; exact hn
  cases hv : z_is2 v with
  | false =>
    obtain ⟨LS', e1, e2⟩ := z_store1 hw hL hn' hv
    rw [hv] at h
    refine hrow _ _ _ _ _ e1 (h H locs LS' ⟨hF.1, hF.2.1, e2, z_ok_tl hF.2.2.2.1, fun k' x hx => ?_, hF.2.2.2.2.2⟩)
    rcases z_s1_at _ _ _ _ _ hx with ⟨-, rfl⟩ | ⟨-, q, -⟩
    · exact z_ok_hd hF.2.2.2.1
    · exact hF.2.2.2.2.1 _ _ q
  | true =>
    obtain ⟨LS', e1, e2⟩ := z_store2 hw hL (by rw [← hL.2.2.1]; exact h2 hv) hv
    rw [hv] at h
    refine hrow _ _ _ _ _ e1 (h H locs LS' ⟨hF.1, hF.2.1, e2, z_ok_tl hF.2.2.2.1, fun k' x hx => ?_, hF.2.2.2.2.2⟩)
    rcases z_s2_at _ _ _ _ _ hx with ⟨-, rfl⟩ | ⟨-, -, q, -⟩
    · exact z_ok_hd hF.2.2.2.1
    · exact hF.2.2.2.2.1 _ _ q
/-- the machine's own store rows, by what storeLocals says -/
theorem z_r_istore (hx : p.tables.exec = Jvm.exec) (hb : c.code = z_by i) {n k : Nat} (hd : (∃ q : Fin 4, (q : Nat) = n ∧ k = 1 ∧ decode (z_by i) pc = .ok (.istore_n q, 1)) ∨ (k = 2 ∧ decode (z_by i) pc = .ok (.istore n, 2)))
    {x : Int32} {H : Heap} {locs : List Loc} {LS LS' : Array Slot} {rest : List Value} (he : storeLocals LS n (.int x) = some LS') (kk : W p l e R s m args below meth c H locs kc ks QQ (F0 m (pc + k) LS' rest)) : W p l e R s m args below meth c H locs kc ks QQ (F0 m pc LS (.int x :: rest)) := by
  intro T hT X
  obtain ⟨t, a, b⟩ := kk T hT X
  refine ⟨t, ?_, b⟩
  rcases hd with ⟨q, h1, h2, h3⟩ | ⟨h2, h3⟩ <;> subst h2
  · jvm_step X.here [X.here.top, ↓top_set X.here.top, hx, hb, h3, h1, he]
    exact a
  · jvm_step X.here [X.here.top, ↓top_set X.here.top, hx, hb, h3, he]
    exact a
theorem z_r_lstore (hx : p.tables.exec = Jvm.exec) (hb : c.code = z_by i) {n k : Nat} (hd : (∃ q : Fin 4, (q : Nat) = n ∧ k = 1 ∧ decode (z_by i) pc = .ok (.lstore_n q, 1)) ∨ (k = 2 ∧ decode (z_by i) pc = .ok (.lstore n, 2)))
    {x : Int64} {H : Heap} {locs : List Loc} {LS LS' : Array Slot} {rest : List Value} (he : storeLocals LS n (.long x) = some LS') (kk : W p l e R s m args below meth c H locs kc ks QQ (F0 m (pc + k) LS' rest)) : W p l e R s m args below meth c H locs kc ks QQ (F0 m pc LS (.long x :: rest)) := by
  intro T hT X
  obtain ⟨t, a, b⟩ := kk T hT X
  refine ⟨t, ?_, b⟩
  rcases hd with ⟨q, h1, h2, h3⟩ | ⟨h2, h3⟩ <;> subst h2
  · jvm_step X.here [X.here.top, ↓top_set X.here.top, hx, hb, h3, h1, he]
    exact a
  · jvm_step X.here [X.here.top, ↓top_set X.here.top, hx, hb, h3, he]
    exact a
theorem z_r_astore (hx : p.tables.exec = Jvm.exec) (hb : c.code = z_by i) {n k : Nat} (hd : (∃ q : Fin 4, (q : Nat) = n ∧ k = 1 ∧ decode (z_by i) pc = .ok (.astore_n q, 1)) ∨ (k = 2 ∧ decode (z_by i) pc = .ok (.astore n, 2)))
    {v : Value} (hv : v = .null ∨ ∃ q, v = .ref q) {H : Heap} {locs : List Loc} {LS LS' : Array Slot} {rest : List Value} (he : storeLocals LS n v = some LS') (kk : W p l e R s m args below meth c H locs kc ks QQ (F0 m (pc + k) LS' rest)) : W p l e R s m args below meth c H locs kc ks QQ (F0 m pc LS (v :: rest)) := by
  intro T hT X
  obtain ⟨t, a, b⟩ := kk T hT X
  refine ⟨t, ?_, b⟩
  rcases hv with rfl | ⟨q0, rfl⟩ <;> rcases hd with ⟨q, h1, h2, h3⟩ | ⟨h2, h3⟩ <;> subst h2
  · jvm_step X.here [X.here.top, ↓top_set X.here.top, hx, hb, h3, h1, he]
    exact ⟨rfl, a⟩
  · jvm_step X.here [X.here.top, ↓top_set X.here.top, hx, hb, h3, he]
    exact ⟨rfl, a⟩
  · jvm_step X.here [X.here.top, ↓top_set X.here.top, hx, hb, h3, h1, he]
    exact ⟨rfl, a⟩
  · jvm_step X.here [X.here.top, ↓top_set X.here.top, hx, hb, h3, he]
    exact ⟨rfl, a⟩
theorem z_s_istore (hw : z_WV w) (hx : p.tables.exec = Jvm.exec) (hb : c.code = z_by i) {n k : Nat} (hd : (∃ q : Fin 4, (q : Nat) = n ∧ k = 1 ∧ decode (z_by i) pc = .ok (.istore_n q, 1)) ∨ (k = 2 ∧ decode (z_by i) pc = .ok (.istore n, 2)))
    (h : z_i1 st fun a r => z_g (n < ls.length) (z_WP p l e R s m args below meth c QQ w i n0 md (pc + k) (z_s1 ls n (.inl a)) r kc ks V)) : z_WP p l e R s m args below meth c QQ w i n0 md pc ls st kc ks V := by
  unfold z_i1 at h
  split at h
  · rename_i a r
    obtain ⟨h1, h2⟩ := z_g_e h
    exact z_s_store hw h1 (fun q => by cases q) rfl (fun H locs LS LS' rest he kk => z_r_istore hx hb hd he kk) h2
  · exact h.elim
theorem z_s_lstore (hw : z_WV w) (hx : p.tables.exec = Jvm.exec) (hb : c.code = z_by i) {n k : Nat} (hd : (∃ q : Fin 4, (q : Nat) = n ∧ k = 1 ∧ decode (z_by i) pc = .ok (.lstore_n q, 1)) ∨ (k = 2 ∧ decode (z_by i) pc = .ok (.lstore n, 2)))
    (h : z_l1 st fun a r => z_g (n + 1 < ls.length) (z_WP p l e R s m args below meth c QQ w i n0 md (pc + k) (z_s2 ls n (.inr (.inl a))) r kc ks V)) : z_WP p l e R s m args below meth c QQ w i n0 md pc ls st kc ks V := by
  unfold z_l1 at h
  split at h
  · rename_i a r
    obtain ⟨h1, h2⟩ := z_g_e h
    exact z_s_store hw (by omega) (fun q => h1) rfl (fun H locs LS LS' rest he kk => z_r_lstore hx hb hd he kk) h2
  · exact h.elim
theorem z_s_astore (hw : z_WV w) (hx : p.tables.exec = Jvm.exec) (hb : c.code = z_by i) {n k : Nat} (hd : (∃ q : Fin 4, (q : Nat) = n ∧ k = 1 ∧ decode (z_by i) pc = .ok (.astore_n q, 1)) ∨ (k = 2 ∧ decode (z_by i) pc = .ok (.astore n, 2)))
    (h : z_r1 st fun a r => z_g (n < ls.length) (z_WP p l e R s m args below meth c QQ w i n0 md (pc + k) (z_s1 ls n (.inr (.inr a))) r kc ks V)) : z_WP p l e R s m args below meth c QQ w i n0 md pc ls st kc ks V := by
  unfold z_r1 at h
  split at h
  · rename_i a r
    obtain ⟨h1, h2⟩ := z_g_e h
    exact z_s_store hw h1 (fun q => by cases q) rfl (fun H locs LS LS' rest he kk => z_r_astore hx hb hd (z_rv_cases hw a) he kk) h2
  · exact h.elim
theorem z_s_iinc (hw : z_WV w) (hx : p.tables.exec = Jvm.exec) (hb : c.code = z_by i) {n : Nat} {q : Int} (hd : decode (z_by i) pc = .ok (.iinc n q, 3))
    (h : z_li ls n fun a => z_g (n < ls.length) (z_WP p l e R s m args below meth c QQ w i n0 md (pc + 3) (z_s1 ls n (.inl (z_add a q))) st kc ks V)) : z_WP p l e R s m args below meth c QQ w i n0 md pc ls st kc ks V := by
  unfold z_li at h
  split at h
  · rename_i a hz
    obtain ⟨h1, h2⟩ := z_g_e h
    intro H locs LS hF
    have hL := hF.2.2.1
    have hn' : n < z_ml i := by rw [← hL.2.2.1]; exact h1
    have hg := hL.2.2.2 _ _ hz
    have he0 : z_enc w (.inl (z_add a q)) = .int (Int32.ofInt a + Int32.ofInt q) := by
      show Value.int (Int32.ofInt (z_add a q)) = _
      unfold z_add z_i32
      rw [z_o32]
    obtain ⟨LS', e1, e2⟩ := z_store1 (v := .inl (z_add a q)) hw hL hn' rfl
    rw [he0] at e1
    have kk := h2 H locs LS' ⟨hF.1, hF.2.1, e2, hF.2.2.2.1, fun k' x hx => ?_, hF.2.2.2.2.2⟩
    · intro T hT X
      obtain ⟨t, a1, b1⟩ := kk T hT X
      refine ⟨t, ?_, b1⟩
      jvm_step X.here [X.here.top, ↓top_set X.here.top, hx, hb, hd, hg, z_enc, e1]
      exact a1
    · rcases z_s1_at _ _ _ _ _ hx with ⟨-, rfl⟩ | ⟨-, q, -⟩
      · exact z_r32 _
      · exact hF.2.2.2.2.1 _ _ q
  · exact h.elim
theorem z_s_bin (f : Int32 → Int32 → Int32) (hrow : ∀ (H : Heap) (locs : List Loc) (LS : Array Slot) (x y : Int32) (rest : List Value), W p l e R s m args below meth c H locs kc ks QQ (F0 m (pc + 1) LS (.int (f x y) :: rest)) → W p l e R s m args below meth c H locs kc ks QQ (F0 m pc LS (.int y :: .int x :: rest)))
    (h : z_i2 st fun a b r => z_WP p l e R s m args below meth c QQ w i n0 md (pc + 1) ls (.inl (z_i32 f a b) :: r) kc ks V) : z_WP p l e R s m args below meth c QQ w i n0 md pc ls st kc ks V := by
  unfold z_i2 at h
  split at h
  · rename_i b a r
    intro H locs LS hF
    refine hrow _ _ _ _ _ _ ?_
    have k := h H locs LS (hF.stk (z_ok_cons (z_r32 _) (z_ok_tl (z_ok_tl hF.2.2.2.1))))
    simp only [List.map_cons, z_enc, z_i32, z_o32] at k
    exact k
  · exact h.elim
theorem z_s_binN (f : Int32 → Int32 → Int32) (hrow : ∀ (H : Heap) (locs : List Loc) (LS : Array Slot) (x y : Int32) (rest : List Value), ¬ y = 0 → W p l e R s m args below meth c H locs kc ks QQ (F0 m (pc + 1) LS (.int (f x y) :: rest)) → W p l e R s m args below meth c H locs kc ks QQ (F0 m pc LS (.int y :: .int x :: rest)))
    (h : z_i2 st fun a b r => z_g (¬ b = 0) (z_WP p l e R s m args below meth c QQ w i n0 md (pc + 1) ls (.inl (z_i32 f a b) :: r) kc ks V)) : z_WP p l e R s m args below meth c QQ w i n0 md pc ls st kc ks V := by
  unfold z_i2 at h
  split at h
  · rename_i b a r
    obtain ⟨h1, h⟩ := z_g_e h
    intro H locs LS hF
    refine hrow _ _ _ _ _ _ ?_ ?_
    · intro q
      exact h1 ((z_eq32 (z_ok_hd hF.2.2.2.1) (by omega)).mp q)
    have k := h H locs LS (hF.stk (z_ok_cons (z_r32 _) (z_ok_tl (z_ok_tl hF.2.2.2.1))))
    simp only [List.map_cons, z_enc, z_i32, z_o32] at k
    exact k
  · exact h.elim
theorem z_s_lbin (f : Int64 → Int64 → Int64) (hrow : ∀ (H : Heap) (locs : List Loc) (LS : Array Slot) (x y : Int64) (rest : List Value), W p l e R s m args below meth c H locs kc ks QQ (F0 m (pc + 1) LS (.long (f x y) :: rest)) → W p l e R s m args below meth c H locs kc ks QQ (F0 m pc LS (.long y :: .long x :: rest)))
    (h : z_l2 st fun a b r => z_WP p l e R s m args below meth c QQ w i n0 md (pc + 1) ls (.inr (.inl (z_i64 f a b)) :: r) kc ks V) : z_WP p l e R s m args below meth c QQ w i n0 md pc ls st kc ks V := by
  unfold z_l2 at h
  split at h
  · rename_i b a r
    intro H locs LS hF
    refine hrow _ _ _ _ _ _ ?_
    have k := h H locs LS (hF.stk (z_ok_cons (z_r64 _) (z_ok_tl (z_ok_tl hF.2.2.2.1))))
    simp only [List.map_cons, z_enc, z_i64, z_o64] at k
    exact k
  · exact h.elim
theorem z_s_lbinN (f : Int64 → Int64 → Int64) (hrow : ∀ (H : Heap) (locs : List Loc) (LS : Array Slot) (x y : Int64) (rest : List Value), ¬ y = 0 → W p l e R s m args below meth c H locs kc ks QQ (F0 m (pc + 1) LS (.long (f x y) :: rest)) → W p l e R s m args below meth c H locs kc ks QQ (F0 m pc LS (.long y :: .long x :: rest)))
    (h : z_l2 st fun a b r => z_g (¬ b = 0) (z_WP p l e R s m args below meth c QQ w i n0 md (pc + 1) ls (.inr (.inl (z_i64 f a b)) :: r) kc ks V)) : z_WP p l e R s m args below meth c QQ w i n0 md pc ls st kc ks V := by
  unfold z_l2 at h
  split at h
  · rename_i b a r
    obtain ⟨h1, h⟩ := z_g_e h
    intro H locs LS hF
    refine hrow _ _ _ _ _ _ ?_ ?_
    · intro q
      have hr := z_ok_hd hF.2.2.2.1
      have := congrArg Int64.toInt q
      rw [z_t64 hr.1 hr.2] at this
      exact h1 this
    have k := h H locs LS (hF.stk (z_ok_cons (z_r64 _) (z_ok_tl (z_ok_tl hF.2.2.2.1))))
    simp only [List.map_cons, z_enc, z_i64, z_o64] at k
    exact k
  · exact h.elim
/-- one taken, one pushed -/
theorem z_s_un {g : Int → z_V} (hrow : ∀ (H : Heap) (locs : List Loc) (LS : Array Slot) (a : Int) (rest : List Value), -2147483648 ≤ a ∧ a < 2147483648 → W p l e R s m args below meth c H locs kc ks QQ (F0 m (pc + 1) LS (z_enc w (g a) :: rest)) → W p l e R s m args below meth c H locs kc ks QQ (F0 m pc LS (.int (Int32.ofInt a) :: rest)))
    (hg : ∀ a, -2147483648 ≤ a ∧ a < 2147483648 → z_okv V (g a)) (h : z_i1 st fun a r => z_WP p l e R s m args below meth c QQ w i n0 md (pc + 1) ls (g a :: r) kc ks V) : z_WP p l e R s m args below meth c QQ w i n0 md pc ls st kc ks V := by
  unfold z_i1 at h
  split at h
  · rename_i a r
    intro H locs LS hF
    have hr := z_ok_hd hF.2.2.2.1
    exact hrow _ _ _ _ _ hr (h H locs LS (hF.stk (z_ok_cons (hg a hr) (z_ok_tl hF.2.2.2.1))))
  · exact h.elim
theorem z_s_l2i (hx : p.tables.exec = Jvm.exec) (hb : c.code = z_by i) (hd : decode (z_by i) pc = .ok (.l2i, 1)) (h : z_l1 st fun a r => z_WP p l e R s m args below meth c QQ w i n0 md (pc + 1) ls (.inl (z_l2i a) :: r) kc ks V) : z_WP p l e R s m args below meth c QQ w i n0 md pc ls st kc ks V := by
  unfold z_l1 at h
  split at h
  · rename_i a r
    intro H locs LS hF
    refine lv_l2i hx hb hd rfl ?_
    have k := h H locs LS (hF.stk (z_ok_cons (z_r32 _) (z_ok_tl hF.2.2.2.1)))
    simp only [List.map_cons, z_enc, z_l2i, z_o32] at k
    exact k
  · exact h.elim
theorem z_s_lcmp (hx : p.tables.exec = Jvm.exec) (hb : c.code = z_by i) (hd : decode (z_by i) pc = .ok (.lcmp, 1)) (h : z_l2 st fun a b r => z_WP p l e R s m args below meth c QQ w i n0 md (pc + 1) ls (.inl (z_lcmp a b) :: r) kc ks V) : z_WP p l e R s m args below meth c QQ w i n0 md pc ls st kc ks V := by
  unfold z_l2 at h
  split at h
  · rename_i b a r
    intro H locs LS hF
    refine W.lcmp hx hb hd ?_
    have hb' := z_ok_hd hF.2.2.2.1
    have ha := z_ok_hd (z_ok_tl hF.2.2.2.1)
    have k := h H locs LS (hF.stk (z_ok_cons (v := .inl (z_lcmp a b)) (by unfold z_lcmp; show _ ≤ _ ∧ _; split <;> (try split) <;> omega) (z_ok_tl (z_ok_tl hF.2.2.2.1))))
    have e1 : Int64.ofInt b < Int64.ofInt a ↔ b < a := by rw [Int64.lt_iff_toInt_lt, z_t64 ha.1 ha.2, z_t64 hb'.1 hb'.2]
    have e2 : Int64.ofInt a = Int64.ofInt b ↔ a = b := ⟨fun q => by have := congrArg Int64.toInt q; rwa [z_t64 ha.1 ha.2, z_t64 hb'.1 hb'.2] at this, fun q => by rw [q]⟩
    have e3 : lg_cmp (Int64.ofInt a) (Int64.ofInt b) = Int32.ofInt (z_lcmp a b) := by
      unfold lg_cmp z_lcmp
      by_cases h1 : b < a
      · simp [e1, h1]
      · by_cases h2 : a = b
        · subst h2; simp
        · simp [e1, e2, h1, h2]
    rw [e3]
    exact k
  · exact h.elim
theorem z_s_dup (hw : z_WV w) (hx : p.tables.exec = Jvm.exec) (hb : c.code = z_by i) (hd : decode (z_by i) pc = .ok (.dup, 1)) (h : z_k1 st fun v r => z_WP p l e R s m args below meth c QQ w i n0 md (pc + 1) ls (v :: v :: r) kc ks V) : z_WP p l e R s m args below meth c QQ w i n0 md pc ls st kc ks V := by
  unfold z_k1 at h
  split at h
  · rename_i v r
    cases hv : z_is2 v with
    | true => rw [hv] at h; exact h.elim
    | false =>
      rw [hv] at h
      intro H locs LS hF
      exact lv_dup hx hb hd (z_cat1 hw hv) (h H locs LS (hF.stk (z_ok_cons (z_ok_hd hF.2.2.2.1) hF.2.2.2.1)))
  · exact h.elim
theorem z_s_pop (hw : z_WV w) (hx : p.tables.exec = Jvm.exec) (hb : c.code = z_by i) (hd : decode (z_by i) pc = .ok (.pop, 1)) (h : z_k1 st fun _ r => z_WP p l e R s m args below meth c QQ w i n0 md (pc + 1) ls r kc ks V) : z_WP p l e R s m args below meth c QQ w i n0 md pc ls st kc ks V := by
  unfold z_k1 at h
  split at h
  · rename_i v r
    cases hv : z_is2 v with
    | true => rw [hv] at h; exact h.elim
    | false =>
      rw [hv] at h
      intro H locs LS hF
      exact lv_pop hx hb hd (z_cat1 hw hv) (h H locs LS (hF.stk (z_ok_tl hF.2.2.2.1)))
  · exact h.elim
theorem z_s_dup2 (hw : z_WV w) (hx : p.tables.exec = Jvm.exec) (hb : c.code = z_by i) (hd : decode (z_by i) pc = .ok (.dup2, 1)) (h : z_k2 st fun v v2 r => z_WP p l e R s m args below meth c QQ w i n0 md (pc + 1) ls (v :: v2 :: v :: v2 :: r) kc ks V) : z_WP p l e R s m args below meth c QQ w i n0 md pc ls st kc ks V := by
  unfold z_k2 at h
  split at h
  · rename_i v v2 r
    cases hv : z_is2 v with
    | true => rw [hv] at h; exact h.elim
    | false =>
      rw [hv] at h
      cases hv2 : z_is2 v2 with
      | true => rw [hv2] at h; exact h.elim
      | false =>
        rw [hv2] at h
        intro H locs LS hF
        exact lv_dup2_11 hx hb hd (z_cat1 hw hv) (z_cat1 hw hv2) (h H locs LS (hF.stk (z_ok_cons (z_ok_hd hF.2.2.2.1) (z_ok_cons (z_ok_hd (z_ok_tl hF.2.2.2.1)) hF.2.2.2.1))))
  · exact h.elim
theorem z_s_goto (hx : p.tables.exec = Jvm.exec) (hb : c.code = z_by i) {off : Int} (hd : decode (z_by i) pc = .ok (.goto off, 3)) (h : z_to pc off fun t => z_WP p l e R s m args below meth c QQ w i n0 md t ls st kc ks V) : z_WP p l e R s m args below meth c QQ w i n0 md pc ls st kc ks V := by
  obtain ⟨h1, h2⟩ := z_g_e h
  intro H locs LS hF
  exact lv_goto hx hb hd (by omega) (h2 H locs LS hF)
theorem z_s_if (hx : p.tables.exec = Jvm.exec) (hb : c.code = z_by i) {cd : ClassFile.Cond} {off : Int} (hd : decode (z_by i) pc = .ok (.ifCond cd off, 3)) (h : z_i1 st fun a r => z_to pc off fun t => z_br cd a 0 (z_WP p l e R s m args below meth c QQ w i n0 md t ls r kc ks V) (z_WP p l e R s m args below meth c QQ w i n0 md (pc + 3) ls r kc ks V)) : z_WP p l e R s m args below meth c QQ w i n0 md pc ls st kc ks V := by
  unfold z_i1 at h
  split at h
  · rename_i a r
    obtain ⟨h1, h2⟩ := z_g_e h
    intro H locs LS hF
    have ha := z_ok_hd hF.2.2.2.1
    have hF' := hF.stk (z_ok_tl hF.2.2.2.1)
    have ht : (pc : Int) + off = ((((pc : Int) + off).toNat : Nat) : Int) := by omega
    have e1 : Int32.ofInt a = 0 ↔ a = 0 := z_eq32 (b := 0) ha (by omega)
    have e2 : Int32.ofInt a < 0 ↔ a < 0 := z_lt32 (b := 0) ha (by omega)
    have e3 : 0 < Int32.ofInt a ↔ 0 < a := z_lt32 (a := 0) (by omega) ha
    have e4 : 0 ≤ Int32.ofInt a ↔ ¬ a < 0 := (z_le32 (a := 0) (by omega) ha).trans (by omega)
    have e5 : Int32.ofInt a ≤ 0 ↔ ¬ 0 < a := (z_le32 (b := 0) ha (by omega)).trans (by omega)
    unfold z_br at h2
    cases cd <;> dsimp only at h2
    · exact lv_if_eq hx hb hd ht (fun q => by rw [if_pos (e1.mp q)] at h2; exact h2 H locs LS hF') (fun q => by rw [if_neg (fun z => q (e1.mpr z))] at h2; exact h2 H locs LS hF')
    · exact lv_if_ne hx hb hd ht (fun q => by rw [if_neg (fun z => q (e1.mpr z))] at h2; exact h2 H locs LS hF') (fun q => by rw [if_pos (e1.mp q)] at h2; exact h2 H locs LS hF')
    · exact lv_if_lt hx hb hd ht (fun q => by rw [if_pos (e2.mp q)] at h2; exact h2 H locs LS hF') (fun q => by rw [if_neg (fun z => q (e2.mpr z))] at h2; exact h2 H locs LS hF')
    · exact lv_if_ge hx hb hd ht (fun q => by rw [if_neg (e4.mp q)] at h2; exact h2 H locs LS hF') (fun q => by rw [if_pos (Classical.not_not.mp (fun z => q (e4.mpr z)))] at h2; exact h2 H locs LS hF')
    · exact lv_if_gt hx hb hd ht (fun q => by rw [if_pos (e3.mp q)] at h2; exact h2 H locs LS hF') (fun q => by rw [if_neg (fun z => q (e3.mpr z))] at h2; exact h2 H locs LS hF')
    · exact lv_if_le hx hb hd ht (fun q => by rw [if_neg (e5.mp q)] at h2; exact h2 H locs LS hF') (fun q => by rw [if_pos (Classical.not_not.mp (fun z => q (e5.mpr z)))] at h2; exact h2 H locs LS hF')
  · exact h.elim
theorem z_s_icmp (hx : p.tables.exec = Jvm.exec) (hb : c.code = z_by i) {cd : ClassFile.Cond} {off : Int} (hd : decode (z_by i) pc = .ok (.if_icmp cd off, 3)) (h : z_i2 st fun a b r => z_to pc off fun t => z_br cd a b (z_WP p l e R s m args below meth c QQ w i n0 md t ls r kc ks V) (z_WP p l e R s m args below meth c QQ w i n0 md (pc + 3) ls r kc ks V)) : z_WP p l e R s m args below meth c QQ w i n0 md pc ls st kc ks V := by
  unfold z_i2 at h
  split at h
  · rename_i b a r
    obtain ⟨h1, h2⟩ := z_g_e h
    intro H locs LS hF
    have hb' := z_ok_hd hF.2.2.2.1
    have ha := z_ok_hd (z_ok_tl hF.2.2.2.1)
    have hF' := hF.stk (z_ok_tl (z_ok_tl hF.2.2.2.1))
    have ht : (pc : Int) + off = ((((pc : Int) + off).toNat : Nat) : Int) := by omega
    have e1 : Int32.ofInt a = Int32.ofInt b ↔ a = b := z_eq32 ha hb'
    have e2 : Int32.ofInt a < Int32.ofInt b ↔ a < b := z_lt32 ha hb'
    have e3 : Int32.ofInt b < Int32.ofInt a ↔ b < a := z_lt32 hb' ha
    have e4 : Int32.ofInt b ≤ Int32.ofInt a ↔ ¬ a < b := (z_le32 hb' ha).trans (by omega)
    have e5 : Int32.ofInt a ≤ Int32.ofInt b ↔ ¬ b < a := (z_le32 ha hb').trans (by omega)
    unfold z_br at h2
    cases cd <;> dsimp only at h2
    · exact lv_icmp_eq hx hb hd ht (fun q => by rw [if_pos (e1.mp q)] at h2; exact h2 H locs LS hF') (fun q => by rw [if_neg (fun z => q (e1.mpr z))] at h2; exact h2 H locs LS hF')
    · exact lv_icmp_ne hx hb hd ht (fun q => by rw [if_neg (fun z => q (e1.mpr z))] at h2; exact h2 H locs LS hF') (fun q => by rw [if_pos (e1.mp q)] at h2; exact h2 H locs LS hF')
    · exact lv_icmp_lt hx hb hd ht (fun q => by rw [if_pos (e2.mp q)] at h2; exact h2 H locs LS hF') (fun q => by rw [if_neg (fun z => q (e2.mpr z))] at h2; exact h2 H locs LS hF')
    · exact lv_icmp_ge hx hb hd ht (fun q => by rw [if_neg (e4.mp q)] at h2; exact h2 H locs LS hF') (fun q => by rw [if_pos (Classical.not_not.mp (fun z => q (e4.mpr z)))] at h2; exact h2 H locs LS hF')
    · exact lv_icmp_gt hx hb hd ht (fun q => by rw [if_pos (e3.mp q)] at h2; exact h2 H locs LS hF') (fun q => by rw [if_neg (fun z => q (e3.mpr z))] at h2; exact h2 H locs LS hF')
    · exact lv_icmp_le hx hb hd ht (fun q => by rw [if_neg (e5.mp q)] at h2; exact h2 H locs LS hF') (fun q => by rw [if_pos (Classical.not_not.mp (fun z => q (e5.mpr z)))] at h2; exact h2 H locs LS hF')
  · exact h.elim
end Sound1
