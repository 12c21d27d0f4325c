/-! calls, returns, and the whole: what the small machine says holds of the machine -/
def z_wsM (j : Nat) : List Cond := Cond.code (z_my j) (z_by j) (z_ml j) (z_rt j) :: lw_tbl.filter goodWord
def z_rm (d j : Nat) : Room := { frames := d, cells := (z_al j).1, slots := (z_al j).2, locals := 45 * d }
def z_Pc (w : z_Wd) (md : Bool) (as : List z_V) (V : z_M) : Array Value → State → Prop := fun a U => a = (as.map (z_enc w)).toArray ∧ z_HR w md V U.heap ∧ z_ZS w U U.heap ∧ z_TB w U
def z_Qc (w : z_Wd) (md : Bool) (V : z_M) (j : Nat) (Q : Int → z_M → Prop) : Array Value → State → Outcome → State → Prop := fun _ st o t => ∃ (v : Option Value) (z : Int) (V' : z_M), o = .returned v ∧ v.toList = (z_push (z_rk j) z []).map (z_enc w) ∧ (∀ x ∈ z_push (z_rk j) z [], z_okv V' x) ∧ Q z V' ∧ z_HR w md V' t.heap ∧ V 0 0 ≤ V' 0 0 ∧ va_F (fun q => z_base w ≤ q) st t
def z_IH (C : z_C) (l : Launch) (w : z_Wd) (d : Nat) : Prop := ∀ (j : Nat) (md : Bool) (as : List z_V) (V : z_M) (Q : Int → z_M → Prop), C j md as V Q → (∀ v ∈ as, z_okv V v) → 0 < j → j < 259 → (z_ea as).length ≤ z_ml j → Met l (z_my j) (z_wsM j) (z_rm d j) (z_Pc w md as V) (z_Qc w md V j Q) (z_al j).1 (z_al j).2 (fun q => z_base w ≤ q)
/-- what a program decides of the methods -/
def z_rtc (j : Nat) : Bool := match z_rk j, z_rt j with | 0, none => true | 1, some .int => true | 2, some .long => true | 3, some (.object _) => true | 3, some (.array _) => true | 4, some .boolean => true | 5, some .char => true | 6, some .byte => true | _, _ => false
theorem z_decs1 : (List.range 262).all (fun j => decide ((z_my j).cls ≠ "java/lang/invoke/MethodHandle") && decide ((z_my j).cls ≠ "java/lang/invoke/VarHandle") && true) = true := by decide +kernel
theorem z_decs5 : (List.range 259).all (fun j => plainName (z_my j).cls) = true := by decide +kernel
theorem z_decs2 : (List.range 262).all (fun j => Nat.ble (z_ml j) 26 && z_rtc j && Nat.ble (z_rc j) 14) = true := by decide +kernel
theorem z_decs3 : (List.range 262).all (fun j => match parseMethodDescriptor (z_my j).desc with | some sg => Nat.beq (sg.parameters.length + z_rcv j) (z_na j) | none => false) = true := by decide +kernel
theorem z_decs4 : (List.range 262).all (fun j => Nat.beq (z_rc j) 0 || decide (z_cn (z_rc j - 1) = (z_my j).cls)) = true := by decide +kernel
theorem z_code_at {j : Nat} (h0 : 0 < j) (hj : j < z_NM) : Cond.code (z_my j) (z_by j) (z_ml j) (z_rt j) ∈ lw_tbl ∧ goodWord (Cond.code (z_my j) (z_by j) (z_ml j) (z_rt j)) = true ∧ Cond.initialized (z_my j).cls ∈ lw_tbl := by
  have h := z_codes j hj
  unfold z_codec at h
  rw [show Nat.beq j 0 = false from Bool.eq_false_iff.mpr (fun q => by have := Nat.eq_of_beq_eq_true q; omega)] at h
  simp only [Bool.false_or, Bool.and_eq_true, decide_eq_true_eq] at h
  obtain ⟨⟨⟨⟨h1, h2⟩, h3⟩, h4⟩, h5⟩ := h
  rw [← h1, ← h4]
  exact ⟨z_tbl_at ((Nat.blt_eq).mp h2), h3, z_tbl_at ((Nat.blt_eq).mp h5)⟩
theorem z_dec_at {j : Nat} (hj : j < 259) : ((z_my j).cls ≠ "java/lang/invoke/MethodHandle" ∧ (z_my j).cls ≠ "java/lang/invoke/VarHandle") ∧ plainName (z_my j).cls = true ∧ z_ml j ≤ 26 ∧ z_rtc j = true ∧ (∀ sg, parseMethodDescriptor (z_my j).desc = some sg → sg.parameters.length + z_rcv j = z_na j) ∧ (0 < z_rc j → z_cn (z_rc j - 1) = (z_my j).cls) ∧ z_rc j ≤ 14 := by
  have hA := List.all_eq_true.mp z_decs1 j (List.mem_range.mpr (by omega))
  have hB := List.all_eq_true.mp z_decs2 j (List.mem_range.mpr (by omega))
  have h6 := List.all_eq_true.mp z_decs3 j (List.mem_range.mpr (by omega))
  have h7 := List.all_eq_true.mp z_decs4 j (List.mem_range.mpr (by omega))
  have h3 := List.all_eq_true.mp z_decs5 j (List.mem_range.mpr hj)
  simp only [Bool.and_eq_true, decide_eq_true_eq, Bool.or_eq_true] at hA hB h7
  obtain ⟨⟨h1, h2⟩, -⟩ := hA
  obtain ⟨⟨h4, h5⟩, h8⟩ := hB
  refine ⟨⟨h1, h2⟩, h3, Nat.le_of_ble_eq_true h4, h5, fun sg hs => ?_, fun q => ?_, Nat.le_of_ble_eq_true h8⟩
  · rw [hs] at h6
    exact Nat.eq_of_beq_eq_true h6
  · rcases h7 with h7 | h7
    · have := Nat.eq_of_beq_eq_true h7; omega
    · exact h7
theorem z_rc_le {j : Nat} (h : j < 262) : z_rc j ≤ 14 := by
  have := List.all_eq_true.mp z_decs2 j (List.mem_range.mpr h)
  simp only [Bool.and_eq_true] at this
  exact Nat.le_of_ble_eq_true this.2
theorem z_over_moved {ty : FieldType} {u U : State} (hvm : u.vm.Alike U.vm) (h : (Cond.arrayOver ty).before #[] u = true) : (Cond.arrayOver ty).before #[] U = true := by
  have mv : ∀ (C : String), ∀ comp c k, u.vm.findClass C = some comp → (u.vm.classes.findIdx? fun (x : Class) => match x.kind with | .array component _ => component == comp | _ => false) = some c → u.vm.classes[c]? = some k → k.kind = .array comp ty → u.vm.findClass ("[" ++ ty.toString) = some c →
      U.vm.findClass C = some comp ∧ (U.vm.classes.findIdx? fun (x : Class) => match x.kind with | .array component _ => component == comp | _ => false) = some c ∧ (∃ k', U.vm.classes[c]? = some k' ∧ k'.kind = .array comp ty) ∧ U.vm.findClass ("[" ++ ty.toString) = some c := by
    intro C comp c k h1 h2 h3 h4 h5
    obtain ⟨k', hk', he⟩ := hvm.2.2 _ _ h3
    refine ⟨by rw [hvm.findClass]; exact h1, ?_, ⟨k', hk', by rw [he]; exact h4⟩, by rw [hvm.findClass]; exact h5⟩
    rw [hvm.findIdx?_eq _ (fun _ => rfl)]
    exact h2
  cases ty with
  | object C => exact va_AO.moved hvm h
  | array t =>
    obtain ⟨comp, c, k, h1, h2, h3, h4, h5⟩ := arrayOverA_spec h
    obtain ⟨f1, hi, ⟨k', hk', hkind⟩, f2⟩ := mv _ comp c k h1 h2 h3 h4 h5
    unfold Cond.before Cond.holds
    simp only [Cond.value]
    rw [f1, Option.bind_some]
    refine (congrArg (fun o : Option Nat => (o.bind (fun c => (U.vm.classes[c]?).map fun (k : Class) => match k.kind with | .array _ ty => decide (ty = FieldType.array t) && decide (U.vm.findClass ("[" ++ (FieldType.array t).toString) = some c) | _ => false) == some true)) hi).trans ?_
    simp [hk', hkind, f2]
  | _ => simp [Cond.before, Cond.holds, Cond.value] at h
theorem z_TB.warm {w : z_Wd} {s U : State} (hW : s.WarmedH U.vm) (h : z_TB w s) : z_TB w U := by
  obtain ⟨h1, h2, h3, h4, h5, h6, h7⟩ := h
  have hA := hW.alike
  refine ⟨fun x hx hok => ?_, fun c hc => u_Kn_moved hA (h2 c hc), fun k k1 k2 => ?_, fun a a0 a1 a2 => ?_, fun j hj => vk_R.warm hW (h5 j hj), by rw [hA.findClass]; exact h6, fun k hk => ?_⟩
  · have hb := h1 x hx hok
    unfold z_ok at hok
    rcases (Bool.or_eq_true _ _).mp hok with g | g
    · exact word_at hW (good_of_word g) hb
    · cases x <;> first | (cases g; done) | exact va_Nw.warmF hW hb | exact va_Nw.warmM hW hb | exact va_Nw.warmC hW hb | exact z_over_moved hA hb
  · obtain ⟨⟨kk, comp, g1, g2⟩, g3⟩ := h3 k k1 k2
    obtain ⟨k', hk', he⟩ := hA.2.2 _ _ g1
    exact ⟨⟨k', comp, hk', by rw [he]; exact g2⟩, g3.moved hA⟩
  · obtain ⟨kk, comp, g1, g2⟩ := h4 a a0 a1 a2
    obtain ⟨k', hk', he⟩ := hA.2.2 _ _ g1
    exact ⟨k', comp, hk', by rw [he]; exact g2⟩
  · obtain ⟨cf, kf, fi, f, g1, g2, g3⟩ := h7 k hk
    obtain ⟨k', hi', he⟩ := State.fieldFound?_setVm hA g1
    exact ⟨cf, k', fi, f, hi', g2, g3⟩
theorem z_ZS.moved {w : z_Wd} {s U : State} {H : Heap} (hA : s.vm.Alike U.vm) (h : z_ZS w s H) : z_ZS w U H := fun x hx => (h x hx).moved hA
theorem z_Pc_blind {w : z_Wd} {md : Bool} {as : List z_V} {V : z_M} : FrameBlind (z_Pc w md as V) := fun a U g mk ⟨h1, h2, h3, h4⟩ =>
  ⟨h1, h2, z_ZS.moved (s := U) (U := U.calling g mk a) (Vm.Alike.refl U.vm) h3, z_TB.warm (s := U) (U := U.calling g mk a) (State.WarmedH.refl U) h4⟩
theorem z_push_app (rk : Nat) (z : Int) (r : List z_V) : z_push rk z r = z_push rk z [] ++ r := by
  unfold z_push
  cases Nat.beq rk 0 <;> cases Nat.beq rk 2 <;> cases Nat.beq rk 3 <;> rfl
section Sound8
variable {p : Program} {l : Launch} {e : Env} {R : Room} {s : State} {m : MethodId} {args : Array Value} {below : List Frame} {meth : Method} {c : Code} {QQ : State → Prop} {w : z_Wd} {i : Nat} {n0 : Int}
variable {md : Bool} {pc : Nat} {ls : z_L} {st : List z_V} {kc ks : Nat} {V : z_M} {C : z_C} {d : Nat}
/-- behind a call -/
theorem z_behind {H : Heap} {locs : List Loc} {LS : Array Slot} (hF : z_Fc w s i n0 md ls st kc ks V H locs LS) {j : Nat} {a : Array Value} (hb1 : kc + (z_al j).1 ≤ (z_al i).1 ∧ ks + (z_al j).2 ≤ (z_al i).2)
    (hrun : va_Run p l e R s m args below meth c H locs kc ks (z_al j).1 (z_al j).2 (F0 m pc LS (st.map (z_enc w))) ((st.drop (z_na j)).map (z_enc w)) (z_Qc w md V j (fun z V' => z_WP p l e R s m args below meth c QQ w i n0 md (pc + 3) ls (z_push (z_rk j) z (st.drop (z_na j))) (kc + (z_al j).1) (ks + (z_al j).2) V') a) (fun q => z_base w ≤ q)) :
    W p l e R s m args below meth c H locs kc ks QQ (F0 m pc LS (st.map (z_enc w))) := by
  intro T hT X
  obtain ⟨v, st₀, t, T', L, h0, X', hL, e1, e2, ⟨v', z, V', ev, el, eo, hk, hHR, hmono, hfz⟩, st'⟩ := hrun T hT X
  cases ev
  have hz1 : H.size ≤ T'.heap.size := by rw [e1, ← h0]; exact hfz.1
  have hz2 : ∀ q : Nat, q < H.size → ¬ z_base w ≤ q → T'.heap[q]? = H[q]? := fun q q1 q2 => by rw [e1, ← h0]; exact hfz.2 q (by rw [h0]; exact q1) q2
  have k := hk T'.heap (locs ++ L) LS ⟨by rw [e1]; exact hHR, hF.2.1.kept hz2, hF.2.2.1, ?_, fun k' v hv => z_okv_mono hmono (hF.2.2.2.2.1 k' v hv), hb1.1, hb1.2, ⟨Nat.le_trans hF.2.2.2.2.2.2.2.1.1 hz1, fun q q1 q2 => (hz2 q (Nat.lt_of_lt_of_le q1 hF.2.2.2.2.2.2.2.1.1) q2).trans (hF.2.2.2.2.2.2.2.1.2.1 q q1 q2), fun q hq => by
      rcases List.mem_append.mp hq with h | h
      · exact hF.2.2.2.2.2.2.2.1.2.2 q h
      · exact hL q h⟩, Int.le_trans hF.2.2.2.2.2.2.2.2 hmono⟩
  · rw [z_push_app, List.map_append, ← el] at k
    obtain ⟨t2, a1, b1⟩ := k T' rfl X'
    exact ⟨t2, st' t2 a1, b1⟩
  · rw [z_push_app]
    intro x hx
    rcases List.mem_append.mp hx with q | q
    · exact eo x q
    · exact z_okv_mono hmono (hF.2.2.2.1 x (List.mem_of_mem_drop q))
theorem z_s_call (hw : z_WV w) (hT : z_TB w s) (hx : p.tables.exec = Jvm.exec) (hb : c.code = z_by i) (hml : c.maxLocals = z_ml i) (hown : s.vm.findClass (z_own i) = some m.cls) (hR : (z_al i).1 ≤ R.cells ∧ (z_al i).2 ≤ R.slots) (hR3 : d + 1 ≤ R.frames ∧ 45 * (d + 1) ≤ R.locals) (hC : z_IH C l w d) {idx j y rv : Nat}
    (hkind : (rv = 0 ∧ decode (z_by i) pc = .ok (.invokestatic idx, 3) ∧ (∀ q ∈ [z_lk i idx y (z_my j), .static (z_my j)], q ∈ lw_tbl ∧ z_ok q = true)) ∨
      (rv = 1 ∧ ∃ a as', (st.take (z_na j)).reverse = .inr (.inr a) :: as' ∧ 0 < a ∧ ¬ a = 7 ∧ ((decode (z_by i) pc = .ok (.invokevirtual idx, 3) ∧ (∀ q ∈ [z_lk i idx y (z_my j), .instanceMethod (z_my j), .selects (z_my j).cls (z_my j) (z_my j)], q ∈ lw_tbl ∧ z_ok q = true) ∧ z_kd a = z_rc j ∧ 0 < z_rc j) ∨
        (decode (z_by i) pc = .ok (.invokespecial idx, 3) ∧ (∀ q ∈ [z_lk i idx y (z_my j), .instanceMethod (z_my j)], q ∈ lw_tbl ∧ z_ok q = true) ∧ (z_my j).name = "<init>" ∧ z_rt j = none))))
    (h : z_call C i j rv (z_WP p l e R s m args below meth c QQ w i n0) md pc ls st kc ks V) : z_WP p l e R s m args below meth c QQ w i n0 md pc ls st kc ks V := by
  obtain ⟨⟨g1, g2, g3, g4, g5, g6⟩, h⟩ := z_g_e h
  obtain ⟨hb1, h⟩ := z_g_e h
  intro H locs LS hF
  have hsplit : st.map (z_enc w) = ((st.take (z_na j)).map (z_enc w)) ++ (st.drop (z_na j)).map (z_enc w) := by rw [← List.map_append, List.take_append_drop]
  have hokas : ∀ v ∈ (st.take (z_na j)).reverse, z_okv V v := fun v hv => hF.2.2.2.1 v (List.mem_of_mem_take (List.mem_reverse.mp hv))
  have hM := hC j md _ V _ h hokas g3 g4 g6
  obtain ⟨c1, c2, c3⟩ := z_code_at g3 (Nat.lt_of_lt_of_le g4 (Nat.le_of_ble_eq_true rfl))
  obtain ⟨d1, d2, d3, d4, d5, d6, d7⟩ := z_dec_at g4
  have hcodew : (Cond.code (z_my j) (z_by j) (z_ml j) (z_rt j)).before args s = true := z_word hT ⟨c1, by unfold z_ok; rw [c2]; rfl⟩ rfl
  have hini : (Cond.initialized (z_my j).cls).before args s = true := z_word hT ⟨c3, rfl⟩ rfl
  have hws : ∀ x ∈ z_wsM j, ∀ (a' : Array Value) (U : State), s.WarmedH U.vm → x.before a' U = true := fun x hx a' U hW => by
    have hg : x ∈ lw_tbl ∧ goodWord x = true := by
      rcases List.mem_cons.mp hx with rfl | q
      · exact ⟨c1, c2⟩
      · exact List.mem_filter.mp q
    exact word_at hW (good_of_word hg.2) (hT.1 x hg.1 (by unfold z_ok; rw [hg.2]; rfl))
  have hPc : ∀ U : State, U.heap = H → s.WarmedH U.vm → z_Pc w md (st.take (z_na j)).reverse V (((st.take (z_na j)).reverse).map (z_enc w)).toArray U := fun U hU hW => ⟨rfl, by rw [hU]; exact hF.1, by rw [hU]; exact hF.2.1.moved hW.alike, hT.warm hW⟩
  have hfr : (z_rm d j).frames + 1 ≤ R.frames := hR3.1
  have hlo : 8 + (z_ml j + 11) + (z_rm d j).locals ≤ R.locals := by show 8 + (z_ml j + 11) + 45 * d ≤ _; omega
  have hf : kc + (z_al j).1 ≤ R.cells ∧ ks + (z_al j).2 ≤ R.slots := ⟨Nat.le_trans hb1.1 hR.1, Nat.le_trans hb1.2 hR.2⟩
  have hWs : 2 * (F0 m pc LS (st.map (z_enc w))).monitorRoom + (((st.drop (z_na j)).map (z_enc w)).map fun v => v.category).sum ≤ 8 := by show 2 * 0 + _ ≤ 8; rw [z_sum_cat hw]; omega
  have hlen : (st.take (z_na j)).length = z_na j := by rw [List.length_take]; omega
  have S : CallFix p m c (z_by i) (z_ml i) s args lw_tbl (z_own i) → True := fun _ => trivial
  refine z_behind hF hb1 (a := (((st.take (z_na j)).reverse).map (z_enc w)).toArray) ?_
  have hCF : CallFix p m c (z_by i) (z_ml i) s args [] (z_own i) := ⟨hx, hb, hml, hown, fun _ q => by cases q⟩
  rcases hkind with ⟨hrv, hd, hn⟩ | ⟨hrv, a, as', has, ha0, ha7, hk⟩
  · have hn2 : ∀ sig, parseMethodDescriptor (z_my j).desc = some sig → z_na j = sig.parameters.length := fun sg hs => by have := d5 sg hs; omega
    have hst : (Cond.static (z_my j)).before args s = true := z_word hT (hn _ (List.mem_cons_of_mem _ List.mem_cons_self)) rfl
    have hl := hn _ List.mem_cons_self
    have hstack : (F0 m pc LS (st.map (z_enc w))).stack = (((st.take (z_na j)).reverse).map (z_enc w)).reverse ++ (st.drop (z_na j)).map (z_enc w) := by
      show st.map (z_enc w) = _
      rw [hsplit, List.map_reverse, List.reverse_reverse]
    unfold z_lk at hl
    cases hy : Nat.beq y 0 with
    | true =>
      rw [hy] at hl
      exact va_runS (As := ((st.take (z_na j)).reverse).map (z_enc w)) hCF hM ⟨⟨rfl, rfl, hfr, hlo, hws, List.mem_cons_self, hcodew, hini, d1, hn2, z_word hT hl rfl⟩, hst⟩ ⟨z_Pc_blind, hPc⟩ rfl (by rw [List.length_map, List.length_reverse, hlen]) hF.2.2.1.1 hstack hWs hd hf
    | false =>
      rw [hy] at hl
      exact va_runSN (As := ((st.take (z_na j)).reverse).map (z_enc w)) hCF hM ⟨⟨⟨rfl, rfl, hfr, hlo, hws, List.mem_cons_self⟩, hcodew, hini, d1, hn2, z_word hT hl rfl⟩, hst, trivial⟩ ⟨z_Pc_blind, hPc⟩ rfl (by rw [List.length_map, List.length_reverse, hlen]) hF.2.2.1.1 hstack hWs hd hf
  · have hn2 : ∀ sig, parseMethodDescriptor (z_my j).desc = some sig → z_na j - 1 = sig.parameters.length := fun sg hs => by have := d5 sg hs; omega
    have hal : as'.length = z_na j - 1 := by
      have := congrArg List.length has
      rw [List.length_reverse, hlen, List.length_cons] at this
      omega
    have hmapas : ((st.take (z_na j)).reverse).map (z_enc w) = .ref (z_ad w a) :: as'.map (z_enc w) := by
      rw [has]
      show z_rv w a :: _ = _
      rw [z_rv_hi ha0 ha7]
    have hstack : (F0 m pc LS (st.map (z_enc w))).stack = (as'.map (z_enc w)).reverse ++ .ref (z_ad w a) :: (st.drop (z_na j)).map (z_enc w) := by
      show st.map (z_enc w) = _
      rw [hsplit]
      have e1 : (st.take (z_na j)).map (z_enc w) = (((st.take (z_na j)).reverse).map (z_enc w)).reverse := by rw [List.map_reverse, List.reverse_reverse]
      rw [e1, hmapas, List.reverse_cons, List.append_assoc]
      rfl
    rw [hmapas] at hPc ⊢
    rcases hk with ⟨hd, hn, hka, hrc⟩ | ⟨hd, hn, hinit, hret⟩
    · have hl := hn _ List.mem_cons_self
      have hin : (Cond.instanceMethod (z_my j)).before args s = true := z_word hT (hn _ (List.mem_cons_of_mem _ List.mem_cons_self)) rfl
      have hse : (Cond.selects (z_my j).cls (z_my j) (z_my j)).before args s = true := z_word hT (hn _ (List.mem_cons_of_mem _ (List.mem_cons_of_mem _ List.mem_cons_self))) rfl
      have hoka : z_okv V (.inr (.inr a)) := hokas _ (by rw [has]; exact List.mem_cons_self)
      obtain ⟨a1, a2, a3, cell, q1, q2, q3, q4, q5, q6, q7⟩ := hF.cell hoka (by omega) (by omega)
      have hfc : s.vm.findClass (z_my j).cls = some cell.cls := by
        rw [q2, ← d6 hrc, ← hka]
        unfold z_cls
        rw [if_neg (by omega)]
        by_cases h13 : z_kd a - 1 < 13
        · exact (hT.2.1 _ h13).2.1
        · have : z_kd a - 1 = 13 := by omega
          rw [this]
          exact hT.2.2.2.2.2.1
      unfold z_lk at hl
      cases hy : Nat.beq y 0 with
      | true =>
        rw [hy] at hl
        exact va_runV (C := (z_my j).cls) (As := as'.map (z_enc w)) hCF hM ⟨⟨rfl, rfl, hfr, hlo, hws, List.mem_cons_self, hcodew, hini, d1, hn2, z_word hT hl rfl⟩, hin, hse⟩ ⟨z_Pc_blind, ⟨cell, q1, q3, hfc⟩, hPc⟩ rfl (by rw [List.length_map, hal]) hF.2.2.1.1 hstack hWs hd hf
      | false =>
        rw [hy] at hl
        exact va_runVN (C := (z_my j).cls) (As := as'.map (z_enc w)) hCF hM ⟨⟨⟨rfl, rfl, hfr, hlo, hws, List.mem_cons_self⟩, hcodew, hini, d1, hn2, z_word hT hl rfl⟩, hin, hse⟩ ⟨z_Pc_blind, ⟨cell, q1, q3, hfc⟩, hPc⟩ rfl (by rw [List.length_map, hal]) hF.2.2.1.1 hstack hWs hd hf
    · have hl := hn _ List.mem_cons_self
      have hin : (Cond.instanceMethod (z_my j)).before args s = true := z_word hT (hn _ (List.mem_cons_of_mem _ List.mem_cons_self)) rfl
      have hcw : Cond.code (z_my j) (z_by j) (z_ml j) none ∈ z_wsM j := by rw [← hret]; exact List.mem_cons_self
      rw [hret] at hcodew
      unfold z_lk at hl
      cases hy : Nat.beq y 0 with
      | true =>
        rw [hy] at hl
        exact va_runI (As := as'.map (z_enc w)) hCF hM ⟨⟨rfl, rfl, hfr, hlo, hws, hcw, hcodew, hini, d1, hn2, z_word hT hl rfl⟩, hinit, hin⟩ ⟨z_Pc_blind, hPc⟩ rfl (by rw [List.length_map, hal]) hF.2.2.1.1 hstack hWs hd hf
      | false =>
        rw [hy] at hl
        exact va_runIN (As := as'.map (z_enc w)) hCF hM ⟨⟨⟨rfl, rfl, hfr, hlo, hws, hcw⟩, hcodew, hini, d1, hn2, z_word hT hl rfl⟩, hinit, hin⟩ ⟨z_Pc_blind, hPc⟩ rfl (by rw [List.length_map, hal]) hF.2.2.1.1 hstack hWs hd hf
end Sound8
