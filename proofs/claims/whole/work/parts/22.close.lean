/-! THE CLAIM OUT OF ONE WALK OF THE LAW'S BODY. Your part is whole_start (and what it stands on); all else here is the same for every law, but numbers. -/
def R_law : String := "FolioStairLaw"
def lw_P (b : Addr) (xs : List Int32) (args : Array Value) (s : State) : Prop := args = #[.ref b] ∧ s.IntsAt b xs ∧ xs.length ≤ 3072 ∧ (Jvm.Cond.and given_1 narrow_1).before args s = true
def lw_Q (_ : Array Value) (s : State) (o : Outcome) (t : State) : Prop := o = .returned (some (.int 1)) ∧ Framed s o t [] 600000 7302250
def lw_Z (below : List Frame) (a : Array Value) (s : State) : State → Prop := fun t => ∃ o, t.status = .running ∧ Ended t below o ∧ lw_Q a s o t
/-- the law's own end, with 1 on the stack, nothing written that was there before, its room as the claim has it -/
theorem lw_ret {p : Program} {l : Launch} {e : Env} {s : State} {m : MethodId} {below : List Frame} {meth : Method} {c : Code} {b : Nat} (hx : p.tables.exec = Jvm.exec) (hb : c.code = code) (hr : meth.sig.returnType = ret) (hlocks : meth.locks = false) {pc : Nat} {H : Heap} {ls : Array Slot} (hdg : decode code pc = .ok (.ireturn, 1)) : W p l e room_1 s m #[Value.ref b] below meth c H [] 600000 7302250 (lw_Z below #[Value.ref b] s) (F0 m pc ls [.int 1]) := by
  intro T hT X
  obtain ⟨fs, hret, hrun, hended, hW, hframe⟩ := X.leave (v := some (.int 1)) (hlocks := hlocks) (fun h => by rw [hr] at h; cases h)
  have hmeth' : T.vm.method? m = some meth := X.method'
  refine ⟨T.setFrames fs, ?_, .returned (some (.int 1)), hrun, hended, rfl, ⟨_, rfl⟩, hW, hframe⟩
  jvm_step X.here [X.here.top, hx, hb, hdg, hmeth', hr, ret, narrow_b1]
  (try refine ⟨rfl, ?_⟩); (try refine ⟨rfl, ?_⟩)
  first | (intro acts; rw [hret _ acts rfl rfl rfl]) | rw [hret _ _ rfl rfl rfl]
  exact Steps.refl _
/-- what holds at the law's entry: the machine, the code, the tables' words (any of lw_tbl by 'hts w (by decide +kernel)'), the script of L ints xs at the cell b, what the Statement gives of the start (any of its parts by flat_of_before) -/
def lw_At (p : Program) (s : State) (m : MethodId) (meth : Method) (c : Code) (b L : Nat) (xs : Nat → Int32) : Prop :=
  p.tables.exec = Jvm.exec ∧ c.code = code ∧ meth.sig.returnType = ret ∧ c.maxLocals = 4 ∧ s.vm.findClass R_law = some m.cls ∧ (∀ w ∈ lw_tbl, w.before #[Value.ref b] s = true) ∧ va_X b L xs s s.heap ∧ b < s.heap.size ∧ meth.locks = false ∧ (Jvm.Cond.and given_1 narrow_1).before #[Value.ref b] s = true
/-! the law's start, out of a run of the small machine -/
theorem z_by0 : z_by 0 = code := rfl
theorem z_law0 : z_ml 0 = 4 ∧ z_own 0 = R_law ∧ ¬ (z_my 0).name = "<init>" ∧ z_rk 0 = 4 ∧ z_al 0 = (600000, 7302250) := by decide +kernel
set_option maxHeartbeats 2000000 in
theorem z_close {p : Program} {e : Env} {s : State} {m : MethodId} {below : List Frame} {meth : Method} {c : Code} (l : Launch) {b L : Nat} {xs : Nat → Int32} (hL : L ≤ 3072) (C0 : lw_At p s m meth c b L xs)
    (hm : z_Ex (z_MS 1800) 0 (fun z _ => z = 1) false 0 (z_ent [.inr (.inr 1)] 4) [] 0 0 (z_V0 L xs)) : W p l e room_1 s m #[Value.ref b] below meth c s.heap [] 0 0 (lw_Z below #[Value.ref b] s) (entryFrame m ([Value.ref b] : List Value).toArray 4) := by
  obtain ⟨hx, hcode, hret, hml, hown, hts, hX, hbl, hlocks, hg⟩ := C0
  obtain ⟨w, hb, had, hWV, hTB, hZS, hHR⟩ := z_start hL hts hX hbl hg
  have hby : c.code = z_by 0 := hcode.trans z_by0.symm
  obtain ⟨l1, l2, l3, l4, l5⟩ := z_law0
  have key : ∀ md pc ls st kc ks V, z_Stp (z_MS 1800) 0 (fun z _ => z = 1) (z_WP p l e room_1 s m #[Value.ref b] below meth c (lw_Z below #[Value.ref b] s) w 0 36) md pc ls st kc ks V → z_WP p l e room_1 s m #[Value.ref b] below meth c (lw_Z below #[Value.ref b] s) w 0 36 md pc ls st kc ks V := by
    intro md pc ls st kc ks V h
    refine z_sound1 (C := z_MS 1800) (d := 1800) (Q := fun z _ => z = 1) hWV hTB hx hby (by rw [l1]; exact hml) (by rw [l2]; exact hown) (fun q => absurd q l3) (by rw [l5]; exact ⟨Nat.le_refl _, Nat.le_refl _⟩) ⟨by decide, by decide⟩ (z_sound l w hWV 1800) ?_ ?_ ?_ ?_ h
    · intro pc ls LS kc ks z V H locs hd hz hF
      have hz1 : z = 1 := by
        rw [l4] at hz
        have hz' : z_g (z = 0 ∨ z = 1) (z = 1) := hz
        exact (z_g_e hz').2
      subst hz1
      have hkc : kc ≤ 600000 := by have := hF.2.2.2.2.2.1; rw [l5] at this; exact this
      have hks : ks ≤ 7302250 := by have := hF.2.2.2.2.2.2.1; rw [l5] at this; exact this
      have e1 : Int32.ofInt 1 = 1 := by decide
      rw [e1]
      refine W.widen hkc hks (va_forget (fun q hq => ?_) (lw_ret hx hcode hret hlocks (by rw [← z_by0]; exact hd)))
      have := hF.2.2.2.2.2.2.2.1.2.2 q hq
      rw [← hb]; exact this
    · intro pc ls LS kc ks z V H locs hd hr
      rw [l4] at hr; cases hr
    · intro pc ls LS kc ks a V H locs hd hr
      rw [l4] at hr; cases hr
    · intro pc ls LS kc ks V H locs hd hr
      rw [l4] at hr; cases hr
  have e1 : [Value.ref b] = ([.inr (.inr 1)] : List z_V).map (z_enc w) := by
    show [Value.ref b] = [z_rv w 1]
    unfold z_rv z_ad
    rw [if_neg (by omega), if_neg (by omega), if_pos (by omega), had]
  have hlv := lv_entry (([.inr (.inr 1)] : List z_V).map (z_enc w)) (n := 4) (by rw [z_ea_len hWV]; decide)
  rw [show entryFrame m ([Value.ref b] : List Value).toArray 4 = entryFrame m ((([.inr (.inr 1)] : List z_V).map (z_enc w)).toArray) 4 by rw [← e1], lg_entry_eq]
  generalize (lg_sl (([.inr (.inr 1)] : List z_V).map (z_enc w)) ++ List.replicate (4 - (lg_sl (([.inr (.inr 1)] : List z_V).map (z_enc w))).length) Slot.unset).toArray = LS at hlv ⊢
  refine hm (z_WP p l e room_1 s m #[Value.ref b] below meth c (lw_Z below #[Value.ref b] s) w 0 36) key (fun pc ls st kc ks V hG h => z_switch pc ls st kc ks V hG h) s.heap [] LS ⟨hHR, hZS, ?_, (fun v hv => by cases hv), z_ent_ok (fun v hv => ?_), Nat.zero_le _, Nat.zero_le _, va_S.rf, Int.le_refl _⟩
  · rw [l1]
    exact z_ent_LR hWV (by decide) hlv
  · rcases List.mem_cons.mp hv with rfl | q
    · show (1 : Int) < 36
      decide
    · cases q
