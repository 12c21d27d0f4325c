theorem z_sum_cat {w : z_Wd} (hw : z_WV w) : ∀ r : List z_V, ((r.map (z_enc w)).map fun v => v.category).sum = z_sum r
  | [] => rfl
  | v :: r => by
    have ih := z_sum_cat hw r
    simp only [List.map_cons, List.sum_cons, z_sum, ih]
    cases hv : z_is2 v with
    | true => rw [z_cat2 hv]; rfl
    | false => rw [z_cat1 hw hv]; rfl
theorem z_arrV {cell : Cell} {N : Nat} {f : Nat → Value} (h2 : cell.slots.size = N) (h3 : ∀ j, j < N → cell.slots[j]? = some (f j)) : cell.slots = (arrV cell.cls N f).slots := by
  unfold arrV
  dsimp only
  apply Array.ext
  · simp [h2]
  · intro j q1 q2
    have := h3 j (by omega)
    rw [Array.getElem?_eq_getElem q1] at this
    simp only [Array.getElem_ofFn]
    exact Option.some.inj this
theorem z_sp (k : Nat) : ∀ (ps : List (Value × Nat)) (c c' : Cell), c.slots = c'.slots → (c.storePairs k ps).slots = (c'.storePairs k ps).slots
  | [], _, _, h => h
  | q :: ps, c, c', h => z_sp k ps (c.setSlot (k + q.2) q.1) (c'.setSlot (k + q.2) q.1) (by simp only [Cell.setSlot, h])
/-- one cell is written anew -/
theorem z_HR.cellset {w : z_Wd} (hw : z_WV w) {md : Bool} {V V' : z_M} {H H' : Heap} (h : z_HR w md V H) {a : Nat} (ha : 36 ≤ a) (hV : ∀ b, ¬ b = a → ∀ j, V' b j = V b j) (hz : V 0 0 ≤ (a : Int) → ∀ j, V' a j = 0) (hrf : md = true → ∀ j, z_rf a j = 0)
    (h1 : z_CH w V' H' a) (h2 : H'.size = H.size) (h3 : ∀ q : Nat, q ≠ z_ad w a → H'[q]? = H[q]?) : z_HR w md V' H' := by
  obtain ⟨g1, g2, g3, g4, g5, g6⟩ := h
  have e0 : ∀ j, V' 0 j = V 0 j := hV 0 (by omega)
  have hlen : ∀ b, z_len' V' b = z_len' V b := fun b => by unfold z_len'; rw [e0]
  refine ⟨by rw [e0]; exact g1, by rw [e0, h2]; exact g2, fun b hb hbn h7 => ?_, fun b hbn j => ?_, fun b hb hbn hkb => ?_, fun hm b j hr => ?_⟩
  · rw [e0] at hbn
    by_cases hba : b = a
    · subst hba; exact h1
    · obtain ⟨cb, q1, q2, q3, q4, q5, q6, q7⟩ := g3 b hb hbn h7
      have hns : z_nS V' b = z_nS V b := by unfold z_nS; rw [hlen]
      refine ⟨cb, by rw [h3 _ (z_ad_ne hw ha hb h7 hba)]; exact q1, q2, q3, q4, q5, fun hh => by rw [hns]; exact q6 hh, fun j hj => ?_⟩
      rw [hns] at hj
      rw [z_rd_row (hV b hba j), hV b hba j]
      exact ⟨(q7 j hj).1, z_oks_mono (by rw [e0]; exact Int.le_refl _) (q7 j hj).2⟩
  · rw [e0] at hbn
    by_cases hba : b = a
    · subst hba; exact hz hbn j
    · rw [hV b hba]; exact g4 b hbn j
  · rw [e0] at hbn
    rw [hlen]
    exact g5 b hb hbn hkb
  · by_cases hba : b = a
    · subst hba; exact absurd (hrf hm j) hr
    · rw [hV b hba]; exact g6 hm b j hr
section Sound7
variable {p : Program} {l : Launch} {e : Env} {R : Room} {s : State} {m : MethodId} {args : Array Value} {below : List Frame} {meth : Method} {c : Code} {QQ : State → Prop} {w : z_Wd} {i : Nat} {n0 : Int}
variable {md : Bool} {pc : Nat} {ls : z_L} {st : List z_V} {kc ks : Nat} {V : z_M}
theorem z_s_clone (hT : z_TB w s) (hw : z_WV w) (hx : p.tables.exec = Jvm.exec) (hb : c.code = z_by i) (hml : c.maxLocals = z_ml i) (hown : s.vm.findClass (z_own i) = some m.cls) (hR : (z_al i).1 ≤ R.cells ∧ (z_al i).2 ≤ R.slots) (hR2 : 1 ≤ R.frames ∧ 45 ≤ R.locals) {idx : Nat} (hd : decode (z_by i) pc = .ok (.invokevirtual idx, 3)) (hn : ∀ q ∈ z_need i (.invokevirtual idx) 1002 0, q ∈ lw_tbl ∧ z_ok q = true)
    (h : z_r1 st fun a r => z_g (z_kd a = 101 ∧ 36 ≤ a ∧ z_kd (z_nx V) = 101 ∧ z_LN (z_nx V) = 0 ∧ z_sum r ≤ 8 ∧ z_len' V a < 20000) (z_budget i kc ks 1 (z_len' V a).toNat (z_WP p l e R s m args below meth c QQ w i n0 md (pc + 3) ls (.inr (.inr (z_nx V)) :: r) (kc + 1) (ks + (z_len' V a).toNat) (z_cln V a)))) : z_WP p l e R s m args below meth c QQ w i n0 md pc ls st kc ks V := by
  unfold z_r1 at h
  split at h
  · rename_i a r
    obtain ⟨⟨hk, ha, hk2, hl0, hsum, hlen⟩, h⟩ := z_g_e h
    obtain ⟨hb1, h⟩ := z_g_e h
    intro H locs LS hF
    have hoka := z_ok_hd hF.2.2.2.1
    obtain ⟨a1, a2, a3, cell, q1, q2, q3, q4, q5, q6, q7⟩ := hF.cell hoka (by omega) (by omega)
    obtain ⟨l0, l1, l2⟩ := hF.len hoka a1 (by omega)
    obtain ⟨x1, x2, x3, x4⟩ := z_nx_s hF.1
    have hsz := (q6 (by omega)).2.2 ha
    have hvm := q5 ha
    have hcl : cell.cls = z_dA w 101 := by rw [q2]; unfold z_cls; rw [if_pos (by omega), if_neg (by omega), hk]
    have hnm : s.vm.findClass "[I" = some (z_dA w 101) := (hT.2.2.1 101 (by omega) (by omega)).2
    have mem : ∀ (x : Cond), x ∈ z_need i (.invokevirtual idx) 1002 0 → x ∈ lw_tbl ∧ z_ok x = true := hn
    have w1 : (Cond.methodLink (z_own i) idx z_clone).before args s = true := z_word hT (mem _ (by simp [z_need])) rfl
    have w2 : (Cond.sameMethod "[I" "java/lang/Object" "clone" "()Ljava/lang/Object;").before args s = true := z_word hT (mem _ (by simp [z_need])) rfl
    have w3 : (Cond.native z_oclone).before args s = true := z_word hT (mem _ (by simp [z_need])) rfl
    have w4 : (Cond.instanceMethod z_oclone).before args s = true := z_word hT (mem _ (by simp [z_need])) rfl
    have w5 : (Cond.selects "[I" z_clone z_oclone).before args s = true := z_word hT (mem _ (by simp [z_need])) rfl
    have w6 : (Cond.castable "[I" "java/lang/Cloneable").before args s = true := z_word hT (mem _ (by simp [z_need])) rfl
    obtain ⟨c0, t0', f1, f2, f3⟩ := Cond.castable_spec w6
    cases hnm.symm.trans f1
    show W p l e R s m args below meth c H locs kc ks QQ (F0 m pc LS (z_rv w a :: r.map (z_enc w)))
    rw [a3]
    have harr := z_isArr hT a1 (by omega) (by omega) q2 q3
    rw [z_ety_101 hk] at harr
    intro T hT' X
    obtain ⟨-, kA, hkA, comp, hkind⟩ := State.isArrayOf_alike X.warmed.alike harr
    obtain ⟨-, kS, hkS, compS, hkindS⟩ := harr
    have hval : ∀ j, j < (z_len' V a).toNat → cell.slots[j]? = some (.int (Int32.ofInt (V a j))) ∧ -2147483648 ≤ V a j ∧ V a j < 2147483648 := fun j hj => by
      obtain ⟨g1, g2⟩ := q7 j (by rw [l2]; exact hj)
      have hty : z_sty a j = .int := by unfold z_sty; rw [if_pos (by omega)]; exact z_ety_101 hk
      have hsm : z_sm w a j = j := by unfold z_sm; rw [if_pos (by omega)]
      rw [hty, hsm] at g1
      rw [hty] at g2
      exact ⟨g1, g2⟩
    obtain ⟨vm', X', st'⟩ := X.cloneArray hx hown w1 w2 w3 w4 w5 (a := z_ad w a) (cell := cell) (by rw [hT']; exact q1) (z_vm_none hvm).2 (z_vm_none hvm).1 (by rw [hcl]; exact hnm) f2 (by rw [hcl]; exact f3)
      (fun j v hv => by
        have hj : j < (z_len' V a).toNat := by have := k2_hasslot hv; omega
        cases hv.symm.trans (hval j hj).1
        simp [State.fitsSlot, State.slotType?, hkA, hkind, fits])
      (g := F0 m pc LS (.ref (z_ad w a) :: r.map (z_enc w))) rfl (by rw [hml]; exact hF.2.2.1.1) rfl (by rw [hb]; exact hd) hR2.1 (by show 2 * 0 + _ + 14 ≤ _; rw [z_sum_cat hw]; omega) (Nat.le_trans hb1.1 hR.1) (by rw [hsz, l2]; exact Nat.le_trans hb1.2 hR.2) (hloader := Vm.clonesLoader_of_array hkS hkindS)
    generalize hcell : ({ cls := cell.cls, slots := cell.slots } : Cell) = nc at X' st'
    obtain ⟨o1, o2, o3⟩ := z_push_old (H := H) (cell := nc)
    have e00 : z_cln V a 0 0 = V 0 0 + 1 := by unfold z_cln; rw [if_neg (by omega)]; exact z_mk_0 V _ (by omega)
    have hHR : z_HR w md (z_cln V a) (H.push nc) := by
      refine hF.1.row hw (n := z_len' V a) (by omega) ⟨l0, l1, Or.inl hl0⟩ e00 (by unfold z_cln; rw [if_neg (by omega)]; exact z_mk_n V _) (fun b b0 bn => ⟨fun j => by unfold z_cln; rw [if_neg bn]; exact z_mk_r V _ b b0 j, by unfold z_cln; rw [if_neg (by omega)]; exact z_mk_l V _ b b0 bn⟩) o2 o3 o1 (by rw [← hcell, hk2]; exact hcl) (by rw [← hcell]) (by rw [← hcell]; exact hsz.trans l2) (fun j hj => ?_)
      have e1 : z_cln V a (z_nx V) j = V a j := by unfold z_cln; rw [if_pos rfl, if_pos (by omega)]
      rw [z_ety_101 hk2, ← hcell]
      refine ⟨?_, by rw [e1]; exact (hval j hj).2⟩
      rw [(hval j hj).1]
      simp only [z_rd, e1, z_enc]
    have hheap : ((T.setVm vm').pushCell nc).heap = H.push nc := by rw [← hT']; rfl
    have k := h (H.push nc) locs LS (hF.made hHR (by rw [e00]; omega) o1 (by omega) (z_ok_cons (by show (z_nx V : Int) < _; rw [e00]; omega) (fun v hv => z_okv_mono (by rw [e00]; omega) (z_ok_tl hF.2.2.2.1 v hv))) hb1.1 hb1.2)
    have k : W p l e R s m args below meth c (H.push nc) locs (kc + 1) (ks + (z_len' V a).toNat) QQ (F0 m (pc + 3) LS (z_rv w (z_nx V) :: r.map (z_enc w))) := k
    rw [x4] at k
    rw [hsz, l2] at X'
    obtain ⟨t, b1, b2⟩ := k _ hheap X'
    refine ⟨t, st' t ?_, b2⟩
    rw [show T.heap.size = H.size by rw [hT']]
    exact b1
  · exact h.elim
theorem z_s_copy (hT : z_TB w s) (hw : z_WV w) (hx : p.tables.exec = Jvm.exec) (hb : c.code = z_by i) (hml : c.maxLocals = z_ml i) (hown : s.vm.findClass (z_own i) = some m.cls) (hR2 : 1 ≤ R.frames ∧ 45 ≤ R.locals) {idx : Nat} (hd : decode (z_by i) pc = .ok (.invokestatic idx, 3)) (hn : ∀ q ∈ z_need i (.invokestatic idx) 1001 0, q ∈ lw_tbl ∧ z_ok q = true)
    (h : match st with
        | .inl n :: .inl dp :: .inr (.inr b) :: .inl sp :: .inr (.inr a) :: r => z_g (z_kd a = 101 ∧ z_kd b = 101 ∧ 36 ≤ b ∧ z_sum r ≤ 8) (z_g (0 ≤ n ∧ 0 ≤ sp ∧ 0 ≤ dp ∧ sp + n ≤ z_len' V a ∧ dp + n ≤ z_len' V b) (z_WP p l e R s m args below meth c QQ w i n0 md (pc + 3) ls r kc ks (z_cpy V a sp.toNat b dp.toNat n.toNat)))
        | _ => False) : z_WP p l e R s m args below meth c QQ w i n0 md pc ls st kc ks V := by
  split at h
  · rename_i n dp b sp a r
    obtain ⟨⟨hka, hkb, hb36, hsum⟩, h⟩ := z_g_e h
    obtain ⟨⟨hn0, hs0, hd0, hsn, hdn⟩, h⟩ := z_g_e h
    intro H locs LS hF
    have ok2 := z_ok_tl (z_ok_tl hF.2.2.2.1)
    have okb := z_ok_hd ok2
    have oka := z_ok_hd (z_ok_tl (z_ok_tl ok2))
    have okr := z_ok_tl (z_ok_tl (z_ok_tl ok2))
    obtain ⟨a1, a2, a3, ca, q1, q2, q3, q4, q5, q6, q7⟩ := hF.cell oka (by omega) (by omega)
    obtain ⟨b1, b2, b3, cb, g1, g2, g3, g4, g5, g6, g7⟩ := hF.cell okb (by omega) (by omega)
    obtain ⟨la0, la1, la2⟩ := hF.len oka a1 (by omega)
    obtain ⟨lb0, lb1, lb2⟩ := hF.len okb b1 (by omega)
    have sa := (q6 (by omega)).1
    have sb := (g6 (by omega)).2.2 hb36
    have mem := hn
    have w1 : (Cond.methodLink (z_own i) idx arraycopyName).before args s = true := z_word hT (mem _ (by simp [z_need])) rfl
    have w2 : (Cond.native arraycopyName).before args s = true := z_word hT (mem _ (by simp [z_need])) rfl
    have w3 : (Cond.static arraycopyName).before args s = true := z_word hT (mem _ (by simp [z_need])) rfl
    have w4 : (Cond.initialized "java/lang/System").before args s = true := z_word hT (mem _ (by simp [z_need])) rfl
    have va : ∀ j, j < (z_len' V a).toNat → ca.slots[j]? = some (.int (Int32.ofInt (V a j))) ∧ -2147483648 ≤ V a j ∧ V a j < 2147483648 := fun j hj => by
      obtain ⟨r1, r2⟩ := q7 j (by rw [la2]; exact hj)
      have hty : z_sty a j = .int := by unfold z_sty; rw [if_pos (by omega)]; exact z_ety_101 hka
      have hsm : z_sm w a j = j := by unfold z_sm; rw [if_pos (by omega)]
      rw [hty, hsm] at r1
      rw [hty] at r2
      exact ⟨r1, r2⟩
    have vb : ∀ j, j < (z_len' V b).toNat → cb.slots[j]? = some (.int (Int32.ofInt (V b j))) ∧ -2147483648 ≤ V b j ∧ V b j < 2147483648 := fun j hj => by
      obtain ⟨r1, r2⟩ := g7 j (by rw [lb2]; exact hj)
      have hty : z_sty b j = .int := by unfold z_sty; rw [if_pos (by omega)]; exact z_ety_101 hkb
      have hsm : z_sm w b j = j := by unfold z_sm; rw [if_pos (by omega)]
      rw [hty, hsm] at r1
      rw [hty] at r2
      exact ⟨r1, r2⟩
    obtain ⟨ka, compa, ha1, ha2⟩ := z_isA hT a1 (by omega) (by omega)
    obtain ⟨kb, compb, hb1, hb2⟩ := z_isA hT b1 (by omega) (by omega)
    rw [z_ety_101 hka] at ha2
    rw [z_ety_101 hkb] at hb2
    obtain ⟨n1, n2⟩ := z_nn hn0 (by omega)
    obtain ⟨s1, s2⟩ := z_nn hs0 (by omega)
    obtain ⟨d1, d2⟩ := z_nn hd0 (by omega)
    have tn : (Int32.ofInt n).toInt = n := z_t32 (by omega) (by omega)
    have ts : (Int32.ofInt sp).toInt = sp := z_t32 (by omega) (by omega)
    have td : (Int32.ofInt dp).toInt = dp := z_t32 (by omega) (by omega)
    show W p l e R s m args below meth c H locs kc ks QQ (F0 m pc LS (.int (Int32.ofInt n) :: .int (Int32.ofInt dp) :: z_rv w b :: .int (Int32.ofInt sp) :: z_rv w a :: r.map (z_enc w)))
    rw [a3, b3]
    intro T hT' X
    obtain ⟨vm', X', step⟩ := X.arraycopy hx hown w1 w2 w3 w4 (src := z_ad w a) (dst := z_ad w b) (cs := ca) (cd := cb) (srcPos := Int32.ofInt sp) (destPos := Int32.ofInt dp) (n := Int32.ofInt n) (by rw [hT']; exact q1) (by rw [hT']; exact g1)
      (fun q z => by rw [z] at q3; cases q3) (fun q z => by rw [z] at g3; cases g3) q4 g4 (by rw [q2]; exact ha1) (by rw [g2]; exact hb1) ha2 hb2 rfl s1 d1 n1 (by rw [ts, tn]; omega) (by rw [td, tn, sb, lb2]; omega)
      (fun vm₁ _ j hj => by
        rw [s2] at *
        rw [n2] at hj
        have e : ca.slots.getD (sp.toNat + j) .null = .int (Int32.ofInt (V a (sp.toNat + j))) := by
          rw [Array.getD_eq_getD_getElem?, (va _ (by omega)).1]; rfl
        rw [e]
        exact ⟨rfl, trivial⟩)
      (g := F0 m pc LS (.int (Int32.ofInt n) :: .int (Int32.ofInt dp) :: .ref (z_ad w b) :: .int (Int32.ofInt sp) :: .ref (z_ad w a) :: r.map (z_enc w))) rfl (by rw [hml]; exact hF.2.2.1.1) (rest := r.map (z_enc w)) rfl (by rw [hb]; exact hd) hR2.1 (by show 2 * 0 + _ + (nativeFrameWords "java/lang/System" "arraycopy" 5 + 11) ≤ _; rw [z_sum_cat hw, show nativeFrameWords "java/lang/System" "arraycopy" 5 = 7 from by decide]; omega)
    have ecb : cb.slots = (arrV cb.cls (z_len' V b).toNat (fun j => .int (Int32.ofInt (V b j)))).slots := z_arrV (sb.trans lb2) (fun j hj => (vb j hj).1)
    have e1 : (copied ca cb (Int32.ofInt sp) (Int32.ofInt dp) (Int32.ofInt n)).slots = (arrV cb.cls (z_len' V b).toNat (fun j => .int (va_cpy (fun j => Int32.ofInt (V a j)) (fun j => Int32.ofInt (V b j)) sp.toNat dp.toNat n.toNat j))).slots := by
      show (cb.storeRun (Int32.ofInt dp).toNatClampNeg (ca.stretch (Int32.ofInt sp).toNatClampNeg (Int32.ofInt n).toNatClampNeg)).slots = _
      rw [n2, s2, d2]
      have := va_copiedX (fun z => Value.int z) ca cb.cls (n0 := (z_len' V a).toNat) (n1 := (z_len' V b).toNat) (sp := sp.toNat) (dp := dp.toNat) (n := n.toNat) (fun j => Int32.ofInt (V a j)) (fun j => Int32.ofInt (V b j)) (fun j hj => (va j hj).1) (by omega)
      rw [← this]
      exact z_sp _ _ _ _ ecb
    obtain ⟨e2, e3, -⟩ := Cell.storePairs_facts cb (Int32.ofInt dp).toNatClampNeg (ca.stretch (Int32.ofInt sp).toNatClampNeg (Int32.ofInt n).toNatClampNeg).zipIdx
    have e2 : (copied ca cb (Int32.ofInt sp) (Int32.ofInt dp) (Int32.ofInt n)).cls = cb.cls := e2
    have e3 : (copied ca cb (Int32.ofInt sp) (Int32.ofInt dp) (Int32.ofInt n)).vm = cb.vm := e3
    generalize copied ca cb (Int32.ofInt sp) (Int32.ofInt dp) (Int32.ofInt n) = nc at X' step e1 e2 e3
    have hl : z_ad w b < H.size := (Array.getElem?_eq_some_iff.mp g1).1
    have hheap : ((T.setVm vm').setCell (z_ad w b) nc).heap = H.setIfInBounds (z_ad w b) nc := by rw [← hT']; rfl
    have oq : ∀ q : Nat, q ≠ z_ad w b → (H.setIfInBounds (z_ad w b) nc)[q]? = H[q]? := fun q hq => by simp [Array.getElem?_setIfInBounds, Ne.symm hq]
    have hself : (H.setIfInBounds (z_ad w b) nc)[z_ad w b]? = some nc := by simp [Array.getElem?_setIfInBounds, hl]
    have hbase : z_base w ≤ z_ad w b := by rw [z_ad_hi hb36]; omega
    have hVb : ∀ x, ¬ x = b → ∀ j, z_cpy V a sp.toNat b dp.toNat n.toNat x j = V x j := fun x hx j => by unfold z_cpy; rw [if_neg hx]
    have e00 : z_cpy V a sp.toNat b dp.toNat n.toNat 0 0 = V 0 0 := hVb 0 (by omega) 0
    have hval : ∀ j, j < (z_len' V b).toNat → va_cpy (fun j => Int32.ofInt (V a j)) (fun j => Int32.ofInt (V b j)) sp.toNat dp.toNat n.toNat j = Int32.ofInt (z_cpy V a sp.toNat b dp.toNat n.toNat b j) ∧ -2147483648 ≤ z_cpy V a sp.toNat b dp.toNat n.toNat b j ∧ z_cpy V a sp.toNat b dp.toNat n.toNat b j < 2147483648 := fun j hj => by
      unfold z_cpy
      rw [if_pos rfl]
      by_cases hc : dp.toNat ≤ j ∧ j < dp.toNat + n.toNat
      · rw [if_pos hc, pk_cpy_in hc.1 hc.2]
        exact ⟨rfl, (va _ (by omega)).2⟩
      · rw [if_neg hc, pk_cpy_out (by omega)]
        exact ⟨rfl, (vb _ hj).2⟩
    have hHR : z_HR w md (z_cpy V a sp.toNat b dp.toNat n.toNat) (H.setIfInBounds (z_ad w b) nc) := by
      refine hF.1.cellset hw hb36 hVb (fun q => by have : (b : Int) < V 0 0 := okb; omega) (fun _ j => z_rf_arr ⟨by omega, by omega⟩ j) ?_ (by simp) oq
      have hlen : z_len' (z_cpy V a sp.toNat b dp.toNat n.toNat) b = z_len' V b := by unfold z_len'; rw [hVb 0 (by omega)]
      have hns : z_nS (z_cpy V a sp.toNat b dp.toNat n.toNat) b = (z_len' V b).toNat := by unfold z_nS; rw [if_pos (by omega), hlen]
      refine ⟨nc, hself, by rw [e2]; exact g2, by rw [e3]; exact g3, by rw [e3]; exact g4, fun _ => by rw [e3]; exact g5 hb36, fun _ => z_sz_of (by rw [hns, e1, arrV_size]), fun j hj => ?_⟩
      rw [hns] at hj
      have hty : z_sty b j = .int := by unfold z_sty; rw [if_pos (by omega)]; exact z_ety_101 hkb
      have hsm : z_sm w b j = j := by unfold z_sm; rw [if_pos (by omega)]
      rw [hty, hsm, e1, arrV_read _ _ hj, (hval j hj).1]
      exact ⟨rfl, (hval j hj).2⟩
    have k := h (H.setIfInBounds (z_ad w b) nc) (locs ++ (ca.stretch (Int32.ofInt sp).toNatClampNeg (Int32.ofInt n).toNatClampNeg).zipIdx.map fun q => ⟨z_ad w b, (Int32.ofInt dp).toNatClampNeg + q.2⟩) LS ⟨hHR, hF.2.1.kept (fun q _ z => oq q (fun e => z (by rw [e]; exact hbase))), hF.2.2.1, fun v hv => z_okv_mono (by rw [e00]; exact Int.le_refl _) (okr v hv), fun k v hv => z_okv_mono (by rw [e00]; exact Int.le_refl _) (hF.2.2.2.2.1 k v hv), hF.2.2.2.2.2.1, hF.2.2.2.2.2.2.1, ⟨by simp; exact hF.2.2.2.2.2.2.2.1.1, fun q z1 z2 => by
      rw [oq q (fun e => z2 (by rw [e]; exact hbase))]
      exact hF.2.2.2.2.2.2.2.1.2.1 q z1 z2, fun q hq => by
      rcases List.mem_append.mp hq with h | h
      · exact hF.2.2.2.2.2.2.2.1.2.2 q h
      · obtain ⟨z, -, hz⟩ := List.mem_map.mp h
        rw [← hz]
        exact hbase⟩, by rw [e00]; exact hF.2.2.2.2.2.2.2.2⟩
    obtain ⟨t, c1, c2⟩ := k _ hheap X'
    exact ⟨t, step t c1, c2⟩
  · exact h.elim
theorem z_s_oinit (hT : z_TB w s) (hw : z_WV w) (hx : p.tables.exec = Jvm.exec) (hb : c.code = z_by i) (hml : c.maxLocals = z_ml i) (hown : s.vm.findClass (z_own i) = some m.cls) (hR2 : 1 ≤ R.frames ∧ 45 ≤ R.locals) {idx : Nat} (hd : decode (z_by i) pc = .ok (.invokespecial idx, 3)) (hn : ∀ q ∈ z_need i (.invokespecial idx) 1000 0, q ∈ lw_tbl ∧ z_ok q = true)
    (h : z_r1 st fun a r => z_g (0 < a ∧ ¬ a = 7 ∧ z_sum r ≤ 8) (z_WP p l e R s m args below meth c QQ w i n0 md (pc + 3) ls r kc ks V)) : z_WP p l e R s m args below meth c QQ w i n0 md pc ls st kc ks V := by
  unfold z_r1 at h
  split at h
  · rename_i a r
    obtain ⟨⟨ha, h7, hsum⟩, h⟩ := z_g_e h
    intro H locs LS hF
    have mem := hn
    have w1 : (Cond.methodLink (z_own i) idx Lib.objectInit).before args s = true := z_word hT (mem _ (by simp [z_need])) rfl
    have w2 : (Cond.instanceMethod Lib.objectInit).before args s = true := z_word hT (mem _ (by simp [z_need])) rfl
    have w3 : (Cond.code Lib.objectInit ⟨#[0xb1]⟩ 1 none).before args s = true := z_word hT (mem _ (by simp [z_need])) rfl
    show W p l e R s m args below meth c H locs kc ks QQ (F0 m pc LS (z_rv w a :: r.map (z_enc w)))
    rw [z_rv_hi ha h7]
    exact W.objInit hx hb hown w1 w2 w3 rfl (by rw [hml]; exact hF.2.2.1.1) rfl hd hR2.1 (by show 2 * 0 + _ + 12 ≤ _; rw [z_sum_cat hw]; omega) (h H locs LS (hF.stk (z_ok_tl hF.2.2.2.1)))
  · exact h.elim
end Sound7
