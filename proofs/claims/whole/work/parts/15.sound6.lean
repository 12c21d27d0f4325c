section Sound6
variable {p : Program} {l : Launch} {e : Env} {R : Room} {s : State} {m : MethodId} {args : Array Value} {below : List Frame} {meth : Method} {c : Code} {QQ : State → Prop} {w : z_Wd} {i : Nat} {n0 : Int}
variable {md : Bool} {pc : Nat} {ls : z_L} {st : List z_V} {kc ks : Nat} {V : z_M}
theorem z_s_anew (hT : z_TB w s) (hw : z_WV w) (hx : p.tables.exec = Jvm.exec) (hb : c.code = z_by i) (hown : s.vm.findClass (z_own i) = some m.cls) (hR : (z_al i).1 ≤ R.cells ∧ (z_al i).2 ≤ R.slots) {idx x : Nat} (hd : decode (z_by i) pc = .ok (.anewarray idx, 3)) (hn : ∀ q ∈ z_need i (.anewarray idx) x 0, q ∈ lw_tbl ∧ z_ok q = true)
    (h : z_i1 st fun n r => z_g (z_kd (z_nx V) = x ∧ (x = 106 ∨ x = 107)) (z_g (0 ≤ n ∧ n < 20000 ∧ (z_LN (z_nx V) = 0 ∨ z_LN (z_nx V) = n.toNat + 1)) (z_budget i kc ks 1 n.toNat (z_WP p l e R s m args below meth c QQ w i n0 md (pc + 3) ls (.inr (.inr (z_nx V)) :: r) (kc + 1) (ks + n.toNat) (z_mk V n))))) : z_WP p l e R s m args below meth c QQ w i n0 md pc ls st kc ks V := by
  unfold z_i1 at h
  split at h
  · rename_i n r
    obtain ⟨⟨hk, hx2⟩, h⟩ := z_g_e h
    obtain ⟨hn', h⟩ := z_g_e h
    obtain ⟨hb1, h⟩ := z_g_e h
    obtain ⟨m1, m2⟩ := z_nn hn'.1 hn'.2.1
    refine z_s_mk (k := 3) hw (by omega) hn' hb1 (fun H locs LS rest kk => ?_) h
    have w1 := z_word (A := args) hT (hn _ List.mem_cons_self) rfl
    have w2 : (Cond.arrayOver (.object (z_acls x))).before args s = true := hT.1 _ (hn _ (List.mem_cons_of_mem _ List.mem_cons_self)).1 (hn _ (List.mem_cons_of_mem _ List.mem_cons_self)).2
    have hety : z_ety (z_kd (z_nx V)) = .object (z_acls x) := by rw [hk]; rcases hx2 with rfl | rfl <;> rfl
    refine W.anew hx hb hown w1 w2 rfl hd rfl m1 (by rw [m2]; omega) (Nat.le_trans hb1.1 hR.1) (by rw [m2]; exact Nat.le_trans hb1.2 hR.2) (fun cA kA comp h1 h2 h3 h4 => ?_)
    have hra := (hT.2.2.1 (z_kd (z_nx V)) (by omega) (by omega)).2
    rw [hety] at hra
    obtain ⟨_, _, _, _, _, h5⟩ := hra
    cases h1.symm.trans h5
    rw [m2]
    rw [hety] at kk
    exact kk
  · exact h.elim
theorem z_r_mna (hT : z_TB w s) (hx : p.tables.exec = Jvm.exec) (hb : c.code = z_by i) (hown : s.vm.findClass (z_own i) = some m.cls) (hR : (z_al i).1 ≤ R.cells ∧ (z_al i).2 ≤ R.slots) {idx : Nat} (hd : decode (z_by i) pc = .ok (.multianewarray idx 2, 4)) (hn : ∀ q ∈ z_need i (.multianewarray idx 2) 0 0, q ∈ lw_tbl ∧ z_ok q = true)
    {n k : Int} (hn0 : 0 ≤ n ∧ n < 20) (hk0 : 0 ≤ k ∧ k < 20000) (hb1 : kc + (1 + n.toNat) ≤ (z_al i).1 ∧ ks + (n.toNat + n.toNat * k.toNat) ≤ (z_al i).2) {H : Heap} {locs : List Loc} {LS : Array Slot} {rest : List Value}
    (kk : ∀ (F : Heap) (co : Cell), F.size = H.size + 1 + n.toNat → (∀ x : Nat, x < H.size → F[x]? = H[x]?) → F[H.size]? = some co → co.cls = z_dA w 105 → co.vm = .none → co.slots.size = n.toNat → (∀ j, j < n.toNat → co.slots[j]? = some (.ref (H.size + 1 + j))) →
      (∀ j : Nat, j < n.toNat → F[H.size + 1 + j]? = some { cls := z_dA w 101, slots := Array.replicate k.toNat (.int 0), vm := .none }) → W p l e R s m args below meth c F locs (kc + (1 + n.toNat)) (ks + (n.toNat + n.toNat * k.toNat)) QQ (F0 m (pc + 4) LS (.ref H.size :: rest))) :
    W p l e R s m args below meth c H locs kc ks QQ (F0 m pc LS (.int (Int32.ofInt k) :: .int (Int32.ofInt n) :: rest)) := by
  intro T hT' Xs
  obtain ⟨n1, n2⟩ := z_nn hn0.1 (by omega)
  obtain ⟨k1, k2⟩ := z_nn hk0.1 hk0.2
  have w1 := z_word (A := args) hT (hn _ List.mem_cons_self) rfl
  have w2 : (Cond.arrayOver (.array .int)).before args s = true := hT.1 _ (hn _ (List.mem_cons_of_mem _ List.mem_cons_self)).1 (hn _ (List.mem_cons_of_mem _ List.mem_cons_self)).2
  have w3 : (Cond.arrayClass .int).before args s = true := hT.1 _ z_arrw.1 rfl
  obtain ⟨vm₁, cA, comp, -, fA, fC, hO, -, X', step⟩ := Jvm.Stand.multianewarray2F Xs hx hown (ty := .int) w1 w2 w3 (g := F0 m pc LS (.int (Int32.ofInt k) :: .int (Int32.ofInt n) :: rest)) rfl (by rw [hb]; exact hd) rfl n1 k1 (by rw [n2]; omega) (by rw [k2]; show k.toNat * 4 ≤ _; omega) (by rw [k2]; omega) rfl rfl (by rw [n2]; exact Nat.le_trans hb1.1 hR.1) (by rw [n2, k2]; exact Nat.le_trans hb1.2 hR.2)
  rw [n2, k2] at X' step
  generalize hF : Jvm.Free.Multi.fill (T.setVm vm₁) cA comp n.toNat k.toNat (defaultValue .int) n.toNat = F at X' step
  have hTh : (T.setVm vm₁).heap = H := hT'
  obtain ⟨f1, f2, -, -⟩ := Jvm.Free.Multi.fill_facts (T.setVm vm₁) cA comp n.toNat k.toNat (defaultValue .int) n.toNat
  rw [hF, hTh] at f1 f2
  have hold : ∀ x : Nat, x < H.size → F.heap[x]? = H[x]? := fun x hx => by
    have := Jvm.Free.Multi.fill_old (T.setVm vm₁) cA comp n.toNat k.toNat (defaultValue .int) (a := x) (by rw [hTh]; exact hx) n.toNat
    rw [hF, hTh] at this
    exact this
  have hrow : ∀ j : Nat, j < n.toNat → F.heap[H.size + 1 + j]? = some (Jvm.Free.Multi.innerC comp k.toNat (defaultValue .int)) := fun j hj => by
    have := Jvm.Free.Multi.fill_inner (T.setVm vm₁) cA comp n.toNat k.toNat (defaultValue .int) n.toNat j hj
    rw [hF, hTh] at this
    exact this
  have c1 : s.vm.findClass ("[" ++ (FieldType.array .int).toString) = some (z_dA w 105) := (hT.2.2.1 105 (by omega) (by omega)).2
  have c2 : s.vm.findClass (FieldType.array .int).toString = some (z_dA w 101) := (hT.2.2.1 101 (by omega) (by omega)).2
  cases fA.symm.trans c1
  cases fC.symm.trans c2
  obtain ⟨o1, o2, o3⟩ := Jvm.Free.Multi.outerC_facts (z_dA w 105) n.toNat H.size n.toNat
  have o4 : ∀ (N i' : Nat), i' ≤ N → ∀ j, j < i' → (Jvm.Free.Multi.outerC (z_dA w 105) N H.size i').slots[j]? = some (.ref (H.size + 1 + j)) := by
    intro N i'
    induction i' with
    | zero => intro _ j hj; omega
    | succ i' ih =>
      intro hi j hj
      have osz := (Jvm.Free.Multi.outerC_facts (z_dA w 105) N H.size i').2.2
      show ((Jvm.Free.Multi.outerC (z_dA w 105) N H.size i').setSlot i' (.ref (H.size + 1 + i'))).slots[j]? = _
      by_cases hji : j = i'
      · subst hji
        exact Cell.slots_setSlot_self _ (by rw [osz]; omega)
      · rw [slot_ne _ _ (fun q => hji q.symm)]
        exact ih (by omega) j (by omega)
  have X'' : Stand p l e R s m args below meth c F locs (kc + (1 + n.toNat)) (ks + (n.toNat + n.toNat * k.toNat)) := by
    rw [show kc + (1 + n.toNat) = kc + 1 + n.toNat by omega, show ks + (n.toNat + n.toNat * k.toNat) = ks + n.toNat + n.toNat * k.toNat by omega]
    exact X'
  obtain ⟨t, a1, b1⟩ := kk F.heap _ f1 hold f2 o1 o2 o3 (fun j hj => o4 n.toNat n.toNat (Nat.le_refl _) j hj) hrow F rfl X''
  refine ⟨t, step t ?_, b1⟩
  have e : T.heap.size = H.size := by rw [hT']
  rw [e]
  exact a1
theorem z_s_mna (hT : z_TB w s) (hw : z_WV w) (hx : p.tables.exec = Jvm.exec) (hb : c.code = z_by i) (hown : s.vm.findClass (z_own i) = some m.cls) (hR : (z_al i).1 ≤ R.cells ∧ (z_al i).2 ≤ R.slots) {idx dims : Nat} (hd : decode (z_by i) pc = .ok (.multianewarray idx dims, 4)) (hn : ∀ q ∈ z_need i (.multianewarray idx dims) 0 0, q ∈ lw_tbl ∧ z_ok q = true)
    (h : z_i2 st fun n k r => z_g (dims = 2 ∧ 0 ≤ n ∧ n < 20 ∧ 0 ≤ k ∧ k < 20000 ∧ md = false) (z_g (z_kd (z_nx V) = 105 ∧ z_LN (z_nx V) = n.toNat + 1 ∧ (List.range n.toNat).all (fun q => Nat.beq (z_kd (z_nx V + 1 + q)) 101 && Nat.beq (z_LN (z_nx V + 1 + q)) (k.toNat + 1)) = true)
      (z_budget i kc ks (1 + n.toNat) (n.toNat + n.toNat * k.toNat) (z_WP p l e R s m args below meth c QQ w i n0 md (pc + 4) ls (.inr (.inr (z_nx V)) :: r) (kc + (1 + n.toNat)) (ks + (n.toNat + n.toNat * k.toNat)) (z_mna V n.toNat k.toNat))))) : z_WP p l e R s m args below meth c QQ w i n0 md pc ls st kc ks V := by
  unfold z_i2 at h
  split at h
  · rename_i k n r
    obtain ⟨⟨hdm, hn1, hn2, hk1, hk2, hmd⟩, h⟩ := z_g_e h
    obtain ⟨⟨hkd, hln, hall⟩, h⟩ := z_g_e h
    obtain ⟨hb1, h9⟩ := z_g_e h
    subst hdm
    intro H locs LS hF
    obtain ⟨x1, x2, x3, x4⟩ := z_nx_s hF.1
    refine z_r_mna hT hx hb hown hR hd hn ⟨hn1, hn2⟩ ⟨hk1, hk2⟩ hb1 (fun F co f1 f2 f3 f4 f5 f6 f7 f8 => ?_)
    have hin : ∀ q, q < n.toNat → z_kd (z_nx V + 1 + q) = 101 ∧ z_LN (z_nx V + 1 + q) = k.toNat + 1 := fun q hq => by
      have := List.all_eq_true.mp hall q (List.mem_range.mpr hq)
      simp only [Bool.and_eq_true] at this
      exact ⟨Nat.eq_of_beq_eq_true this.1, Nat.eq_of_beq_eq_true this.2⟩
    have e00 : z_mna V n.toNat k.toNat 0 0 = V 0 0 + 1 + n.toNat := by unfold z_mna; rw [if_pos rfl, if_pos rfl]
    have eN : ∀ j, j < n.toNat → z_mna V n.toNat k.toNat (z_nx V) j = ((z_nx V + 1 + j : Nat) : Int) := fun j hj => by unfold z_mna; rw [if_neg (by omega), if_pos rfl, if_pos hj]
    have er : ∀ b, 0 < b → ¬ b = z_nx V → ∀ j, z_mna V n.toNat k.toNat b j = V b j := fun b b0 bn j => by unfold z_mna; rw [if_neg (by omega), if_neg bn]
    have el : ∀ b, 0 < b → b < z_nx V → z_mna V n.toNat k.toNat 0 b = V 0 b := fun b b0 bn => by unfold z_mna; rw [if_pos rfl, if_neg (by omega), if_neg (by omega), if_neg (by omega)]
    have lN : z_len' (z_mna V n.toNat k.toNat) (z_nx V) = n := by
      unfold z_len'
      rw [hln, show Nat.beq (n.toNat + 1) 0 = false from rfl]
      show ((n.toNat + 1 - 1 : Nat) : Int) = n
      omega
    have lI : ∀ q, q < n.toNat → z_len' (z_mna V n.toNat k.toNat) (z_nx V + 1 + q) = k := fun q hq => by
      unfold z_len'
      rw [(hin q hq).2, show Nat.beq (k.toNat + 1) 0 = false from rfl]
      show ((k.toNat + 1 - 1 : Nat) : Int) = k
      omega
    have hHR : z_HR w md (z_mna V n.toNat k.toNat) F := by
      refine hF.1.make (1 + n.toNat) (by rw [e00]; omega) (fun b b0 bn => ⟨er b b0 (by omega), el b b0 (by omega)⟩) (fun b hb j => ?_) (by rw [f1]; omega) f2 hw (fun b h1 h2 => ?_) (fun q => by rw [hmd] at q; cases q)
      · rw [er b (by omega) (by omega)]
        exact hF.1.2.2.2.1 b (by omega) j
      · by_cases hbn : b = z_nx V
        · subst hbn
          have hns : z_nS (z_mna V n.toNat k.toNat) (z_nx V) = n.toNat := by unfold z_nS; rw [if_pos (by omega), lN]
          refine ⟨⟨co, by rw [x3]; exact f3, by rw [f4]; unfold z_cls; rw [if_pos (by omega), if_neg (by omega), hkd], by rw [f5]; rfl, (z_vm_none f5).1, fun _ => f5, fun _ => z_sz_of (by rw [f6, hns]), fun j hj => ?_⟩, fun _ => by rw [lN]; omega⟩
          rw [hns] at hj
          have hty : z_sty (z_nx V) j = .array .int := by unfold z_sty; rw [if_pos (by omega), hkd]; rfl
          have hsm : z_sm w (z_nx V) j = j := by unfold z_sm; rw [if_pos (by omega)]
          rw [hty, hsm]
          refine ⟨?_, ?_⟩
          · rw [f7 j hj]
            simp only [z_rd, z_rr, cond_false, eN j hj]
            show some (Value.ref (H.size + 1 + j)) = some (z_rv w (z_nx V + 1 + j))
            rw [z_rv_hi (by omega) (by omega), z_ad_hi (by omega)]
            rw [z_ad_hi (by omega)] at x3
            rw [show z_base w + (z_nx V + 1 + j - 36) = H.size + 1 + j by omega]
          · rw [eN j hj]
            refine ⟨Int.natCast_nonneg _, ?_⟩
            rw [e00]
            have : ((z_nx V + 1 + j : Nat) : Int) = V 0 0 + 1 + j := by omega
            rw [this]
            omega
        · obtain ⟨q, hq1, hq2⟩ : ∃ q, q < n.toNat ∧ b = z_nx V + 1 + q := ⟨b - (z_nx V + 1), by omega, by omega⟩
          subst hq2
          obtain ⟨g1, g2⟩ := hin q hq1
          have hns : z_nS (z_mna V n.toNat k.toNat) (z_nx V + 1 + q) = k.toNat := by unfold z_nS; rw [if_pos (by omega), lI q hq1]
          refine ⟨⟨{ cls := z_dA w 101, slots := Array.replicate k.toNat (.int 0), vm := .none }, ?_, by unfold z_cls; rw [if_pos (by omega), if_neg (by omega), g1], rfl, (fun z => by cases z), fun _ => rfl, fun _ => z_sz_of (by rw [hns]; simp), fun j hj => ?_⟩, fun _ => by rw [lI q hq1]; omega⟩
          · rw [z_ad_hi (by omega)]
            rw [z_ad_hi (by omega)] at x3
            rw [show z_base w + (z_nx V + 1 + q - 36) = H.size + 1 + q by omega]
            exact f8 q hq1
          · rw [hns] at hj
            have hz : z_mna V n.toNat k.toNat (z_nx V + 1 + q) j = 0 := by
              rw [er _ (by omega) (by omega)]
              exact hF.1.2.2.2.1 _ (by omega) j
            have hty : z_sty (z_nx V + 1 + q) j = .int := by unfold z_sty; rw [if_pos (by omega), g1]; rfl
            have hsm : z_sm w (z_nx V + 1 + q) j = j := by unfold z_sm; rw [if_pos (by omega)]
            rw [hty, hsm, hz, z_default hz rfl]
            exact ⟨by simp [hj, defaultValue], by show _ ≤ _ ∧ _; omega⟩
    have k0 := h9 F locs LS (hF.made hHR (by rw [e00]; omega) f2 (by omega) (z_ok_cons (by show (z_nx V : Int) < _; rw [e00]; omega) (fun v hv => z_okv_mono (by rw [e00]; omega) (z_ok_tl (z_ok_tl hF.2.2.2.1) v hv))) hb1.1 hb1.2)
    have k0 : W p l e R s m args below meth c F locs (kc + (1 + n.toNat)) (ks + (n.toNat + n.toNat * k.toNat)) QQ (F0 m (pc + 4) LS (z_rv w (z_nx V) :: r.map (z_enc w))) := k0
    rw [x4] at k0
    exact k0
  · exact h.elim
end Sound6
