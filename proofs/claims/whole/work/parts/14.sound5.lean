theorem z_kd_nz : ∀ a, 36 ≤ a → ¬ z_kd a = 0 := by
  intro a ha
  by_cases h : a < 169
  · exact (by decide +kernel : ∀ a, a < 169 → 36 ≤ a → ¬ z_kd a = 0) a h ha
  · unfold z_kd
    rw [show Nat.blt a z_N0 = false from Bool.eq_false_iff.mpr (fun q => h ((Nat.blt_eq).mp q))]
    cases Nat.beq ((a - z_N0) % 4) 0
    · exact fun q => by cases q
    · exact fun q => by cases q
def z_tyd (ty : FieldType) : Bool := match ty with | .float => false | .double => false | _ => true
theorem z_default {w : z_Wd} {V : z_M} {ty : FieldType} {a k : Nat} (h : V a k = 0) (ht : z_tyd ty = true) : z_enc w (z_rd false ty V a k) = defaultValue ty := by
  cases ty <;> first | (cases ht; done) | (simp only [z_rd, z_rr, h, cond_false]; rfl)
theorem z_oks0 {V : z_M} {ty : FieldType} (h : 36 ≤ V 0 0) : z_oks V ty 0 := by
  cases ty <;> first | exact Or.inl rfl | exact ⟨Int.le_refl _, by omega⟩ | exact ⟨by decide, by decide⟩
theorem z_Ytd : ∀ c, c < 13 → ∀ k, k < z_nf c → z_tyd (z_Y c k) = true := by decide +kernel
theorem z_ety_td (k : Nat) : z_tyd (z_ety k) = true := by
  unfold z_ety
  cases Nat.beq k 101 <;> cases Nat.beq k 102 <;> cases Nat.beq k 103 <;> cases Nat.beq k 104 <;> cases Nat.beq k 105 <;> cases Nat.beq k 106 <;> rfl
theorem z_nx_s {w : z_Wd} {md : Bool} {V : z_M} {H : Heap} (h : z_HR w md V H) : 36 ≤ z_nx V ∧ (z_nx V : Int) = V 0 0 ∧ z_ad w (z_nx V) = H.size ∧ z_rv w (z_nx V) = .ref H.size := by
  have h1 : 36 ≤ V 0 0 := h.1
  have h2 := h.2.1
  have e : (z_nx V : Int) = V 0 0 := by unfold z_nx; omega
  have h3 : 36 ≤ z_nx V := by omega
  have h4 : z_ad w (z_nx V) = H.size := by rw [z_ad_hi h3]; omega
  exact ⟨h3, e, h4, by rw [z_rv_hi (by omega) (by omega), h4]⟩
theorem z_arrw : Cond.arrayClass .int ∈ lw_tbl ∧ Cond.arrayClass .long ∈ lw_tbl ∧ Cond.arrayClass .boolean ∈ lw_tbl ∧ Cond.arrayClass .byte ∈ lw_tbl :=
  ⟨List.mem_of_getElem? (i := 209) (by decide +kernel), List.mem_of_getElem? (i := 295) (by decide +kernel), List.mem_of_getElem? (i := 228) (by decide +kernel), List.mem_of_getElem? (i := 772) (by decide +kernel)⟩
section Sound5
variable {p : Program} {l : Launch} {e : Env} {R : Room} {s : State} {m : MethodId} {args : Array Value} {below : List Frame} {meth : Method} {c : Code} {QQ : State → Prop} {w : z_Wd} {i : Nat} {n0 : Int}
variable {md : Bool} {pc : Nat} {ls : z_L} {st : List z_V} {kc ks : Nat} {V : z_M}
theorem z_Fc.made {H H' : Heap} {locs : List Loc} {LS : Array Slot} {st' : List z_V} {V' : z_M} {kc' ks' : Nat} (hF : z_Fc w s i n0 md ls st kc ks V H locs LS) (hHR : z_HR w md V' H') (h0 : V 0 0 ≤ V' 0 0) (hold : ∀ q : Nat, q < H.size → H'[q]? = H[q]?) (hsz : H.size ≤ H'.size)
    (hst : ∀ v ∈ st', z_okv V' v) (hkc : kc' ≤ (z_al i).1) (hks : ks' ≤ (z_al i).2) : z_Fc w s i n0 md ls st' kc' ks' V' H' locs LS :=
  ⟨hHR, hF.2.1.kept (fun q g1 _ => hold q g1), hF.2.2.1, hst, fun k v hv => z_okv_mono h0 (hF.2.2.2.2.1 k v hv), hkc, hks,
    ⟨Nat.le_trans hF.2.2.2.2.2.2.2.1.1 hsz, fun q g1 g2 => (hold q (Nat.lt_of_lt_of_le g1 hF.2.2.2.2.2.2.2.1.1)).trans (hF.2.2.2.2.2.2.2.1.2.1 q g1 g2), hF.2.2.2.2.2.2.2.1.2.2⟩, Int.le_trans hF.2.2.2.2.2.2.2.2 h0⟩
theorem z_push_old {H : Heap} {cell : Cell} : (∀ q : Nat, q < H.size → (H.push cell)[q]? = H[q]?) ∧ (H.push cell)[H.size]? = some cell ∧ (H.push cell).size = H.size + 1 :=
  ⟨fun q hq => by rw [Array.getElem?_push, if_neg (Nat.ne_of_lt hq)], by simp, by simp⟩
theorem z_s_new (hT : z_TB w s) (hw : z_WV w) (hx : p.tables.exec = Jvm.exec) (hb : c.code = z_by i) (hown : s.vm.findClass (z_own i) = some m.cls) (hR : (z_al i).1 ≤ R.cells ∧ (z_al i).2 ≤ R.slots) {idx x : Nat} (hd : decode (z_by i) pc = .ok (.new idx, 3)) (hn : ∀ q ∈ z_need i (.new idx) x 0, q ∈ lw_tbl ∧ z_ok q = true)
    (h : z_g (z_kd (z_nx V) = x + 1 ∧ x < 13) (z_budget i kc ks 1 (z_nf x) (z_WP p l e R s m args below meth c QQ w i n0 md (pc + 3) ls (.inr (.inr (z_nx V)) :: st) (kc + 1) (ks + z_nf x) (z_up V 0 0 (V 0 0 + 1))))) : z_WP p l e R s m args below meth c QQ w i n0 md pc ls st kc ks V := by
  obtain ⟨⟨hk, hx13⟩, h⟩ := z_g_e h
  obtain ⟨⟨hc1, hc2⟩, h⟩ := z_g_e h
  intro H locs LS hF
  obtain ⟨n1, n2, n3, n4⟩ := z_nx_s hF.1
  have hKn := hT.2.1 x hx13
  have w1 := z_word (A := args) hT (hn _ List.mem_cons_self) rfl
  have w2 := z_word (A := args) hT (hn _ (List.mem_cons_of_mem _ List.mem_cons_self)) rfl
  have w3 := z_word (A := args) hT (hn _ (List.mem_cons_of_mem _ (List.mem_cons_of_mem _ List.mem_cons_self))) rfl
  refine W.newcK hx hb hown w1 w2 w3 rfl hd (Nat.le_trans hc1 hR.1) (Nat.le_trans hc2 hR.2) hKn.2.1 rfl fun H1 kC hkC e1 z1 o1 => ?_
  obtain ⟨cell, b1, b2, b3, b4⟩ := u_born (ws := u_ws (z_cn x) (z_T x) (z_nf x)) (args := #[]) (z_Y x) (fun q hq => by
    obtain ⟨k, hk1, rfl⟩ := List.mem_map.mp hq
    have hk2 := List.mem_range.mp hk1
    exact hT.1 _ (z_lays hx13 hk2).1 (z_lays hx13 hk2).2) (fun _ q => q) hKn hkC e1 (fun k hk => (z_Tok x (by omega) k hk).2.1)
  have e00 : z_up V 0 0 (V 0 0 + 1) 0 0 = V 0 0 + 1 := z_up_s _ _ _ _
  have er : ∀ b j, 0 < b → z_up V 0 0 (V 0 0 + 1) b j = V b j := fun b j hb => z_up_r (by omega)
  have el : ∀ j, 0 < j → z_up V 0 0 (V 0 0 + 1) 0 j = V 0 j := fun j hj => z_up_k (by omega)
  have hHR : z_HR w md (z_up V 0 0 (V 0 0 + 1)) H1 := by
    refine hF.1.make 1 (by rw [e00]; rfl) (fun b b0 _ => ⟨fun j => er b j b0, el b b0⟩) (fun b hb k => by rw [er b k (by omega)]; exact hF.1.2.2.2.1 b (by omega) k) z1 o1 hw (fun b h1 h2 => ?_) (fun _ => ⟨rfl, trivial⟩)
    have hbn : b = z_nx V := by omega
    subst hbn
    have hns : z_nS (z_up V 0 0 (V 0 0 + 1)) (z_nx V) = z_nf x := by unfold z_nS; rw [if_neg (by omega), hk]; rfl
    refine ⟨⟨cell, by rw [n3]; exact b1, ?_, by rw [b3]; rfl, (z_vm_none b3).1, fun _ => b3, fun q => by omega, fun k hk2 => ?_⟩, fun q => by omega⟩
    · rw [b2]; unfold z_cls; rw [if_neg (by omega), hk]; rfl
    · rw [hns] at hk2
      have hz : z_up V 0 0 (V 0 0 + 1) (z_nx V) k = 0 := by rw [er _ _ (by omega)]; exact hF.1.2.2.2.1 _ (by omega) k
      have hty : z_sty (z_nx V) k = z_Y x k := by unfold z_sty; rw [if_neg (by omega), hk]; rfl
      have hsm : z_sm w (z_nx V) k = z_dI w x k := by unfold z_sm; rw [if_neg (by omega), hk]; rfl
      rw [hty, hsm, hz, z_default hz (z_Ytd x hx13 k hk2)]
      exact ⟨b4 k hk2, z_oks0 (by rw [e00]; have := hF.1.1; omega)⟩
  have k := h H1 locs LS (hF.made hHR (by rw [e00]; omega) o1 (by omega) (z_ok_cons (by show (z_nx V : Int) < _; rw [e00]; omega) (fun v hv => z_okv_mono (by rw [e00]; omega) (hF.2.2.2.1 v hv))) hc1 hc2)
  have k : W p l e R s m args below meth c H1 locs (kc + 1) (ks + z_nf x) QQ (F0 m (pc + 3) LS (z_rv w (z_nx V) :: st.map (z_enc w))) := k
  rw [n4] at k
  exact k
/-- the picture behind a new row -/
theorem z_HR.row (hw : z_WV w) {V' : z_M} {H H' : Heap} (h : z_HR w md V H) {n : Int} {cell : Cell} (hkd : 101 ≤ z_kd (z_nx V) ∧ z_kd (z_nx V) ≤ 107) (hn : 0 ≤ n ∧ n < 20000 ∧ (z_LN (z_nx V) = 0 ∨ z_LN (z_nx V) = n.toNat + 1)) (e00 : V' 0 0 = V 0 0 + 1) (eln : V' 0 (z_nx V) = n) (er : ∀ b : Nat, 0 < b → ¬ b = z_nx V → (∀ j, V' b j = V b j) ∧ V' 0 b = V 0 b)
    (hc : H'[H.size]? = some cell) (hsz : H'.size = H.size + 1) (hold : ∀ q : Nat, q < H.size → H'[q]? = H[q]?) (hcls : cell.cls = z_dA w (z_kd (z_nx V))) (hvm : cell.vm = .none) (hss : cell.slots.size = n.toNat) (hsl : ∀ k, k < n.toNat → cell.slots[k]? = some (z_enc w (z_rd false (z_ety (z_kd (z_nx V))) V' (z_nx V) k)) ∧ z_oks V' (z_ety (z_kd (z_nx V))) (V' (z_nx V) k)) : z_HR w md V' H' := by
  obtain ⟨n1, n2, n3, n4⟩ := z_nx_s h
  refine h.make 1 (by rw [e00]; rfl) (fun b b0 bn => er b b0 (by omega)) (fun b hb k => by rw [(er b (by omega) (by omega)).1 k]; exact h.2.2.2.1 b (by omega) k) hsz hold hw (fun b h1 h2 => ?_) (fun _ => ⟨rfl, trivial⟩)
  have hbn : b = z_nx V := by omega
  subst hbn
  have hlen : z_len' V' (z_nx V) = n := by
    unfold z_len'
    rcases hn.2.2 with q | q
    · rw [q]; exact eln
    · rw [show Nat.beq (z_LN (z_nx V)) 0 = false from by rw [q]; rfl, q]
      show ((n.toNat + 1 - 1 : Nat) : Int) = n
      omega
  have hns : z_nS V' (z_nx V) = n.toNat := by unfold z_nS; rw [if_pos hkd.1, hlen]
  refine ⟨⟨cell, by rw [n3]; exact hc, ?_, by rw [hvm]; rfl, (z_vm_none hvm).1, fun _ => hvm, fun _ => z_sz_of (by rw [hss, hns]), fun k hk2 => ?_⟩, fun _ => by rw [hlen]; omega⟩
  · rw [hcls]; unfold z_cls; rw [if_pos hkd.1, if_neg (by omega)]
  · rw [hns] at hk2
    have hty : z_sty (z_nx V) k = z_ety (z_kd (z_nx V)) := by unfold z_sty; rw [if_pos hkd.1]
    have hsm : z_sm w (z_nx V) k = k := by unfold z_sm; rw [if_pos hkd.1]
    rw [hty, hsm]
    exact hsl k hk2
theorem z_mk_0 (V : z_M) (n : Int) (h : 0 < z_nx V) : z_mk V n 0 0 = V 0 0 + 1 := by unfold z_mk; rw [z_up_k (by omega), z_up_s]
theorem z_mk_n (V : z_M) (n : Int) : z_mk V n 0 (z_nx V) = n := by unfold z_mk; rw [z_up_s]
theorem z_mk_r (V : z_M) (n : Int) (b : Nat) (hb : 0 < b) : ∀ j, z_mk V n b j = V b j := fun j => by unfold z_mk; rw [z_up_r (by omega), z_up_r (by omega)]
theorem z_mk_l (V : z_M) (n : Int) (b : Nat) (hb : 0 < b) (hn : ¬ b = z_nx V) : z_mk V n 0 b = V 0 b := by unfold z_mk; rw [z_up_k hn, z_up_k (by omega)]
/-- a row of numbers or references, all blank -/
theorem z_s_mk (hw : z_WV w) {n : Int} {k : Nat} {r : List z_V} (hkd : 101 ≤ z_kd (z_nx V) ∧ z_kd (z_nx V) ≤ 107) (hn : 0 ≤ n ∧ n < 20000 ∧ (z_LN (z_nx V) = 0 ∨ z_LN (z_nx V) = n.toNat + 1)) (hb1 : kc + 1 ≤ (z_al i).1 ∧ ks + n.toNat ≤ (z_al i).2)
    (hrow : ∀ (H : Heap) (locs : List Loc) (LS : Array Slot) (rest : List Value), (W p l e R s m args below meth c (H.push { cls := z_dA w (z_kd (z_nx V)), slots := Array.replicate n.toNat (defaultValue (z_ety (z_kd (z_nx V)))), vm := .none }) locs (kc + 1) (ks + n.toNat) QQ (F0 m (pc + k) LS (.ref H.size :: rest))) → W p l e R s m args below meth c H locs kc ks QQ (F0 m pc LS (.int (Int32.ofInt n) :: rest)))
    (h : z_WP p l e R s m args below meth c QQ w i n0 md (pc + k) ls (.inr (.inr (z_nx V)) :: r) (kc + 1) (ks + n.toNat) (z_mk V n)) : z_WP p l e R s m args below meth c QQ w i n0 md pc ls (.inl n :: r) kc ks V := by
  intro H locs LS hF
  obtain ⟨n1, n2, n3, n4⟩ := z_nx_s hF.1
  refine hrow H locs LS _ ?_
  generalize hcell : ({ cls := z_dA w (z_kd (z_nx V)), slots := Array.replicate n.toNat (defaultValue (z_ety (z_kd (z_nx V)))), vm := .none } : Cell) = cell
  obtain ⟨o1, o2, o3⟩ := z_push_old (H := H) (cell := cell)
  have e00 := z_mk_0 V n (by omega)
  have hHR : z_HR w md (z_mk V n) (H.push cell) := by
    refine hF.1.row hw hkd hn e00 (z_mk_n V n) (fun b b0 bn => ⟨z_mk_r V n b b0, z_mk_l V n b b0 bn⟩) o2 o3 o1 (by rw [← hcell]) (by rw [← hcell]) (by rw [← hcell]; simp) (fun q hq => ?_)
    have hz : z_mk V n (z_nx V) q = 0 := by rw [z_mk_r V n _ (by omega)]; exact hF.1.2.2.2.1 _ (by omega) q
    rw [hz, z_default hz (z_ety_td _), ← hcell]
    exact ⟨by simp [hq], z_oks0 (by rw [e00]; have := hF.1.1; omega)⟩
  have kk0 := h (H.push cell) locs LS (hF.made hHR (by rw [e00]; omega) o1 (by omega) (z_ok_cons (by show (z_nx V : Int) < _; rw [e00]; omega) (fun v hv => z_okv_mono (by rw [e00]; omega) (z_ok_tl hF.2.2.2.1 v hv))) hb1.1 hb1.2)
  have kk0 : W p l e R s m args below meth c (H.push cell) locs (kc + 1) (ks + n.toNat) QQ (F0 m (pc + k) LS (z_rv w (z_nx V) :: r.map (z_enc w))) := kk0
  rw [n4] at kk0
  exact kk0
theorem z_nn {n : Int} (h : 0 ≤ n) (h2 : n < 20000) : ¬ Int32.ofInt n < 0 ∧ (Int32.ofInt n).toNatClampNeg = n.toNat := by
  have e : (Int32.ofInt n).toInt = n := z_t32 (by omega) (by omega)
  refine ⟨?_, ?_⟩
  · rw [Int32.lt_iff_toInt_lt, e, Int32.toInt_zero]; omega
  · show (Int32.ofInt n).toInt.toNat = _
    rw [e]
theorem z_s_newa (hT : z_TB w s) (hw : z_WV w) (hx : p.tables.exec = Jvm.exec) (hb : c.code = z_by i) (hR : (z_al i).1 ≤ R.cells ∧ (z_al i).2 ≤ R.slots) {t : ArrayType} (hd : decode (z_by i) pc = .ok (.newarray t, 2))
    (h : z_i1 st fun n r => z_g (z_kd (z_nx V) = z_atk t) (z_g (0 ≤ n ∧ n < 20000 ∧ (z_LN (z_nx V) = 0 ∨ z_LN (z_nx V) = n.toNat + 1)) (z_budget i kc ks 1 n.toNat (z_WP p l e R s m args below meth c QQ w i n0 md (pc + 2) ls (.inr (.inr (z_nx V)) :: r) (kc + 1) (ks + n.toNat) (z_mk V n))))) : z_WP p l e R s m args below meth c QQ w i n0 md pc ls st kc ks V := by
  unfold z_i1 at h
  split at h
  · rename_i n r
    obtain ⟨hk, h⟩ := z_g_e h
    obtain ⟨hn, h⟩ := z_g_e h
    obtain ⟨hb1, h⟩ := z_g_e h
    intro H locs LS hF
    obtain ⟨n1, n2, n3, n4⟩ := z_nx_s hF.1
    have hnz := z_kd_nz _ n1
    obtain ⟨m1, m2⟩ := z_nn hn.1 hn.2.1
    have key : ∀ (ty : FieldType), newarray.typeOf t = ty → z_ety (z_kd (z_nx V)) = ty → Cond.arrayClass ty ∈ lw_tbl → (n.toNat * componentBytes ty ≤ 536870912) → (101 ≤ z_kd (z_nx V) ∧ z_kd (z_nx V) ≤ 107) → (∀ cA, va_RA s cA ty → s.vm.findClass ("[" ++ ty.toString) = some cA) → W p l e R s m args below meth c H locs kc ks QQ (F0 m pc LS ((Sum.inl n :: r).map (z_enc w))) := by
      intro ty e1 e2 e3 e4 hkd hra
      refine z_s_mk (k := 2) hw hkd hn hb1 (fun H locs LS rest kk => ?_) h H locs LS hF
      refine W.newa hx hb (atype := t) (by rw [e1]; exact hT.1 _ e3 rfl) rfl hd rfl m1 (by rw [m2, e1]; exact e4) (Nat.le_trans hb1.1 hR.1) (by rw [m2]; exact Nat.le_trans hb1.2 hR.2) (fun cA kA comp h1 h2 h3 => ?_)
      rw [e1] at h1
      have h4 := hra _ (by have := (hT.2.2.1 _ hkd.1 hkd.2).2; rw [e2] at this; exact this)
      cases h1.symm.trans h4
      rw [m2, e1, ← e2]
      exact kk
    cases t <;> first | exact absurd hk hnz | skip
    · exact key .boolean rfl (z_ety_103 hk) z_arrw.2.2.1 (by show n.toNat * 1 ≤ _; omega) (by rw [hk]; decide) (fun _ q => q)
    · exact key .byte rfl (z_ety_104 hk) z_arrw.2.2.2 (by show n.toNat * 1 ≤ _; omega) (by rw [hk]; decide) (fun _ q => q)
    · exact key .int rfl (z_ety_101 hk) z_arrw.1 (by show n.toNat * 4 ≤ _; omega) (by rw [hk]; decide) (fun _ q => q)
    · exact key .long rfl (z_ety_102 hk) z_arrw.2.1 (by show n.toNat * 8 ≤ _; omega) (by rw [hk]; decide) (fun _ q => q)
  · exact h.elim
end Sound5
