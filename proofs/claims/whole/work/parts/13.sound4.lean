section Sound4
variable {p : Program} {l : Launch} {e : Env} {R : Room} {s : State} {m : MethodId} {args : Array Value} {below : List Frame} {meth : Method} {c : Code} {QQ : State → Prop} {w : z_Wd} {i : Nat} {n0 : Int}
variable {md : Bool} {pc : Nat} {ls : z_L} {st : List z_V} {kc ks : Nat} {V : z_M}
theorem z_s_iast (hw : z_WV w) (hT : z_TB w s) (hx : p.tables.exec = Jvm.exec) (hb : c.code = z_by i) (hd : decode (z_by i) pc = .ok (.iastore, 1)) (h : z_avi st fun a j v r => z_g (z_kd a = 101 ∧ 36 ≤ a) (z_g (0 ≤ j ∧ j < z_len' V a) (z_WP p l e R s m args below meth c QQ w i n0 md (pc + 1) ls r kc ks (z_up V a j.toNat v)))) : z_WP p l e R s m args below meth c QQ w i n0 md pc ls st kc ks V := by
  unfold z_avi at h
  split at h
  · rename_i v j a r
    obtain ⟨⟨hk, ha⟩, h⟩ := z_g_e h
    obtain ⟨hj, h⟩ := z_g_e h
    refine z_s_ast1 hw hT ⟨by omega, by omega⟩ ha hj (fun _ => z_rf_arr ⟨by omega, by omega⟩ _) (fun H locs LS cell rest hF q1 q2 q3 q4 q5 q6 kk => ?_) (fun H locs LS hF => by rw [z_ety_101 hk]; exact z_ok_hd hF.2.2.2.1) (fun V' e => by rw [z_ety_101 hk]; simp only [z_rd, e]) h
    rw [z_ety_101 hk] at q2
    exact W.iast hx hb q1 q2 (z_vm_none q3).1 q5 rfl rfl hd (fun H' e1 e2 e3 => by rw [q6] at e1 ⊢; exact kk H' e1 e2 e3)
  · exact h.elim
theorem z_s_last (hw : z_WV w) (hT : z_TB w s) (hx : p.tables.exec = Jvm.exec) (hb : c.code = z_by i) (hd : decode (z_by i) pc = .ok (.lastore, 1)) (h : z_avl st fun a j v r => z_g (z_kd a = 102 ∧ 36 ≤ a) (z_g (0 ≤ j ∧ j < z_len' V a) (z_WP p l e R s m args below meth c QQ w i n0 md (pc + 1) ls r kc ks (z_up V a j.toNat v)))) : z_WP p l e R s m args below meth c QQ w i n0 md pc ls st kc ks V := by
  unfold z_avl at h
  split at h
  · rename_i v j a r
    obtain ⟨⟨hk, ha⟩, h⟩ := z_g_e h
    obtain ⟨hj, h⟩ := z_g_e h
    refine z_s_ast1 hw hT ⟨by omega, by omega⟩ ha hj (fun _ => z_rf_arr ⟨by omega, by omega⟩ _) (fun H locs LS cell rest hF q1 q2 q3 q4 q5 q6 kk => ?_) (fun H locs LS hF => by rw [z_ety_102 hk]; exact z_ok_hd hF.2.2.2.1) (fun V' e => by rw [z_ety_102 hk]; simp only [z_rd, e]) h
    rw [z_ety_102 hk] at q2
    exact W.last hx hb q1 q2 (z_vm_none q3).1 q5 rfl rfl hd (fun H' e1 e2 e3 => by rw [q6] at e1 ⊢; exact kk H' e1 e2 e3)
  · exact h.elim
theorem z_s_bast (hw : z_WV w) (hT : z_TB w s) (hx : p.tables.exec = Jvm.exec) (hb : c.code = z_by i) (hd : decode (z_by i) pc = .ok (.bastore, 1)) (h : z_avi st fun a j v r => z_g (z_kd a = 103 ∧ 36 ≤ a) (z_g (v = 0 ∨ v = 1) (z_g (0 ≤ j ∧ j < z_len' V a) (z_WP p l e R s m args below meth c QQ w i n0 md (pc + 1) ls r kc ks (z_up V a j.toNat v))))) : z_WP p l e R s m args below meth c QQ w i n0 md pc ls st kc ks V := by
  unfold z_avi at h
  split at h
  · rename_i v j a r
    obtain ⟨⟨hk, ha⟩, h⟩ := z_g_e h
    obtain ⟨hv, h⟩ := z_g_e h
    obtain ⟨hj, h⟩ := z_g_e h
    refine z_s_ast1 hw hT ⟨by omega, by omega⟩ ha hj (fun _ => z_rf_arr ⟨by omega, by omega⟩ _) (fun H locs LS cell rest hF q1 q2 q3 q4 q5 q6 kk => ?_) (fun H locs LS hF => by rw [z_ety_103 hk]; exact hv) (fun V' e => by rw [z_ety_103 hk]; simp only [z_rd, e]) h
    rw [z_ety_103 hk] at q2
    refine W.zast hx hb q1 q2 (z_vm_none q3).1 q5 rfl rfl hd (fun H' e1 e2 e3 => ?_)
    rw [q6] at e1 ⊢
    refine kk H' ?_ e2 e3
    rw [e1]
    rcases hv with rfl | rfl <;> rfl
  · exact h.elim
theorem z_s_aast (hw : z_WV w) (hT : z_TB w s) (hx : p.tables.exec = Jvm.exec) (hb : c.code = z_by i) (hd : decode (z_by i) pc = .ok (.aastore, 1)) (h : z_avr st fun a j v r => z_g ((z_kd a = 106 ∨ z_kd a = 107) ∧ 36 ≤ a) (z_g (v = 0 ∨ (36 ≤ v ∧ z_kd v = cond (Nat.beq (z_kd a) 106) 5 11)) (z_g (md = true → z_rf a j.toNat = 0) (z_g (0 ≤ j ∧ j < z_len' V a) (z_WP p l e R s m args below meth c QQ w i n0 md (pc + 1) ls r kc ks (z_up V a j.toNat v)))))) : z_WP p l e R s m args below meth c QQ w i n0 md pc ls st kc ks V := by
  unfold z_avr at h
  split at h
  · rename_i v j a r
    obtain ⟨⟨hk, ha⟩, h⟩ := z_g_e h
    obtain ⟨hv, h⟩ := z_g_e h
    obtain ⟨hrf, h⟩ := z_g_e h
    obtain ⟨hj, h⟩ := z_g_e h
    have hobj : ∃ C, z_ety (z_kd a) = .object C ∧ C = z_cn ((cond (Nat.beq (z_kd a) 106) 5 11) - 1) := by
      rcases hk with q | q <;> rw [q] <;> exact ⟨_, rfl, rfl⟩
    obtain ⟨C, hC, hCn⟩ := hobj
    refine z_s_ast1 hw hT ⟨by omega, by omega⟩ ha hj hrf (fun H locs LS cell rest hF q1 q2 q3 q4 q5 q6 kk => ?_) (fun H locs LS hF => by rw [hC]; exact ⟨Int.natCast_nonneg _, z_ok_hd hF.2.2.2.1⟩) (fun V' e => by rw [hC]; simp only [z_rd, z_rr, e, cond_false]; rfl) h
    show W p l e R s m args below meth c H locs kc ks QQ (F0 m pc LS (z_rv w v :: .int (Int32.ofInt j) :: .ref (z_ad w a) :: rest))
    have kk : ∀ H' : Heap, H'[z_ad w a]? = some (cell.setSlot j.toNat (z_rv w v)) → H'.size = H.size → (∀ q, q ≠ z_ad w a → H'[q]? = H[q]?) → W p l e R s m args below meth c H' (locs ++ [⟨z_ad w a, j.toNat⟩]) kc ks QQ (F0 m (pc + 1) LS rest) := kk
    rcases hv with rfl | ⟨hv36, hvk⟩
    · rw [hC] at q2
      exact va_WaastN hx hb q1 q2 (z_vm_none q3).1 q5 rfl rfl hd (fun H' e1 e2 e3 => by rw [q6] at e1 ⊢; exact kk H' e1 e2 e3)
    · have hokv := z_ok_hd hF.2.2.2.1
      have hkc : z_kd v = 5 ∨ z_kd v = 11 := by rw [hvk]; cases Nat.beq (z_kd a) 106 <;> simp
      obtain ⟨v1, v2, v3, cv, g1, g2, g3, g4, g5, g6, g7⟩ := hF.cell hokv (by omega) (by omega)
      rw [v3] at kk ⊢
      have hra := (hT.2.2.1 (z_kd a) (by omega) (by omega)).2
      rw [hC] at hra
      obtain ⟨kA, comp, r1, r2, r3, r4⟩ := hra
      have hcv : cv.cls = z_dC w (z_kd v - 1) := by rw [g2]; unfold z_cls; rw [if_neg (by omega)]
      obtain ⟨-, hfc, kC, hkC, hkind⟩ := hT.2.1 (z_kd v - 1) (by omega)
      have hfc' : s.vm.findClass C = some (z_dC w (z_kd v - 1)) := by rw [hCn, ← hvk]; exact hfc
      cases r3.symm.trans hfc'
      refine W.aast hx hb q1 (z_vm_none q3).2 (z_vm_none q3).1 (by rw [q4]; exact r1) r2 rfl hkC ?_ g1 (fun q z => by rw [z] at g3; cases g3) (by rw [hcv]; exact hkC) (by rw [hcv]; exact va_asg _ _) rfl rfl hd (fun H' e1 e2 e3 => by rw [q6] at e1 ⊢; exact kk H' e1 e2 e3)
      exact ⟨fun q => q5 (Or.inl q), Nat.not_le.mp (fun q => q5 (Or.inr q))⟩
  · exact h.elim
theorem z_s_alen (hT : z_TB w s) (hx : p.tables.exec = Jvm.exec) (hb : c.code = z_by i) (hd : decode (z_by i) pc = .ok (.arraylength, 1)) (h : z_r1 st fun a r => z_g (101 ≤ z_kd a) (z_WP p l e R s m args below meth c QQ w i n0 md (pc + 1) ls (.inl (z_len' V a) :: r) kc ks V)) : z_WP p l e R s m args below meth c QQ w i n0 md pc ls st kc ks V := by
  unfold z_r1 at h
  split at h
  · rename_i a r
    obtain ⟨hk, h⟩ := z_g_e h
    intro H locs LS hF
    have hoka := z_ok_hd hF.2.2.2.1
    obtain ⟨a1, a2, a3, cell, q1, q2, q3, q4, q5, q6, q7⟩ := hF.cell hoka (by omega) (by omega)
    obtain ⟨l0, l1, l2⟩ := hF.len hoka a1 hk
    have hk7 : z_kd a ≤ 107 := by have := z_kd_range a; omega
    show W p l e R s m args below meth c H locs kc ks QQ (F0 m pc LS (z_rv w a :: r.map (z_enc w)))
    rw [a3]
    refine W.alen hx hb q1 (z_isArr hT a1 hk hk7 q2 q3) (n := Int32.ofInt (z_len' V a)) ?_ rfl rfl hd (h H locs LS (hF.stk (z_ok_cons (by show _ ≤ _ ∧ _; omega) (z_ok_tl hF.2.2.2.1))))
    rw [(q6 hk).2.1, l2]
    apply Int32.toInt_inj.mp
    rw [z_t32 (by omega) (by omega)]
    show (Int32.ofNat (z_len' V a).toNat).toInt = _
    rw [show Int32.ofNat (z_len' V a).toNat = Int32.ofInt ((z_len' V a).toNat : Int) from (Int32.ofInt_eq_ofNat ..).symm, z_t32 (by omega) (by omega)]
    omega
  · exact h.elim
theorem z_s_cast (hT : z_TB w s) (hx : p.tables.exec = Jvm.exec) (hb : c.code = z_by i) (hown : s.vm.findClass (z_own i) = some m.cls) {idx : Nat} (hd : decode (z_by i) pc = .ok (.checkcast idx, 3)) (hn : Cond.classLink (z_own i) idx "[I" ∈ lw_tbl ∧ z_ok (Cond.classLink (z_own i) idx "[I") = true)
    (h : z_r1 st fun a r => z_g (z_kd a = 101 ∧ 36 ≤ a) (z_WP p l e R s m args below meth c QQ w i n0 md (pc + 3) ls (.inr (.inr a) :: r) kc ks V)) : z_WP p l e R s m args below meth c QQ w i n0 md pc ls st kc ks V := by
  unfold z_r1 at h
  split at h
  · rename_i a r
    obtain ⟨⟨hk, ha⟩, h⟩ := z_g_e h
    intro H locs LS hF
    obtain ⟨a1, a2, a3, cell, q1, q2, q3, q4, q5, q6, q7⟩ := hF.cell (z_ok_hd hF.2.2.2.1) (by omega) (by omega)
    have k := h H locs LS (hF.stk hF.2.2.2.1)
    have k : W p l e R s m args below meth c H locs kc ks QQ (F0 m (pc + 3) LS (z_rv w a :: r.map (z_enc w))) := k
    show W p l e R s m args below meth c H locs kc ks QQ (F0 m pc LS (z_rv w a :: r.map (z_enc w)))
    rw [a3] at k ⊢
    have hcl : z_cls w a = z_dA w 101 := by unfold z_cls; rw [if_pos (by omega), if_neg (by omega), hk]
    exact va_castE hx hb hown (z_word hT hn rfl) ⟨cell, q1, q3, by rw [q2, hcl]; exact (hT.2.2.1 101 (by omega) (by omega)).2⟩ hd k
  · exact h.elim
end Sound4
