/-! blocks of rows: printed by a program (blk2.py) -/
theorem zb145 {d : Nat} {Q : Int → z_M → Prop} (a0 : Int) (a1 : Int) (a2 : Int) {V : z_M}
    (h : Q (if (z_lcmp a0 a1) < 0 then 0 else (if 0 < (z_lcmp a0 a2) then 0 else 1)) V) :
    z_MS (d + 1) 145 true [.inr (.inl a0), .inr (.inl a1), .inr (.inl a2)] V Q := by
  show z_Ex (z_MS d) 145 Q true 0 [some (.inr (.inl a0)), none, some (.inr (.inl a1)), none, some (.inr (.inl a2)), none] [] 0 0 V
  refine ze_lload_n (pc := 0) zr_145_0 rfl ?_
  refine ze_lload_n (pc := 1) zr_145_1 rfl ?_
  refine ze_lcmp (pc := 2) zr_145_2 ?_
  have j3 : z_Ex (z_MS d) 145 Q true 18 [some (.inr (.inl a0)), none, some (.inr (.inl a1)), none, some (.inr (.inl a2)), none] [.inl (if (z_lcmp a0 a1) < 0 then 0 else (if 0 < (z_lcmp a0 a2) then 0 else 1))] 0 0 V := by
    exact zq_ret4 (pc := 18) zr_145_18 rfl (by (repeat' split) <;> decide) h
  refine ze_if_lt (pc := 3) (t := 17) zr_145_3 (by decide) (fun hc => ?_) (fun hc => ?_)
  · rw [if_pos (show (z_lcmp a0 a1) < 0 from hc)] at j3
    refine ze_iconst (pc := 17) zr_145_17 (by decide) ?_
    exact j3
  · rw [if_neg (show ¬ ((z_lcmp a0 a1) < 0) from hc)] at j3
    refine ze_lload_n (pc := 6) zr_145_6 rfl ?_
    refine ze_lload (pc := 7) zr_145_7 rfl ?_
    refine ze_lcmp (pc := 9) zr_145_9 ?_
    refine ze_if_gt (pc := 10) (t := 17) zr_145_10 (by decide) (fun hc => ?_) (fun hc => ?_)
    · rw [if_pos (show 0 < (z_lcmp a0 a2) from hc)] at j3
      refine ze_iconst (pc := 17) zr_145_17 (by decide) ?_
      exact j3
    · rw [if_neg (show ¬ (0 < (z_lcmp a0 a2)) from hc)] at j3
      refine ze_iconst (pc := 13) zr_145_13 (by decide) ?_
      refine ze_goto (pc := 14) (t := 18) zr_145_14 (by decide) ?_
      exact j3
theorem zb146 {d : Nat} {Q : Int → z_M → Prop} (a0 : Int) (a1 : Int) {V : z_M}
    (h : Q (if (z_and (z_shr a0 a1) 1) = 1 then 1 else 0) V) :
    z_MS (d + 1) 146 true [.inl a0, .inl a1] V Q := by
  show z_Ex (z_MS d) 146 Q true 0 [some (.inl a0), some (.inl a1)] [] 0 0 V
  refine ze_iload_n (pc := 0) zr_146_0 rfl ?_
  refine ze_iload_n (pc := 1) zr_146_1 rfl ?_
  refine ze_ishr (pc := 2) zr_146_2 ?_
  refine ze_iconst (pc := 3) zr_146_3 (by decide) ?_
  refine ze_iand (pc := 4) zr_146_4 ?_
  refine ze_iconst (pc := 5) zr_146_5 (by decide) ?_
  have j6 : z_Ex (z_MS d) 146 Q true 14 [some (.inl a0), some (.inl a1)] [.inl (if (z_and (z_shr a0 a1) 1) = 1 then 1 else 0)] 0 0 V := by
    exact zq_ret4 (pc := 14) zr_146_14 rfl (by (repeat' split) <;> decide) h
  refine ze_icmp_ne (pc := 6) (t := 13) zr_146_6 (by decide) (fun hc => ?_) (fun hc => ?_)
  · rw [if_pos (show (z_and (z_shr a0 a1) 1) = 1 from hc)] at j6
    refine ze_iconst (pc := 9) zr_146_9 (by decide) ?_
    refine ze_goto (pc := 10) (t := 14) zr_146_10 (by decide) ?_
    exact j6
  · rw [if_neg (show ¬ ((z_and (z_shr a0 a1) 1) = 1) from hc)] at j6
    refine ze_iconst (pc := 13) zr_146_13 (by decide) ?_
    exact j6
theorem zb147 {d : Nat} {Q : Int → z_M → Prop} (a0 : Int) {V : z_M}
    (h : z_Ex (z_MS d) 147 Q true 4 [some (.inl a0), some (.inl 0), some (.inl 0)] [] 0 0 V) :
    z_MS (d + 1) 147 true [.inl a0] V Q := by
  show z_Ex (z_MS d) 147 Q true 0 [some (.inl a0), none, none] [] 0 0 V
  refine ze_iconst (pc := 0) zr_147_0 (by decide) ?_
  refine zq_istore_n (pc := 1) (ls2 := [some (.inl a0), some (.inl 0), none]) zr_147_1 rfl rfl ?_
  refine ze_iconst (pc := 2) zr_147_2 (by decide) ?_
  refine zq_istore_n (pc := 3) (ls2 := [some (.inl a0), some (.inl 0), some (.inl 0)]) zr_147_3 rfl rfl ?_
  exact h
theorem zb147_p4 {d : Nat} {Q : Int → z_M → Prop} (l0 : Int) (l1 : Int) (l2 : Int) {V : z_M}
    (h : zI (l2 < 12) (z_Ex (z_MS d) 147 Q true 4 [some (.inl l0), some (.inl (z_add l1 (z_and (z_shr l0 l2) 1))), some (.inl (z_add l2 1))] [] 0 0 V) (Q l1 V)) :
    z_Ex (z_MS d) 147 Q true 4 [some (.inl l0), some (.inl l1), some (.inl l2)] [] 0 0 V := by
  refine ze_iload_n (pc := 4) zr_147_4 rfl ?_
  refine ze_bipush (pc := 5) zr_147_5 (by decide) ?_
  refine zq_icmp_ge (pc := 7) (t := 24) zr_147_7 (by decide) (z_toif h) (fun h => ?_) (fun h => ?_)
  · refine ze_iload_n (pc := 10) zr_147_10 rfl ?_
    refine ze_iload_n (pc := 11) zr_147_11 rfl ?_
    refine ze_iload_n (pc := 12) zr_147_12 rfl ?_
    refine ze_ishr (pc := 13) zr_147_13 ?_
    refine ze_iconst (pc := 14) zr_147_14 (by decide) ?_
    refine ze_iand (pc := 15) zr_147_15 ?_
    refine ze_iadd (pc := 16) zr_147_16 ?_
    refine zq_istore_n (pc := 17) (ls2 := [some (.inl l0), some (.inl (z_add l1 (z_and (z_shr l0 l2) 1))), some (.inl l2)]) zr_147_17 rfl rfl ?_
    refine zq_iinc (pc := 18) (ls2 := [some (.inl l0), some (.inl (z_add l1 (z_and (z_shr l0 l2) 1))), some (.inl (z_add l2 1))]) zr_147_18 rfl rfl rfl ?_
    refine ze_goto (pc := 21) (t := 4) zr_147_21 (by decide) ?_
    exact h
  · refine ze_iload_n (pc := 24) zr_147_24 rfl ?_
    exact zq_ret1 (pc := 25) zr_147_25 rfl h
theorem zb148 {d : Nat} {Q : Int → z_M → Prop} (a0 : Int) {V : z_M}
    (h : Q (if a0 < 0 then z_neg a0 else a0) V) :
    z_MS (d + 1) 148 true [.inl a0] V Q := by
  show z_Ex (z_MS d) 148 Q true 0 [some (.inl a0)] [] 0 0 V
  refine ze_iload_n (pc := 0) zr_148_0 rfl ?_
  have j1 : z_Ex (z_MS d) 148 Q true 10 [some (.inl a0)] [.inl (if a0 < 0 then z_neg a0 else a0)] 0 0 V := by
    exact zq_ret1 (pc := 10) zr_148_10 rfl h
  refine ze_if_ge (pc := 1) (t := 9) zr_148_1 (by decide) (fun hc => ?_) (fun hc => ?_)
  · rw [if_pos (show a0 < 0 from hc)] at j1
    refine ze_iload_n (pc := 4) zr_148_4 rfl ?_
    refine ze_ineg (pc := 5) zr_148_5 ?_
    refine ze_goto (pc := 6) (t := 10) zr_148_6 (by decide) ?_
    exact j1
  · rw [if_neg (show ¬ (a0 < 0) from hc)] at j1
    refine ze_iload_n (pc := 9) zr_148_9 rfl ?_
    exact j1
theorem zb149_141 {d : Nat} {Q : Int → z_M → Prop} (a0 : Int) {V : z_M}
    (h : ∀ W1, W1 = z_up V 141 1 (if a0 < 0 then a0 else 0) → zI (a0 < 0) (zGu (0 ≤ (z_neg a0) ∧ (z_neg a0) < 7) (∀ x24 : Int, x24 = W1 142 (z_neg a0).toNat → zGu (0 ≤ (z_neg a0) ∧ (z_neg a0) < 7) (∀ W2, W2 = z_up W1 142 (z_neg a0).toNat (z_add x24 1) → Q a0 W2))) (Q a0 W1)) :
    z_MS (d + 1) 149 true [.inr (.inr 141), .inl a0] V Q := by
  show z_Ex (z_MS d) 149 Q true 0 [some (.inr (.inr 141)), some (.inl a0)] [] 0 0 V
  refine ze_aload_n (pc := 0) zr_149_0 rfl ?_
  refine ze_iload_n (pc := 1) zr_149_1 rfl ?_
  have j2 : z_Ex (z_MS d) 149 Q true 10 [some (.inr (.inr 141)), some (.inl a0)] [.inl (if a0 < 0 then a0 else 0), .inr (.inr 141)] 0 0 V := by
    refine zq_putI (pc := 10) zr_149_10 (by decide) rfl h (fun W1 h => ?_)
    refine ze_iload_n (pc := 13) zr_149_13 rfl ?_
    refine zq_if_ge (pc := 14) (t := 28) zr_149_14 (by decide) (z_toif h) (fun h => ?_) (fun h => ?_)
    · refine ze_aload_n (pc := 17) zr_149_17 rfl ?_
      refine ze_getfield (pc := 18) (v := .inr (.inr 142)) zr_149_18 rfl rfl ?_
      refine ze_iload_n (pc := 21) zr_149_21 rfl ?_
      refine ze_ineg (pc := 22) zr_149_22 ?_
      refine zq_dup2 (pc := 23) zr_149_23 rfl rfl ?_
      refine z_gk h (fun g24 h => ?_)
      refine zl_iaload (pc := 24) zr_149_24 rfl rfl g24 h (fun x24 h => ?_)
      refine ze_iconst (pc := 25) zr_149_25 (by decide) ?_
      refine ze_iadd (pc := 26) zr_149_26 ?_
      refine z_gk h (fun g27 h => ?_)
      refine zq_iastore (pc := 27) zr_149_27 (by decide) rfl g27 rfl h (fun W2 h => ?_)
      refine ze_iload_n (pc := 28) zr_149_28 rfl ?_
      exact zq_ret1 (pc := 29) zr_149_29 rfl h
    · refine ze_iload_n (pc := 28) zr_149_28 rfl ?_
      exact zq_ret1 (pc := 29) zr_149_29 rfl h
  refine ze_if_ge (pc := 2) (t := 9) zr_149_2 (by decide) (fun hc => ?_) (fun hc => ?_)
  · rw [if_pos (show a0 < 0 from hc)] at j2
    refine ze_iload_n (pc := 5) zr_149_5 rfl ?_
    refine ze_goto (pc := 6) (t := 10) zr_149_6 (by decide) ?_
    exact j2
  · rw [if_neg (show ¬ (a0 < 0) from hc)] at j2
    refine ze_iconst (pc := 9) zr_149_9 (by decide) ?_
    exact j2
theorem zb150_141 {d : Nat} {Q : Int → z_M → Prop} (a0 : Int) {V : z_M}
    (h : ∀ W1, W1 = z_up V 141 1 0 → Q a0 W1) :
    z_MS (d + 1) 150 true [.inr (.inr 141), .inl a0] V Q := by
  show z_Ex (z_MS d) 150 Q true 0 [some (.inr (.inr 141)), some (.inl a0)] [] 0 0 V
  refine ze_aload_n (pc := 0) zr_150_0 rfl ?_
  refine ze_iconst (pc := 1) zr_150_1 (by decide) ?_
  refine zq_putI (pc := 2) zr_150_2 (by decide) rfl h (fun W1 h => ?_)
  refine ze_iload_n (pc := 5) zr_150_5 rfl ?_
  exact zq_ret1 (pc := 6) zr_150_6 rfl h
theorem zb151_141 {d : Nat} {Q : Int → z_M → Prop} (a0 : Int) (a1 : Int) {V : z_M}
    (h : zGu (0 ≤ a0 ∧ a0 < 5490) (∀ x5 : Int, x5 = V 143 a0.toNat → zGu (0 ≤ a0 ∧ a0 < 5490) (∀ W1, W1 = z_up V 143 a0.toNat a1 → z_MS d 150 true [.inr (.inr 141), .inl x5] W1 (fun z1 V1 => Q z1 V1)))) :
    z_MS (d + 1) 151 true [.inr (.inr 141), .inl a0, .inl a1] V Q := by
  show z_Ex (z_MS d) 151 Q true 0 [some (.inr (.inr 141)), some (.inl a0), some (.inl a1), none] [] 0 0 V
  refine ze_aload_n (pc := 0) zr_151_0 rfl ?_
  refine ze_getfield (pc := 1) (v := .inr (.inr 143)) zr_151_1 rfl rfl ?_
  refine ze_iload_n (pc := 4) zr_151_4 rfl ?_
  refine z_gk h (fun g5 h => ?_)
  refine zl_iaload (pc := 5) zr_151_5 rfl rfl g5 h (fun x5 h => ?_)
  refine zq_istore_n (pc := 6) (ls2 := [some (.inr (.inr 141)), some (.inl a0), some (.inl a1), some (.inl x5)]) zr_151_6 rfl rfl ?_
  refine ze_aload_n (pc := 7) zr_151_7 rfl ?_
  refine ze_getfield (pc := 8) (v := .inr (.inr 143)) zr_151_8 rfl rfl ?_
  refine ze_iload_n (pc := 11) zr_151_11 rfl ?_
  refine ze_iload_n (pc := 12) zr_151_12 rfl ?_
  refine z_gk h (fun g13 h => ?_)
  refine zq_iastore (pc := 13) zr_151_13 (by decide) rfl g13 rfl h (fun W1 h => ?_)
  refine ze_aload_n (pc := 14) zr_151_14 rfl ?_
  refine ze_iload_n (pc := 15) zr_151_15 rfl ?_
  refine zq_callV1 (pc := 16) (as := [.inr (.inr 141), .inl x5]) (r := []) (kc2 := 0) (ks2 := 0) zr_151_16 rfl (by decide) rfl rfl rfl rfl ⟨rfl, rfl⟩ ⟨rfl, rfl, rfl⟩ h (fun z1 V1 h => ?_)
  exact zq_ret1 (pc := 19) zr_151_19 rfl h
theorem zb152_141 {d : Nat} {Q : Int → z_M → Prop} (a0 : Int) {V : z_M}
    (h : ∀ W1, W1 = z_up V 141 0 0 → z_MS d 145 true [.inr (.inl a0), .inr (.inl 0), .inr (.inl 1)] W1 (fun z1 V1 => zI (z1 = 0) (z_MS d 149 true [.inr (.inr 141), .inl (-1)] V1 (fun z2 V2 => Q z2 V2)) (z_Ex (z_MS d) 152 Q true 23 [some (.inr (.inr 141)), some (.inl a0), some (.inl 0)] [] 0 0 V1))) :
    z_MS (d + 1) 152 true [.inr (.inr 141), .inl a0] V Q := by
  show z_Ex (z_MS d) 152 Q true 0 [some (.inr (.inr 141)), some (.inl a0), none] [] 0 0 V
  refine ze_aload_n (pc := 0) zr_152_0 rfl ?_
  refine ze_iconst (pc := 1) zr_152_1 (by decide) ?_
  refine zq_putI (pc := 2) zr_152_2 (by decide) rfl h (fun W1 h => ?_)
  refine ze_iload_n (pc := 5) zr_152_5 rfl ?_
  refine ze_i2l (pc := 6) zr_152_6 ?_
  refine ze_lconst (pc := 7) zr_152_7 ?_
  refine ze_lconst (pc := 8) zr_152_8 ?_
  refine zq_callS1 (pc := 9) (as := [.inr (.inl a0), .inr (.inl 0), .inr (.inl 1)]) (r := []) (kc2 := 0) (ks2 := 0) zr_152_9 rfl rfl rfl rfl ⟨rfl, rfl⟩ ⟨rfl, rfl, rfl⟩ h (fun z1 V1 h => ?_)
  refine zq_if_ne (pc := 12) (t := 21) zr_152_12 (by decide) (z_toif h) (fun h => ?_) (fun h => ?_)
  · refine ze_aload_n (pc := 15) zr_152_15 rfl ?_
    refine ze_iconst (pc := 16) zr_152_16 (by decide) ?_
    refine zq_callV1 (pc := 17) (as := [.inr (.inr 141), .inl (-1)]) (r := []) (kc2 := 0) (ks2 := 0) zr_152_17 rfl (by decide) rfl rfl rfl rfl ⟨rfl, rfl⟩ ⟨rfl, rfl, rfl⟩ h (fun z2 V2 h => ?_)
    exact zq_ret1 (pc := 20) zr_152_20 rfl h
  · refine ze_iconst (pc := 21) zr_152_21 (by decide) ?_
    refine zq_istore_n (pc := 22) (ls2 := [some (.inr (.inr 141)), some (.inl a0), some (.inl 0)]) zr_152_22 rfl rfl ?_
    exact h
theorem zb152_141_p23 {d : Nat} {Q : Int → z_M → Prop} (l1 : Int) (l2 : Int) {V : z_M}
    (h : zI (l2 < 5490) (zGu (0 ≤ l2 ∧ l2 < 5490) (∀ x46 : Int, x46 = V 143 l2.toNat → zGu (0 ≤ (z_add (z_mul 5490 l1) l2) ∧ (z_add (z_mul 5490 l1) l2) < 10980) (∀ W2402, W2402 = z_up V 144 (z_add (z_mul 5490 l1) l2).toNat x46 → z_Ex (z_MS d) 152 Q true 23 [some (.inr (.inr 141)), some (.inl l1), some (.inl (z_add l2 1))] [] 0 0 W2402))) (zGu (0 ≤ l1 ∧ l1 < 2) (∀ W2401, W2401 = z_up V 145 l1.toNat 1 → z_MS d 149 true [.inr (.inr 141), .inl 0] W2401 (fun z2401 V2401 => Q z2401 V2401)))) :
    z_Ex (z_MS d) 152 Q true 23 [some (.inr (.inr 141)), some (.inl l1), some (.inl l2)] [] 0 0 V := by
  refine ze_iload_n (pc := 23) zr_152_23 rfl ?_
  refine ze_sipush (pc := 24) zr_152_24 (by decide) ?_
  refine zq_icmp_ge (pc := 27) (t := 54) zr_152_27 (by decide) (z_toif h) (fun h => ?_) (fun h => ?_)
  · refine ze_aload_n (pc := 30) zr_152_30 rfl ?_
    refine ze_getfield (pc := 31) (v := .inr (.inr 144)) zr_152_31 rfl rfl ?_
    refine ze_sipush (pc := 34) zr_152_34 (by decide) ?_
    refine ze_iload_n (pc := 37) zr_152_37 rfl ?_
    refine ze_imul (pc := 38) zr_152_38 ?_
    refine ze_iload_n (pc := 39) zr_152_39 rfl ?_
    refine ze_iadd (pc := 40) zr_152_40 ?_
    refine ze_aload_n (pc := 41) zr_152_41 rfl ?_
    refine ze_getfield (pc := 42) (v := .inr (.inr 143)) zr_152_42 rfl rfl ?_
    refine ze_iload_n (pc := 45) zr_152_45 rfl ?_
    refine z_gk h (fun g46 h => ?_)
    refine zl_iaload (pc := 46) zr_152_46 rfl rfl g46 h (fun x46 h => ?_)
    refine z_gk h (fun g47 h => ?_)
    refine zq_iastore (pc := 47) zr_152_47 (by decide) rfl g47 rfl h (fun W2402 h => ?_)
    refine zq_iinc (pc := 48) (ls2 := [some (.inr (.inr 141)), some (.inl l1), some (.inl (z_add l2 1))]) zr_152_48 rfl rfl rfl ?_
    refine ze_goto (pc := 51) (t := 23) zr_152_51 (by decide) ?_
    exact h
  · refine ze_aload_n (pc := 54) zr_152_54 rfl ?_
    refine ze_getfield (pc := 55) (v := .inr (.inr 145)) zr_152_55 rfl rfl ?_
    refine ze_iload_n (pc := 58) zr_152_58 rfl ?_
    refine ze_iconst (pc := 59) zr_152_59 (by decide) ?_
    refine z_gk h (fun g60 h => ?_)
    refine zq_bastore (pc := 60) zr_152_60 (by decide) (by decide) rfl g60 rfl h (fun W2401 h => ?_)
    refine ze_aload_n (pc := 61) zr_152_61 rfl ?_
    refine ze_iconst (pc := 62) zr_152_62 (by decide) ?_
    refine zq_callV1 (pc := 63) (as := [.inr (.inr 141), .inl 0]) (r := []) (kc2 := 0) (ks2 := 0) zr_152_63 rfl (by decide) rfl rfl rfl rfl ⟨rfl, rfl⟩ ⟨rfl, rfl, rfl⟩ h (fun z2401 V2401 h => ?_)
    exact zq_ret1 (pc := 66) zr_152_66 rfl h
theorem zb153_141 {d : Nat} {Q : Int → z_M → Prop} (a0 : Int) {V : z_M}
    (h : ∀ W1, W1 = z_up V 141 0 0 → z_MS d 145 true [.inr (.inl a0), .inr (.inl 0), .inr (.inl 1)] W1 (fun z1 V1 => zI (z1 = 0) (z_MS d 149 true [.inr (.inr 141), .inl (-1)] V1 (fun z3 V3 => Q z3 V3)) (zGu (0 ≤ a0 ∧ a0 < 2) (∀ x26 : Int, x26 = V1 145 a0.toNat → zI (x26 = 0) (z_MS d 149 true [.inr (.inr 141), .inl (-2)] V1 (fun z2 V2 => Q z2 V2)) (z_Ex (z_MS d) 153 Q true 39 [some (.inr (.inr 141)), some (.inl a0), some (.inl 0)] [] 0 0 V1))))) :
    z_MS (d + 1) 153 true [.inr (.inr 141), .inl a0] V Q := by
  show z_Ex (z_MS d) 153 Q true 0 [some (.inr (.inr 141)), some (.inl a0), none] [] 0 0 V
  refine ze_aload_n (pc := 0) zr_153_0 rfl ?_
  refine ze_iconst (pc := 1) zr_153_1 (by decide) ?_
  refine zq_putI (pc := 2) zr_153_2 (by decide) rfl h (fun W1 h => ?_)
  refine ze_iload_n (pc := 5) zr_153_5 rfl ?_
  refine ze_i2l (pc := 6) zr_153_6 ?_
  refine ze_lconst (pc := 7) zr_153_7 ?_
  refine ze_lconst (pc := 8) zr_153_8 ?_
  refine zq_callS1 (pc := 9) (as := [.inr (.inl a0), .inr (.inl 0), .inr (.inl 1)]) (r := []) (kc2 := 0) (ks2 := 0) zr_153_9 rfl rfl rfl rfl ⟨rfl, rfl⟩ ⟨rfl, rfl, rfl⟩ h (fun z1 V1 h => ?_)
  refine zq_if_ne (pc := 12) (t := 21) zr_153_12 (by decide) (z_toif h) (fun h => ?_) (fun h => ?_)
  · refine ze_aload_n (pc := 15) zr_153_15 rfl ?_
    refine ze_iconst (pc := 16) zr_153_16 (by decide) ?_
    refine zq_callV1 (pc := 17) (as := [.inr (.inr 141), .inl (-1)]) (r := []) (kc2 := 0) (ks2 := 0) zr_153_17 rfl (by decide) rfl rfl rfl rfl ⟨rfl, rfl⟩ ⟨rfl, rfl, rfl⟩ h (fun z3 V3 h => ?_)
    exact zq_ret1 (pc := 20) zr_153_20 rfl h
  · refine ze_aload_n (pc := 21) zr_153_21 rfl ?_
    refine ze_getfield (pc := 22) (v := .inr (.inr 145)) zr_153_22 rfl rfl ?_
    refine ze_iload_n (pc := 25) zr_153_25 rfl ?_
    refine z_gk h (fun g26 h => ?_)
    refine zl_baload (pc := 26) zr_153_26 (by decide) rfl g26 h (fun x26 h => ?_)
    refine zq_if_ne (pc := 27) (t := 37) zr_153_27 (by decide) (z_toif h) (fun h => ?_) (fun h => ?_)
    · refine ze_aload_n (pc := 30) zr_153_30 rfl ?_
      refine ze_bipush (pc := 31) zr_153_31 (by decide) ?_
      refine zq_callV1 (pc := 33) (as := [.inr (.inr 141), .inl (-2)]) (r := []) (kc2 := 0) (ks2 := 0) zr_153_33 rfl (by decide) rfl rfl rfl rfl ⟨rfl, rfl⟩ ⟨rfl, rfl, rfl⟩ h (fun z2 V2 h => ?_)
      exact zq_ret1 (pc := 36) zr_153_36 rfl h
    · refine ze_iconst (pc := 37) zr_153_37 (by decide) ?_
      refine zq_istore_n (pc := 38) (ls2 := [some (.inr (.inr 141)), some (.inl a0), some (.inl 0)]) zr_153_38 rfl rfl ?_
      exact h
theorem zb153_141_p39 {d : Nat} {Q : Int → z_M → Prop} (l1 : Int) (l2 : Int) {V : z_M}
    (h : zI (l2 < 5490) (zGu (0 ≤ (z_add (z_mul 5490 l1) l2) ∧ (z_add (z_mul 5490 l1) l2) < 10980) (∀ x62 : Int, x62 = V 144 (z_add (z_mul 5490 l1) l2).toNat → zGu (0 ≤ l2 ∧ l2 < 5490) (∀ W4001, W4001 = z_up V 143 l2.toNat x62 → z_Ex (z_MS d) 153 Q true 39 [some (.inr (.inr 141)), some (.inl l1), some (.inl (z_add l2 1))] [] 0 0 W4001))) (z_MS d 149 true [.inr (.inr 141), .inl 0] V (fun z4001 V4001 => Q z4001 V4001))) :
    z_Ex (z_MS d) 153 Q true 39 [some (.inr (.inr 141)), some (.inl l1), some (.inl l2)] [] 0 0 V := by
  refine ze_iload_n (pc := 39) zr_153_39 rfl ?_
  refine ze_sipush (pc := 40) zr_153_40 (by decide) ?_
  refine zq_icmp_ge (pc := 43) (t := 70) zr_153_43 (by decide) (z_toif h) (fun h => ?_) (fun h => ?_)
  · refine ze_aload_n (pc := 46) zr_153_46 rfl ?_
    refine ze_getfield (pc := 47) (v := .inr (.inr 143)) zr_153_47 rfl rfl ?_
    refine ze_iload_n (pc := 50) zr_153_50 rfl ?_
    refine ze_aload_n (pc := 51) zr_153_51 rfl ?_
    refine ze_getfield (pc := 52) (v := .inr (.inr 144)) zr_153_52 rfl rfl ?_
    refine ze_sipush (pc := 55) zr_153_55 (by decide) ?_
    refine ze_iload_n (pc := 58) zr_153_58 rfl ?_
    refine ze_imul (pc := 59) zr_153_59 ?_
    refine ze_iload_n (pc := 60) zr_153_60 rfl ?_
    refine ze_iadd (pc := 61) zr_153_61 ?_
    refine z_gk h (fun g62 h => ?_)
    refine zl_iaload (pc := 62) zr_153_62 rfl rfl g62 h (fun x62 h => ?_)
    refine z_gk h (fun g63 h => ?_)
    refine zq_iastore (pc := 63) zr_153_63 (by decide) rfl g63 rfl h (fun W4001 h => ?_)
    refine zq_iinc (pc := 64) (ls2 := [some (.inr (.inr 141)), some (.inl l1), some (.inl (z_add l2 1))]) zr_153_64 rfl rfl rfl ?_
    refine ze_goto (pc := 67) (t := 39) zr_153_67 (by decide) ?_
    exact h
  · refine ze_aload_n (pc := 70) zr_153_70 rfl ?_
    refine ze_iconst (pc := 71) zr_153_71 (by decide) ?_
    refine zq_callV1 (pc := 72) (as := [.inr (.inr 141), .inl 0]) (r := []) (kc2 := 0) (ks2 := 0) zr_153_72 rfl (by decide) rfl rfl rfl rfl ⟨rfl, rfl⟩ ⟨rfl, rfl, rfl⟩ h (fun z4001 V4001 h => ?_)
    exact zq_ret1 (pc := 75) zr_153_75 rfl h
theorem zb154_141 {d : Nat} {Q : Int → z_M → Prop}  {V : z_M}
    (h : Q (V 143 0) V) :
    z_MS (d + 1) 154 true [.inr (.inr 141)] V Q := by
  show z_Ex (z_MS d) 154 Q true 0 [some (.inr (.inr 141))] [] 0 0 V
  refine ze_aload_n (pc := 0) zr_154_0 rfl ?_
  refine ze_getfield (pc := 1) (v := .inr (.inr 143)) zr_154_1 rfl rfl ?_
  refine ze_iconst (pc := 4) zr_154_4 (by decide) ?_
  refine zq_iaload (pc := 5) (v := .inl (V 143 0)) zr_154_5 rfl rfl (by decide) rfl ?_
  exact zq_ret1 (pc := 6) zr_154_6 rfl h
theorem zb155_141 {d : Nat} {Q : Int → z_M → Prop} (a0 : Int) {V : z_M}
    (h : z_MS d 154 true [.inr (.inr 141)] V (fun z1 V1 => z_MS d 145 true [.inr (.inl a0), .inr (.inl 0), .inr (.inl (z_lsub z1 1))] V1 (fun z2 V2 => zGu (z2 = 0 ∨ z2 = 1) (Q z2 V2)))) :
    z_MS (d + 1) 155 true [.inr (.inr 141), .inl a0] V Q := by
  show z_Ex (z_MS d) 155 Q true 0 [some (.inr (.inr 141)), some (.inl a0)] [] 0 0 V
  refine ze_iload_n (pc := 0) zr_155_0 rfl ?_
  refine ze_i2l (pc := 1) zr_155_1 ?_
  refine ze_lconst (pc := 2) zr_155_2 ?_
  refine ze_aload_n (pc := 3) zr_155_3 rfl ?_
  refine zq_callV1 (pc := 4) (as := [.inr (.inr 141)]) (r := [.inr (.inl 0), .inr (.inl a0)]) (kc2 := 0) (ks2 := 0) zr_155_4 rfl (by decide) rfl rfl rfl rfl ⟨rfl, rfl⟩ ⟨rfl, rfl, rfl⟩ h (fun z1 V1 h => ?_)
  refine ze_i2l (pc := 7) zr_155_7 ?_
  refine ze_lconst (pc := 8) zr_155_8 ?_
  refine ze_lsub (pc := 9) zr_155_9 ?_
  refine zq_callS1 (pc := 10) (as := [.inr (.inl a0), .inr (.inl 0), .inr (.inl (z_lsub z1 1))]) (r := []) (kc2 := 0) (ks2 := 0) zr_155_10 rfl rfl rfl rfl ⟨rfl, rfl⟩ ⟨rfl, rfl, rfl⟩ h (fun z2 V2 h => ?_)
  refine z_gk h (fun g13 h => ?_)
  exact zq_ret4 (pc := 13) zr_155_13 rfl g13 h
theorem zb156_141 {d : Nat} {Q : Int → z_M → Prop} (a0 : Int) {V : z_M}
    (h : z_MS d 145 true [.inr (.inl a0), .inr (.inl 0), .inr (.inl (z_lsub (V 143 1) 1))] V (fun z1 V1 => zGu (z1 = 0 ∨ z1 = 1) (Q z1 V1))) :
    z_MS (d + 1) 156 true [.inr (.inr 141), .inl a0] V Q := by
  show z_Ex (z_MS d) 156 Q true 0 [some (.inr (.inr 141)), some (.inl a0)] [] 0 0 V
  refine ze_iload_n (pc := 0) zr_156_0 rfl ?_
  refine ze_i2l (pc := 1) zr_156_1 ?_
  refine ze_lconst (pc := 2) zr_156_2 ?_
  refine ze_aload_n (pc := 3) zr_156_3 rfl ?_
  refine ze_getfield (pc := 4) (v := .inr (.inr 143)) zr_156_4 rfl rfl ?_
  refine ze_iconst (pc := 7) zr_156_7 (by decide) ?_
  refine zq_iaload (pc := 8) (v := .inl (V 143 1)) zr_156_8 rfl rfl (by decide) rfl ?_
  refine ze_i2l (pc := 9) zr_156_9 ?_
  refine ze_lconst (pc := 10) zr_156_10 ?_
  refine ze_lsub (pc := 11) zr_156_11 ?_
  refine zq_callS1 (pc := 12) (as := [.inr (.inl a0), .inr (.inl 0), .inr (.inl (z_lsub (V 143 1) 1))]) (r := []) (kc2 := 0) (ks2 := 0) zr_156_12 rfl rfl rfl rfl ⟨rfl, rfl⟩ ⟨rfl, rfl, rfl⟩ h (fun z1 V1 h => ?_)
  refine z_gk h (fun g15 h => ?_)
  exact zq_ret4 (pc := 15) zr_156_15 rfl g15 h
theorem zb157_141 {d : Nat} {Q : Int → z_M → Prop} (a0 : Int) (a1 : Int) {V : z_M}
    (h : zGu (0 ≤ (z_add (z_add 8 (z_mul 4 a0)) a1) ∧ (z_add (z_add 8 (z_mul 4 a0)) a1) < 5490) (∀ x12 : Int, x12 = V 143 (z_add (z_add 8 (z_mul 4 a0)) a1).toNat → Q x12 V)) :
    z_MS (d + 1) 157 true [.inr (.inr 141), .inl a0, .inl a1] V Q := by
  show z_Ex (z_MS d) 157 Q true 0 [some (.inr (.inr 141)), some (.inl a0), some (.inl a1)] [] 0 0 V
  refine ze_aload_n (pc := 0) zr_157_0 rfl ?_
  refine ze_getfield (pc := 1) (v := .inr (.inr 143)) zr_157_1 rfl rfl ?_
  refine ze_bipush (pc := 4) zr_157_4 (by decide) ?_
  refine ze_iconst (pc := 6) zr_157_6 (by decide) ?_
  refine ze_iload_n (pc := 7) zr_157_7 rfl ?_
  refine ze_imul (pc := 8) zr_157_8 ?_
  refine ze_iadd (pc := 9) zr_157_9 ?_
  refine ze_iload_n (pc := 10) zr_157_10 rfl ?_
  refine ze_iadd (pc := 11) zr_157_11 ?_
  refine z_gk h (fun g12 h => ?_)
  refine zl_iaload (pc := 12) zr_157_12 rfl rfl g12 h (fun x12 h => ?_)
  exact zq_ret1 (pc := 13) zr_157_13 rfl h
theorem zb158_141 {d : Nat} {Q : Int → z_M → Prop} (a0 : Int) {V : z_M}
    (h : zGu (0 ≤ (z_add 56 (z_mul 2 a0)) ∧ (z_add 56 (z_mul 2 a0)) < 5490) (∀ x10 : Int, x10 = V 143 (z_add 56 (z_mul 2 a0)).toNat → Q x10 V)) :
    z_MS (d + 1) 158 true [.inr (.inr 141), .inl a0] V Q := by
  show z_Ex (z_MS d) 158 Q true 0 [some (.inr (.inr 141)), some (.inl a0)] [] 0 0 V
  refine ze_aload_n (pc := 0) zr_158_0 rfl ?_
  refine ze_getfield (pc := 1) (v := .inr (.inr 143)) zr_158_1 rfl rfl ?_
  refine ze_bipush (pc := 4) zr_158_4 (by decide) ?_
  refine ze_iconst (pc := 6) zr_158_6 (by decide) ?_
  refine ze_iload_n (pc := 7) zr_158_7 rfl ?_
  refine ze_imul (pc := 8) zr_158_8 ?_
  refine ze_iadd (pc := 9) zr_158_9 ?_
  refine z_gk h (fun g10 h => ?_)
  refine zl_iaload (pc := 10) zr_158_10 rfl rfl g10 h (fun x10 h => ?_)
  exact zq_ret1 (pc := 11) zr_158_11 rfl h
theorem zb159 {d : Nat} {Q : Int → z_M → Prop} (a0 : Int) (a1 : Int) {V : z_M}
    (h : zI (a0 = 0) (z_MS d 145 true [.inr (.inl a1), .inr (.inl 1), .inr (.inl 9)] V (fun z4 V4 => zGu (z4 = 0 ∨ z4 = 1) (Q z4 V4))) (zI (a0 = 1) (z_MS d 145 true [.inr (.inl a1), .inr (.inl 1), .inr (.inl 99)] V (fun z3 V3 => zGu (z3 = 0 ∨ z3 = 1) (Q z3 V3))) (zI (a0 = 2) (z_MS d 145 true [.inr (.inl a1), .inr (.inl 0), .inr (.inl 9)] V (fun z2 V2 => zGu (z2 = 0 ∨ z2 = 1) (Q z2 V2))) (zI (a0 = 3) (z_MS d 145 true [.inr (.inl a1), .inr (.inl 0), .inr (.inl 1)] V (fun z1 V1 => zGu (z1 = 0 ∨ z1 = 1) (Q z1 V1))) (Q 0 V))))) :
    z_MS (d + 1) 159 true [.inl a0, .inl a1] V Q := by
  show z_Ex (z_MS d) 159 Q true 0 [some (.inl a0), some (.inl a1)] [] 0 0 V
  refine ze_iload_n (pc := 0) zr_159_0 rfl ?_
  refine zq_sw (pc := 1) (l := [31, 41, 51, 61]) zr_159_1 (by decide) rfl ?_
  refine zq_swc (n := 1) (z_toif h) rfl (fun h => ?_) (fun h => ?_)
  · refine zq_to (t := 32) (by decide) ?_
    refine ze_iload_n (pc := 32) zr_159_32 rfl ?_
    refine ze_i2l (pc := 33) zr_159_33 ?_
    refine ze_lconst (pc := 34) zr_159_34 ?_
    refine ze_ldc2 (pc := 35) (z := 9) zr_159_35 (by decide) rfl ?_
    refine zq_callS1 (pc := 38) (as := [.inr (.inl a1), .inr (.inl 1), .inr (.inl 9)]) (r := []) (kc2 := 0) (ks2 := 0) zr_159_38 rfl rfl rfl rfl ⟨rfl, rfl⟩ ⟨rfl, rfl, rfl⟩ h (fun z4 V4 h => ?_)
    refine z_gk h (fun g41 h => ?_)
    exact zq_ret4 (pc := 41) zr_159_41 rfl g41 h
  · refine zq_swc (n := 2) (z_toif h) rfl (fun h => ?_) (fun h => ?_)
    · refine zq_to (t := 42) (by decide) ?_
      refine ze_iload_n (pc := 42) zr_159_42 rfl ?_
      refine ze_i2l (pc := 43) zr_159_43 ?_
      refine ze_lconst (pc := 44) zr_159_44 ?_
      refine ze_ldc2 (pc := 45) (z := 99) zr_159_45 (by decide) rfl ?_
      refine zq_callS1 (pc := 48) (as := [.inr (.inl a1), .inr (.inl 1), .inr (.inl 99)]) (r := []) (kc2 := 0) (ks2 := 0) zr_159_48 rfl rfl rfl rfl ⟨rfl, rfl⟩ ⟨rfl, rfl, rfl⟩ h (fun z3 V3 h => ?_)
      refine z_gk h (fun g51 h => ?_)
      exact zq_ret4 (pc := 51) zr_159_51 rfl g51 h
    · refine zq_swc (n := 3) (z_toif h) rfl (fun h => ?_) (fun h => ?_)
      · refine zq_to (t := 52) (by decide) ?_
        refine ze_iload_n (pc := 52) zr_159_52 rfl ?_
        refine ze_i2l (pc := 53) zr_159_53 ?_
        refine ze_lconst (pc := 54) zr_159_54 ?_
        refine ze_ldc2 (pc := 55) (z := 9) zr_159_55 (by decide) rfl ?_
        refine zq_callS1 (pc := 58) (as := [.inr (.inl a1), .inr (.inl 0), .inr (.inl 9)]) (r := []) (kc2 := 0) (ks2 := 0) zr_159_58 rfl rfl rfl rfl ⟨rfl, rfl⟩ ⟨rfl, rfl, rfl⟩ h (fun z2 V2 h => ?_)
        refine z_gk h (fun g61 h => ?_)
        exact zq_ret4 (pc := 61) zr_159_61 rfl g61 h
      · refine zq_swc (n := 4) (z_toif h) rfl (fun h => ?_) (fun h => ?_)
        · refine zq_to (t := 62) (by decide) ?_
          refine ze_iload_n (pc := 62) zr_159_62 rfl ?_
          refine ze_i2l (pc := 63) zr_159_63 ?_
          refine ze_lconst (pc := 64) zr_159_64 ?_
          refine ze_lconst (pc := 65) zr_159_65 ?_
          refine zq_callS1 (pc := 66) (as := [.inr (.inl a1), .inr (.inl 0), .inr (.inl 1)]) (r := []) (kc2 := 0) (ks2 := 0) zr_159_66 rfl rfl rfl rfl ⟨rfl, rfl⟩ ⟨rfl, rfl, rfl⟩ h (fun z1 V1 h => ?_)
          refine z_gk h (fun g69 h => ?_)
          exact zq_ret4 (pc := 69) zr_159_69 rfl g69 h
        · refine zq_swn ?_
          refine zq_to (t := 70) (by decide) ?_
          refine ze_iconst (pc := 70) zr_159_70 (by decide) ?_
          exact zq_ret4 (pc := 71) zr_159_71 rfl (by decide) h
theorem zb160_141 {d : Nat} {Q : Int → z_M → Prop} (a0 : Int) (a1 : Int) (a2 : Int) {V : z_M}
    (h : z_MS d 154 true [.inr (.inr 141)] V (fun z1 V1 => zGu (0 ≤ (z_add 8 (z_mul 4 z1)) ∧ (z_add 8 (z_mul 4 z1)) < 5490) (∀ W1, W1 = z_up V1 143 (z_add 8 (z_mul 4 z1)).toNat a0 → zGu (0 ≤ (z_add (z_add 8 (z_mul 4 z1)) 1) ∧ (z_add (z_add 8 (z_mul 4 z1)) 1) < 5490) (∀ W2, W2 = z_up W1 143 (z_add (z_add 8 (z_mul 4 z1)) 1).toNat a1 → zGu (0 ≤ (z_add (z_add 8 (z_mul 4 z1)) 2) ∧ (z_add (z_add 8 (z_mul 4 z1)) 2) < 5490) (∀ W3, W3 = z_up W2 143 (z_add (z_add 8 (z_mul 4 z1)) 2).toNat a2 → zGu (0 ≤ (z_add (z_add 8 (z_mul 4 z1)) 3) ∧ (z_add (z_add 8 (z_mul 4 z1)) 3) < 5490) (∀ W4, W4 = z_up W3 143 (z_add (z_add 8 (z_mul 4 z1)) 3).toNat 0 → ∀ W5, W5 = z_up W4 143 0 (z_add (W4 143 0) 1) → Q 0 W5)))))) :
    z_MS (d + 1) 160 true [.inr (.inr 141), .inl a0, .inl a1, .inl a2] V Q := by
  show z_Ex (z_MS d) 160 Q true 0 [some (.inr (.inr 141)), some (.inl a0), some (.inl a1), some (.inl a2), none] [] 0 0 V
  refine ze_bipush (pc := 0) zr_160_0 (by decide) ?_
  refine ze_iconst (pc := 2) zr_160_2 (by decide) ?_
  refine ze_aload_n (pc := 3) zr_160_3 rfl ?_
  refine zq_callV1 (pc := 4) (as := [.inr (.inr 141)]) (r := [.inl 4, .inl 8]) (kc2 := 0) (ks2 := 0) zr_160_4 rfl (by decide) rfl rfl rfl rfl ⟨rfl, rfl⟩ ⟨rfl, rfl, rfl⟩ h (fun z1 V1 h => ?_)
  refine ze_imul (pc := 7) zr_160_7 ?_
  refine ze_iadd (pc := 8) zr_160_8 ?_
  refine zq_istore (pc := 9) (ls2 := [some (.inr (.inr 141)), some (.inl a0), some (.inl a1), some (.inl a2), some (.inl (z_add 8 (z_mul 4 z1)))]) zr_160_9 rfl rfl ?_
  refine ze_aload_n (pc := 11) zr_160_11 rfl ?_
  refine ze_getfield (pc := 12) (v := .inr (.inr 143)) zr_160_12 rfl rfl ?_
  refine ze_iload (pc := 15) zr_160_15 rfl ?_
  refine ze_iload_n (pc := 17) zr_160_17 rfl ?_
  refine z_gk h (fun g18 h => ?_)
  refine zq_iastore (pc := 18) zr_160_18 (by decide) rfl g18 rfl h (fun W1 h => ?_)
  refine ze_aload_n (pc := 19) zr_160_19 rfl ?_
  refine ze_getfield (pc := 20) (v := .inr (.inr 143)) zr_160_20 rfl rfl ?_
  refine ze_iload (pc := 23) zr_160_23 rfl ?_
  refine ze_iconst (pc := 25) zr_160_25 (by decide) ?_
  refine ze_iadd (pc := 26) zr_160_26 ?_
  refine ze_iload_n (pc := 27) zr_160_27 rfl ?_
  refine z_gk h (fun g28 h => ?_)
  refine zq_iastore (pc := 28) zr_160_28 (by decide) rfl g28 rfl h (fun W2 h => ?_)
  refine ze_aload_n (pc := 29) zr_160_29 rfl ?_
  refine ze_getfield (pc := 30) (v := .inr (.inr 143)) zr_160_30 rfl rfl ?_
  refine ze_iload (pc := 33) zr_160_33 rfl ?_
  refine ze_iconst (pc := 35) zr_160_35 (by decide) ?_
  refine ze_iadd (pc := 36) zr_160_36 ?_
  refine ze_iload_n (pc := 37) zr_160_37 rfl ?_
  refine z_gk h (fun g38 h => ?_)
  refine zq_iastore (pc := 38) zr_160_38 (by decide) rfl g38 rfl h (fun W3 h => ?_)
  refine ze_aload_n (pc := 39) zr_160_39 rfl ?_
  refine ze_getfield (pc := 40) (v := .inr (.inr 143)) zr_160_40 rfl rfl ?_
  refine ze_iload (pc := 43) zr_160_43 rfl ?_
  refine ze_iconst (pc := 45) zr_160_45 (by decide) ?_
  refine ze_iadd (pc := 46) zr_160_46 ?_
  refine ze_iconst (pc := 47) zr_160_47 (by decide) ?_
  refine z_gk h (fun g48 h => ?_)
  refine zq_iastore (pc := 48) zr_160_48 (by decide) rfl g48 rfl h (fun W4 h => ?_)
  refine ze_aload_n (pc := 49) zr_160_49 rfl ?_
  refine ze_getfield (pc := 50) (v := .inr (.inr 143)) zr_160_50 rfl rfl ?_
  refine ze_iconst (pc := 53) zr_160_53 (by decide) ?_
  refine zq_dup2 (pc := 54) zr_160_54 rfl rfl ?_
  refine zq_iaload (pc := 55) (v := .inl (W4 143 0)) zr_160_55 rfl rfl (by decide) rfl ?_
  refine ze_iconst (pc := 56) zr_160_56 (by decide) ?_
  refine ze_iadd (pc := 57) zr_160_57 ?_
  refine zq_iastore (pc := 58) zr_160_58 (by decide) rfl (by decide) rfl h (fun W5 h => ?_)
  exact ze_vret (pc := 59) zr_160_59 rfl h
theorem zb161_141 {d : Nat} {Q : Int → z_M → Prop} (a0 : Int) (a1 : Int) {V : z_M}
    (h : ∀ W1, W1 = z_up V 141 0 0 → z_MS d 159 true [.inl 0, .inl a0] W1 (fun z1 V1 => zI (z1 = 0) (z_MS d 149 true [.inr (.inr 141), .inl (-1)] V1 (fun z2 V2 => Q z2 V2)) (z_MS d 159 true [.inl 1, .inl a1] V1 (fun z3 V3 => zI (z3 = 0) (z_MS d 149 true [.inr (.inr 141), .inl (-1)] V3 (fun z9 V9 => Q z9 V9)) (z_MS d 154 true [.inr (.inr 141)] V3 (fun z4 V4 => zI (z4 = 12) (z_MS d 149 true [.inr (.inr 141), .inl (-5)] V4 (fun z8 V8 => Q z8 V8)) (z_MS d 160 true [.inr (.inr 141), .inl a0, .inl a1, .inl 0] V4 (fun z5 V5 => z_MS d 154 true [.inr (.inr 141)] V5 (fun z6 V6 => z_MS d 149 true [.inr (.inr 141), .inl (z_sub z6 1)] V6 (fun z7 V7 => Q z7 V7)))))))))) :
    z_MS (d + 1) 161 true [.inr (.inr 141), .inl a0, .inl a1] V Q := by
  show z_Ex (z_MS d) 161 Q true 0 [some (.inr (.inr 141)), some (.inl a0), some (.inl a1)] [] 0 0 V
  refine ze_aload_n (pc := 0) zr_161_0 rfl ?_
  refine ze_iconst (pc := 1) zr_161_1 (by decide) ?_
  refine zq_putI (pc := 2) zr_161_2 (by decide) rfl h (fun W1 h => ?_)
  refine ze_iconst (pc := 5) zr_161_5 (by decide) ?_
  refine ze_iload_n (pc := 6) zr_161_6 rfl ?_
  refine zq_callS1 (pc := 7) (as := [.inl 0, .inl a0]) (r := []) (kc2 := 0) (ks2 := 0) zr_161_7 rfl rfl rfl rfl ⟨rfl, rfl⟩ ⟨rfl, rfl, rfl⟩ h (fun z1 V1 h => ?_)
  refine zq_if_eq (pc := 10) (t := 21) zr_161_10 (by decide) (z_toif h) (fun h => ?_) (fun h => ?_)
  · refine ze_aload_n (pc := 21) zr_161_21 rfl ?_
    refine ze_iconst (pc := 22) zr_161_22 (by decide) ?_
    refine zq_callV1 (pc := 23) (as := [.inr (.inr 141), .inl (-1)]) (r := []) (kc2 := 0) (ks2 := 0) zr_161_23 rfl (by decide) rfl rfl rfl rfl ⟨rfl, rfl⟩ ⟨rfl, rfl, rfl⟩ h (fun z2 V2 h => ?_)
    exact zq_ret1 (pc := 26) zr_161_26 rfl h
  · refine ze_iconst (pc := 13) zr_161_13 (by decide) ?_
    refine ze_iload_n (pc := 14) zr_161_14 rfl ?_
    refine zq_callS1 (pc := 15) (as := [.inl 1, .inl a1]) (r := []) (kc2 := 0) (ks2 := 0) zr_161_15 rfl rfl rfl rfl ⟨rfl, rfl⟩ ⟨rfl, rfl, rfl⟩ h (fun z3 V3 h => ?_)
    refine zq_if_ne (pc := 18) (t := 27) zr_161_18 (by decide) (z_toif h) (fun h => ?_) (fun h => ?_)
    · refine ze_aload_n (pc := 21) zr_161_21 rfl ?_
      refine ze_iconst (pc := 22) zr_161_22 (by decide) ?_
      refine zq_callV1 (pc := 23) (as := [.inr (.inr 141), .inl (-1)]) (r := []) (kc2 := 0) (ks2 := 0) zr_161_23 rfl (by decide) rfl rfl rfl rfl ⟨rfl, rfl⟩ ⟨rfl, rfl, rfl⟩ h (fun z9 V9 h => ?_)
      exact zq_ret1 (pc := 26) zr_161_26 rfl h
    · refine ze_aload_n (pc := 27) zr_161_27 rfl ?_
      refine zq_callV1 (pc := 28) (as := [.inr (.inr 141)]) (r := []) (kc2 := 0) (ks2 := 0) zr_161_28 rfl (by decide) rfl rfl rfl rfl ⟨rfl, rfl⟩ ⟨rfl, rfl, rfl⟩ h (fun z4 V4 h => ?_)
      refine ze_bipush (pc := 31) zr_161_31 (by decide) ?_
      refine zq_icmp_ne (pc := 33) (t := 43) zr_161_33 (by decide) (z_toif h) (fun h => ?_) (fun h => ?_)
      · refine ze_aload_n (pc := 36) zr_161_36 rfl ?_
        refine ze_bipush (pc := 37) zr_161_37 (by decide) ?_
        refine zq_callV1 (pc := 39) (as := [.inr (.inr 141), .inl (-5)]) (r := []) (kc2 := 0) (ks2 := 0) zr_161_39 rfl (by decide) rfl rfl rfl rfl ⟨rfl, rfl⟩ ⟨rfl, rfl, rfl⟩ h (fun z8 V8 h => ?_)
        exact zq_ret1 (pc := 42) zr_161_42 rfl h
      · refine ze_aload_n (pc := 43) zr_161_43 rfl ?_
        refine ze_iload_n (pc := 44) zr_161_44 rfl ?_
        refine ze_iload_n (pc := 45) zr_161_45 rfl ?_
        refine ze_iconst (pc := 46) zr_161_46 (by decide) ?_
        refine zq_callV0 (pc := 47) (as := [.inr (.inr 141), .inl a0, .inl a1, .inl 0]) (r := []) (kc2 := 0) (ks2 := 0) zr_161_47 rfl (by decide) rfl rfl rfl rfl ⟨rfl, rfl⟩ rfl h (fun z5 V5 h => ?_)
        refine ze_aload_n (pc := 50) zr_161_50 rfl ?_
        refine ze_aload_n (pc := 51) zr_161_51 rfl ?_
        refine zq_callV1 (pc := 52) (as := [.inr (.inr 141)]) (r := [.inr (.inr 141)]) (kc2 := 0) (ks2 := 0) zr_161_52 rfl (by decide) rfl rfl rfl rfl ⟨rfl, rfl⟩ ⟨rfl, rfl, rfl⟩ h (fun z6 V6 h => ?_)
        refine ze_iconst (pc := 55) zr_161_55 (by decide) ?_
        refine ze_isub (pc := 56) zr_161_56 ?_
        refine zq_callV1 (pc := 57) (as := [.inr (.inr 141), .inl (z_sub z6 1)]) (r := []) (kc2 := 0) (ks2 := 0) zr_161_57 rfl (by decide) rfl rfl rfl rfl ⟨rfl, rfl⟩ ⟨rfl, rfl, rfl⟩ h (fun z7 V7 h => ?_)
        exact zq_ret1 (pc := 60) zr_161_60 rfl h
theorem zb162_141 {d : Nat} {Q : Int → z_M → Prop} (a0 : Int) (a1 : Int) (a2 : Int) {V : z_M}
    (h : ∀ W1, W1 = z_up V 141 0 0 → z_MS d 159 true [.inl a1, .inl a2] W1 (fun z1 V1 => zI (z1 = 0) (z_MS d 149 true [.inr (.inr 141), .inl (-1)] V1 (fun z5 V5 => Q z5 V5)) (z_MS d 155 true [.inr (.inr 141), .inl a0] V1 (fun z2 V2 => zI (z2 = 0) (z_MS d 149 true [.inr (.inr 141), .inl (-2)] V2 (fun z3 V3 => Q z3 V3)) (z_MS d 151 true [.inr (.inr 141), .inl (z_add (z_add 8 (z_mul 4 a0)) a1), .inl a2] V2 (fun z4 V4 => Q z4 V4)))))) :
    z_MS (d + 1) 162 true [.inr (.inr 141), .inl a0, .inl a1, .inl a2] V Q := by
  show z_Ex (z_MS d) 162 Q true 0 [some (.inr (.inr 141)), some (.inl a0), some (.inl a1), some (.inl a2)] [] 0 0 V
  refine ze_aload_n (pc := 0) zr_162_0 rfl ?_
  refine ze_iconst (pc := 1) zr_162_1 (by decide) ?_
  refine zq_putI (pc := 2) zr_162_2 (by decide) rfl h (fun W1 h => ?_)
  refine ze_iload_n (pc := 5) zr_162_5 rfl ?_
  refine ze_iload_n (pc := 6) zr_162_6 rfl ?_
  refine zq_callS1 (pc := 7) (as := [.inl a1, .inl a2]) (r := []) (kc2 := 0) (ks2 := 0) zr_162_7 rfl rfl rfl rfl ⟨rfl, rfl⟩ ⟨rfl, rfl, rfl⟩ h (fun z1 V1 h => ?_)
  refine zq_if_ne (pc := 10) (t := 19) zr_162_10 (by decide) (z_toif h) (fun h => ?_) (fun h => ?_)
  · refine ze_aload_n (pc := 13) zr_162_13 rfl ?_
    refine ze_iconst (pc := 14) zr_162_14 (by decide) ?_
    refine zq_callV1 (pc := 15) (as := [.inr (.inr 141), .inl (-1)]) (r := []) (kc2 := 0) (ks2 := 0) zr_162_15 rfl (by decide) rfl rfl rfl rfl ⟨rfl, rfl⟩ ⟨rfl, rfl, rfl⟩ h (fun z5 V5 h => ?_)
    exact zq_ret1 (pc := 18) zr_162_18 rfl h
  · refine ze_aload_n (pc := 19) zr_162_19 rfl ?_
    refine ze_iload_n (pc := 20) zr_162_20 rfl ?_
    refine zq_callV1 (pc := 21) (as := [.inr (.inr 141), .inl a0]) (r := []) (kc2 := 0) (ks2 := 0) zr_162_21 rfl (by decide) rfl rfl rfl rfl ⟨rfl, rfl⟩ ⟨rfl, rfl, rfl⟩ h (fun z2 V2 h => ?_)
    refine zq_if_eq (pc := 24) (t := 43) zr_162_24 (by decide) (z_toif h) (fun h => ?_) (fun h => ?_)
    · refine ze_aload_n (pc := 43) zr_162_43 rfl ?_
      refine ze_bipush (pc := 44) zr_162_44 (by decide) ?_
      refine zq_callV1 (pc := 46) (as := [.inr (.inr 141), .inl (-2)]) (r := []) (kc2 := 0) (ks2 := 0) zr_162_46 rfl (by decide) rfl rfl rfl rfl ⟨rfl, rfl⟩ ⟨rfl, rfl, rfl⟩ h (fun z3 V3 h => ?_)
      exact zq_ret1 (pc := 49) zr_162_49 rfl h
    · refine ze_aload_n (pc := 27) zr_162_27 rfl ?_
      refine ze_bipush (pc := 28) zr_162_28 (by decide) ?_
      refine ze_iconst (pc := 30) zr_162_30 (by decide) ?_
      refine ze_iload_n (pc := 31) zr_162_31 rfl ?_
      refine ze_imul (pc := 32) zr_162_32 ?_
      refine ze_iadd (pc := 33) zr_162_33 ?_
      refine ze_iload_n (pc := 34) zr_162_34 rfl ?_
      refine ze_iadd (pc := 35) zr_162_35 ?_
      refine ze_iload_n (pc := 36) zr_162_36 rfl ?_
      refine zq_callV1 (pc := 37) (as := [.inr (.inr 141), .inl (z_add (z_add 8 (z_mul 4 a0)) a1), .inl a2]) (r := []) (kc2 := 0) (ks2 := 0) zr_162_37 rfl (by decide) rfl rfl rfl rfl ⟨rfl, rfl⟩ ⟨rfl, rfl, rfl⟩ h (fun z4 V4 h => ?_)
      refine ze_goto (pc := 40) (t := 49) zr_162_40 (by decide) ?_
      exact zq_ret1 (pc := 49) zr_162_49 rfl h
theorem zb163_141 {d : Nat} {Q : Int → z_M → Prop} (a0 : Int) (a1 : Int) {V : z_M}
    (h : ∀ W1, W1 = z_up V 141 0 0 → z_MS d 155 true [.inr (.inr 141), .inl a0] W1 (fun z1 V1 => zI (z1 = 0) (Q (-1) V1) (z_MS d 145 true [.inr (.inl a1), .inr (.inl 0), .inr (.inl 4)] V1 (fun z2 V2 => zI (z2 = 0) (Q (-1) V2) (z_MS d 201 true [.inr (.inr 141)] V2 (fun z3 V3 => zI (a1 = 4) (zGu (0 ≤ a0 ∧ a0 < 12) (∀ x41 : Int, x41 = V3 156 a0.toNat → Q x41 V3)) (z_MS d 157 true [.inr (.inr 141), .inl a0, .inl a1] V3 (fun z4 V4 => Q z4 V4)))))))) :
    z_MS (d + 1) 163 true [.inr (.inr 141), .inl a0, .inl a1] V Q := by
  show z_Ex (z_MS d) 163 Q true 0 [some (.inr (.inr 141)), some (.inl a0), some (.inl a1)] [] 0 0 V
  refine ze_aload_n (pc := 0) zr_163_0 rfl ?_
  refine ze_iconst (pc := 1) zr_163_1 (by decide) ?_
  refine zq_putI (pc := 2) zr_163_2 (by decide) rfl h (fun W1 h => ?_)
  refine ze_aload_n (pc := 5) zr_163_5 rfl ?_
  refine ze_iload_n (pc := 6) zr_163_6 rfl ?_
  refine zq_callV1 (pc := 7) (as := [.inr (.inr 141), .inl a0]) (r := []) (kc2 := 0) (ks2 := 0) zr_163_7 rfl (by decide) rfl rfl rfl rfl ⟨rfl, rfl⟩ ⟨rfl, rfl, rfl⟩ h (fun z1 V1 h => ?_)
  refine zq_if_eq (pc := 10) (t := 25) zr_163_10 (by decide) (z_toif h) (fun h => ?_) (fun h => ?_)
  · refine ze_iconst (pc := 25) zr_163_25 (by decide) ?_
    exact zq_ret1 (pc := 26) zr_163_26 rfl h
  · refine ze_iload_n (pc := 13) zr_163_13 rfl ?_
    refine ze_i2l (pc := 14) zr_163_14 ?_
    refine ze_lconst (pc := 15) zr_163_15 ?_
    refine ze_ldc2 (pc := 16) (z := 4) zr_163_16 (by decide) rfl ?_
    refine zq_callS1 (pc := 19) (as := [.inr (.inl a1), .inr (.inl 0), .inr (.inl 4)]) (r := []) (kc2 := 0) (ks2 := 0) zr_163_19 rfl rfl rfl rfl ⟨rfl, rfl⟩ ⟨rfl, rfl, rfl⟩ h (fun z2 V2 h => ?_)
    refine zq_if_ne (pc := 22) (t := 27) zr_163_22 (by decide) (z_toif h) (fun h => ?_) (fun h => ?_)
    · refine ze_iconst (pc := 25) zr_163_25 (by decide) ?_
      exact zq_ret1 (pc := 26) zr_163_26 rfl h
    · refine ze_aload_n (pc := 27) zr_163_27 rfl ?_
      refine zq_callV0 (pc := 28) (as := [.inr (.inr 141)]) (r := []) (kc2 := 0) (ks2 := 0) zr_163_28 rfl (by decide) rfl rfl rfl rfl ⟨rfl, rfl⟩ rfl h (fun z3 V3 h => ?_)
      refine ze_iload_n (pc := 31) zr_163_31 rfl ?_
      refine ze_iconst (pc := 32) zr_163_32 (by decide) ?_
      refine zq_icmp_ne (pc := 33) (t := 45) zr_163_33 (by decide) (z_toif h) (fun h => ?_) (fun h => ?_)
      · refine ze_aload_n (pc := 36) zr_163_36 rfl ?_
        refine ze_getfield (pc := 37) (v := .inr (.inr 156)) zr_163_37 rfl rfl ?_
        refine ze_iload_n (pc := 40) zr_163_40 rfl ?_
        refine z_gk h (fun g41 h => ?_)
        refine zl_iaload (pc := 41) zr_163_41 rfl rfl g41 h (fun x41 h => ?_)
        refine ze_goto (pc := 42) (t := 51) zr_163_42 (by decide) ?_
        exact zq_ret1 (pc := 51) zr_163_51 rfl h
      · refine ze_aload_n (pc := 45) zr_163_45 rfl ?_
        refine ze_iload_n (pc := 46) zr_163_46 rfl ?_
        refine ze_iload_n (pc := 47) zr_163_47 rfl ?_
        refine zq_callV1 (pc := 48) (as := [.inr (.inr 141), .inl a0, .inl a1]) (r := []) (kc2 := 0) (ks2 := 0) zr_163_48 rfl (by decide) rfl rfl rfl rfl ⟨rfl, rfl⟩ ⟨rfl, rfl, rfl⟩ h (fun z4 V4 h => ?_)
        exact zq_ret1 (pc := 51) zr_163_51 rfl h
theorem zb164 {d : Nat} {Q : Int → z_M → Prop} (a0 : Int) (a1 : Int) {V : z_M}
    (h : zI (a0 = 0) (z_MS d 145 true [.inr (.inl a1), .inr (.inl 1), .inr (.inl 40)] V (fun z2 V2 => zGu (z2 = 0 ∨ z2 = 1) (Q z2 V2))) (zI (a0 = 1) (z_MS d 145 true [.inr (.inl a1), .inr (.inl 1), .inr (.inl 99)] V (fun z1 V1 => Q (if z1 = 0 then 0 else 1) V1)) (Q 0 V))) :
    z_MS (d + 1) 164 true [.inl a0, .inl a1] V Q := by
  show z_Ex (z_MS d) 164 Q true 0 [some (.inl a0), some (.inl a1)] [] 0 0 V
  refine ze_iload_n (pc := 0) zr_164_0 rfl ?_
  refine zq_if_ne (pc := 1) (t := 16) zr_164_1 (by decide) (z_toif h) (fun h => ?_) (fun h => ?_)
  · refine ze_iload_n (pc := 4) zr_164_4 rfl ?_
    refine ze_i2l (pc := 5) zr_164_5 ?_
    refine ze_lconst (pc := 6) zr_164_6 ?_
    refine ze_ldc2 (pc := 7) (z := 40) zr_164_7 (by decide) rfl ?_
    refine zq_callS1 (pc := 10) (as := [.inr (.inl a1), .inr (.inl 1), .inr (.inl 40)]) (r := []) (kc2 := 0) (ks2 := 0) zr_164_10 rfl rfl rfl rfl ⟨rfl, rfl⟩ ⟨rfl, rfl, rfl⟩ h (fun z2 V2 h => ?_)
    refine ze_goto (pc := 13) (t := 38) zr_164_13 (by decide) ?_
    refine z_gk h (fun g38 h => ?_)
    exact zq_ret4 (pc := 38) zr_164_38 rfl g38 h
  · refine ze_iload_n (pc := 16) zr_164_16 rfl ?_
    refine ze_iconst (pc := 17) zr_164_17 (by decide) ?_
    refine zq_icmp_ne (pc := 18) (t := 37) zr_164_18 (by decide) (z_toif h) (fun h => ?_) (fun h => ?_)
    · refine ze_iload_n (pc := 21) zr_164_21 rfl ?_
      refine ze_i2l (pc := 22) zr_164_22 ?_
      refine ze_lconst (pc := 23) zr_164_23 ?_
      refine ze_ldc2 (pc := 24) (z := 99) zr_164_24 (by decide) rfl ?_
      refine zq_callS1 (pc := 27) (as := [.inr (.inl a1), .inr (.inl 1), .inr (.inl 99)]) (r := []) (kc2 := 0) (ks2 := 0) zr_164_27 rfl rfl rfl rfl ⟨rfl, rfl⟩ ⟨rfl, rfl, rfl⟩ h (fun z1 V1 h => ?_)
      have j30 : z_Ex (z_MS d) 164 Q true 38 [some (.inl a0), some (.inl a1)] [.inl (if z1 = 0 then 0 else 1)] 0 0 V1 := by
        exact zq_ret4 (pc := 38) zr_164_38 rfl (by (repeat' split) <;> decide) h
      refine ze_if_eq (pc := 30) (t := 37) zr_164_30 (by decide) (fun hc => ?_) (fun hc => ?_)
      · rw [if_pos (show z1 = 0 from hc)] at j30
        refine ze_iconst (pc := 37) zr_164_37 (by decide) ?_
        exact j30
      · rw [if_neg (show ¬ (z1 = 0) from hc)] at j30
        refine ze_iconst (pc := 33) zr_164_33 (by decide) ?_
        refine ze_goto (pc := 34) (t := 38) zr_164_34 (by decide) ?_
        exact j30
    · refine ze_iconst (pc := 37) zr_164_37 (by decide) ?_
      exact zq_ret4 (pc := 38) zr_164_38 rfl (by decide) h
theorem zb165_141 {d : Nat} {Q : Int → z_M → Prop} (a0 : Int) (a1 : Int) {V : z_M}
    (h : ∀ W1, W1 = z_up V 141 0 0 → z_MS d 164 true [.inl 0, .inl a0] W1 (fun z1 V1 => zI (z1 = 0) (z_MS d 149 true [.inr (.inr 141), .inl (-1)] V1 (fun z2 V2 => Q z2 V2)) (z_MS d 164 true [.inl 1, .inl a1] V1 (fun z3 V3 => zI (z3 = 0) (z_MS d 149 true [.inr (.inr 141), .inl (-1)] V3 (fun z6 V6 => Q z6 V6)) (zI ((V3 143 1) = 6) (z_MS d 149 true [.inr (.inr 141), .inl (-5)] V3 (fun z5 V5 => Q z5 V5)) (zGu (0 ≤ (z_add 56 (z_mul 2 (V3 143 1))) ∧ (z_add 56 (z_mul 2 (V3 143 1))) < 5490) (∀ W2, W2 = z_up V3 143 (z_add 56 (z_mul 2 (V3 143 1))).toNat a0 → zGu (0 ≤ (z_add (z_add 56 (z_mul 2 (V3 143 1))) 1) ∧ (z_add (z_add 56 (z_mul 2 (V3 143 1))) 1) < 5490) (∀ W3, W3 = z_up W2 143 (z_add (z_add 56 (z_mul 2 (V3 143 1))) 1).toNat a1 → ∀ W4, W4 = z_up W3 143 1 (z_add (W3 143 1) 1) → z_MS d 149 true [.inr (.inr 141), .inl (V3 143 1)] W4 (fun z4 V4 => Q z4 V4))))))))) :
    z_MS (d + 1) 165 true [.inr (.inr 141), .inl a0, .inl a1] V Q := by
  show z_Ex (z_MS d) 165 Q true 0 [some (.inr (.inr 141)), some (.inl a0), some (.inl a1), none] [] 0 0 V
  refine ze_aload_n (pc := 0) zr_165_0 rfl ?_
  refine ze_iconst (pc := 1) zr_165_1 (by decide) ?_
  refine zq_putI (pc := 2) zr_165_2 (by decide) rfl h (fun W1 h => ?_)
  refine ze_iconst (pc := 5) zr_165_5 (by decide) ?_
  refine ze_iload_n (pc := 6) zr_165_6 rfl ?_
  refine zq_callS1 (pc := 7) (as := [.inl 0, .inl a0]) (r := []) (kc2 := 0) (ks2 := 0) zr_165_7 rfl rfl rfl rfl ⟨rfl, rfl⟩ ⟨rfl, rfl, rfl⟩ h (fun z1 V1 h => ?_)
  refine zq_if_eq (pc := 10) (t := 21) zr_165_10 (by decide) (z_toif h) (fun h => ?_) (fun h => ?_)
  · refine ze_aload_n (pc := 21) zr_165_21 rfl ?_
    refine ze_iconst (pc := 22) zr_165_22 (by decide) ?_
    refine zq_callV1 (pc := 23) (as := [.inr (.inr 141), .inl (-1)]) (r := []) (kc2 := 0) (ks2 := 0) zr_165_23 rfl (by decide) rfl rfl rfl rfl ⟨rfl, rfl⟩ ⟨rfl, rfl, rfl⟩ h (fun z2 V2 h => ?_)
    exact zq_ret1 (pc := 26) zr_165_26 rfl h
  · refine ze_iconst (pc := 13) zr_165_13 (by decide) ?_
    refine ze_iload_n (pc := 14) zr_165_14 rfl ?_
    refine zq_callS1 (pc := 15) (as := [.inl 1, .inl a1]) (r := []) (kc2 := 0) (ks2 := 0) zr_165_15 rfl rfl rfl rfl ⟨rfl, rfl⟩ ⟨rfl, rfl, rfl⟩ h (fun z3 V3 h => ?_)
    refine zq_if_ne (pc := 18) (t := 27) zr_165_18 (by decide) (z_toif h) (fun h => ?_) (fun h => ?_)
    · refine ze_aload_n (pc := 21) zr_165_21 rfl ?_
      refine ze_iconst (pc := 22) zr_165_22 (by decide) ?_
      refine zq_callV1 (pc := 23) (as := [.inr (.inr 141), .inl (-1)]) (r := []) (kc2 := 0) (ks2 := 0) zr_165_23 rfl (by decide) rfl rfl rfl rfl ⟨rfl, rfl⟩ ⟨rfl, rfl, rfl⟩ h (fun z6 V6 h => ?_)
      exact zq_ret1 (pc := 26) zr_165_26 rfl h
    · refine ze_aload_n (pc := 27) zr_165_27 rfl ?_
      refine ze_getfield (pc := 28) (v := .inr (.inr 143)) zr_165_28 rfl rfl ?_
      refine ze_iconst (pc := 31) zr_165_31 (by decide) ?_
      refine zq_iaload (pc := 32) (v := .inl (V3 143 1)) zr_165_32 rfl rfl (by decide) rfl ?_
      refine zq_istore_n (pc := 33) (ls2 := [some (.inr (.inr 141)), some (.inl a0), some (.inl a1), some (.inl (V3 143 1))]) zr_165_33 rfl rfl ?_
      refine ze_iload_n (pc := 34) zr_165_34 rfl ?_
      refine ze_bipush (pc := 35) zr_165_35 (by decide) ?_
      refine zq_icmp_ne (pc := 37) (t := 47) zr_165_37 (by decide) (z_toif h) (fun h => ?_) (fun h => ?_)
      · refine ze_aload_n (pc := 40) zr_165_40 rfl ?_
        refine ze_bipush (pc := 41) zr_165_41 (by decide) ?_
        refine zq_callV1 (pc := 43) (as := [.inr (.inr 141), .inl (-5)]) (r := []) (kc2 := 0) (ks2 := 0) zr_165_43 rfl (by decide) rfl rfl rfl rfl ⟨rfl, rfl⟩ ⟨rfl, rfl, rfl⟩ h (fun z5 V5 h => ?_)
        exact zq_ret1 (pc := 46) zr_165_46 rfl h
      · refine ze_aload_n (pc := 47) zr_165_47 rfl ?_
        refine ze_getfield (pc := 48) (v := .inr (.inr 143)) zr_165_48 rfl rfl ?_
        refine ze_bipush (pc := 51) zr_165_51 (by decide) ?_
        refine ze_iconst (pc := 53) zr_165_53 (by decide) ?_
        refine ze_iload_n (pc := 54) zr_165_54 rfl ?_
        refine ze_imul (pc := 55) zr_165_55 ?_
        refine ze_iadd (pc := 56) zr_165_56 ?_
        refine ze_iload_n (pc := 57) zr_165_57 rfl ?_
        refine z_gk h (fun g58 h => ?_)
        refine zq_iastore (pc := 58) zr_165_58 (by decide) rfl g58 rfl h (fun W2 h => ?_)
        refine ze_aload_n (pc := 59) zr_165_59 rfl ?_
        refine ze_getfield (pc := 60) (v := .inr (.inr 143)) zr_165_60 rfl rfl ?_
        refine ze_bipush (pc := 63) zr_165_63 (by decide) ?_
        refine ze_iconst (pc := 65) zr_165_65 (by decide) ?_
        refine ze_iload_n (pc := 66) zr_165_66 rfl ?_
        refine ze_imul (pc := 67) zr_165_67 ?_
        refine ze_iadd (pc := 68) zr_165_68 ?_
        refine ze_iconst (pc := 69) zr_165_69 (by decide) ?_
        refine ze_iadd (pc := 70) zr_165_70 ?_
        refine ze_iload_n (pc := 71) zr_165_71 rfl ?_
        refine z_gk h (fun g72 h => ?_)
        refine zq_iastore (pc := 72) zr_165_72 (by decide) rfl g72 rfl h (fun W3 h => ?_)
        refine ze_aload_n (pc := 73) zr_165_73 rfl ?_
        refine ze_getfield (pc := 74) (v := .inr (.inr 143)) zr_165_74 rfl rfl ?_
        refine ze_iconst (pc := 77) zr_165_77 (by decide) ?_
        refine zq_dup2 (pc := 78) zr_165_78 rfl rfl ?_
        refine zq_iaload (pc := 79) (v := .inl (W3 143 1)) zr_165_79 rfl rfl (by decide) rfl ?_
        refine ze_iconst (pc := 80) zr_165_80 (by decide) ?_
        refine ze_iadd (pc := 81) zr_165_81 ?_
        refine zq_iastore (pc := 82) zr_165_82 (by decide) rfl (by decide) rfl h (fun W4 h => ?_)
        refine ze_aload_n (pc := 83) zr_165_83 rfl ?_
        refine ze_iload_n (pc := 84) zr_165_84 rfl ?_
        refine zq_callV1 (pc := 85) (as := [.inr (.inr 141), .inl (V3 143 1)]) (r := []) (kc2 := 0) (ks2 := 0) zr_165_85 rfl (by decide) rfl rfl rfl rfl ⟨rfl, rfl⟩ ⟨rfl, rfl, rfl⟩ h (fun z4 V4 h => ?_)
        exact zq_ret1 (pc := 88) zr_165_88 rfl h
theorem zb166_141 {d : Nat} {Q : Int → z_M → Prop} (a0 : Int) (a1 : Int) (a2 : Int) {V : z_M}
    (h : ∀ W1, W1 = z_up V 141 0 0 → z_MS d 164 true [.inl a1, .inl a2] W1 (fun z1 V1 => zI (z1 = 0) (z_MS d 149 true [.inr (.inr 141), .inl (-1)] V1 (fun z5 V5 => Q z5 V5)) (z_MS d 156 true [.inr (.inr 141), .inl a0] V1 (fun z2 V2 => zI (z2 = 0) (z_MS d 149 true [.inr (.inr 141), .inl (-2)] V2 (fun z3 V3 => Q z3 V3)) (z_MS d 151 true [.inr (.inr 141), .inl (z_add (z_add 56 (z_mul 2 a0)) a1), .inl a2] V2 (fun z4 V4 => Q z4 V4)))))) :
    z_MS (d + 1) 166 true [.inr (.inr 141), .inl a0, .inl a1, .inl a2] V Q := by
  show z_Ex (z_MS d) 166 Q true 0 [some (.inr (.inr 141)), some (.inl a0), some (.inl a1), some (.inl a2)] [] 0 0 V
  refine ze_aload_n (pc := 0) zr_166_0 rfl ?_
  refine ze_iconst (pc := 1) zr_166_1 (by decide) ?_
  refine zq_putI (pc := 2) zr_166_2 (by decide) rfl h (fun W1 h => ?_)
  refine ze_iload_n (pc := 5) zr_166_5 rfl ?_
  refine ze_iload_n (pc := 6) zr_166_6 rfl ?_
  refine zq_callS1 (pc := 7) (as := [.inl a1, .inl a2]) (r := []) (kc2 := 0) (ks2 := 0) zr_166_7 rfl rfl rfl rfl ⟨rfl, rfl⟩ ⟨rfl, rfl, rfl⟩ h (fun z1 V1 h => ?_)
  refine zq_if_ne (pc := 10) (t := 19) zr_166_10 (by decide) (z_toif h) (fun h => ?_) (fun h => ?_)
  · refine ze_aload_n (pc := 13) zr_166_13 rfl ?_
    refine ze_iconst (pc := 14) zr_166_14 (by decide) ?_
    refine zq_callV1 (pc := 15) (as := [.inr (.inr 141), .inl (-1)]) (r := []) (kc2 := 0) (ks2 := 0) zr_166_15 rfl (by decide) rfl rfl rfl rfl ⟨rfl, rfl⟩ ⟨rfl, rfl, rfl⟩ h (fun z5 V5 h => ?_)
    exact zq_ret1 (pc := 18) zr_166_18 rfl h
  · refine ze_aload_n (pc := 19) zr_166_19 rfl ?_
    refine ze_iload_n (pc := 20) zr_166_20 rfl ?_
    refine zq_callV1 (pc := 21) (as := [.inr (.inr 141), .inl a0]) (r := []) (kc2 := 0) (ks2 := 0) zr_166_21 rfl (by decide) rfl rfl rfl rfl ⟨rfl, rfl⟩ ⟨rfl, rfl, rfl⟩ h (fun z2 V2 h => ?_)
    refine zq_if_eq (pc := 24) (t := 43) zr_166_24 (by decide) (z_toif h) (fun h => ?_) (fun h => ?_)
    · refine ze_aload_n (pc := 43) zr_166_43 rfl ?_
      refine ze_bipush (pc := 44) zr_166_44 (by decide) ?_
      refine zq_callV1 (pc := 46) (as := [.inr (.inr 141), .inl (-2)]) (r := []) (kc2 := 0) (ks2 := 0) zr_166_46 rfl (by decide) rfl rfl rfl rfl ⟨rfl, rfl⟩ ⟨rfl, rfl, rfl⟩ h (fun z3 V3 h => ?_)
      exact zq_ret1 (pc := 49) zr_166_49 rfl h
    · refine ze_aload_n (pc := 27) zr_166_27 rfl ?_
      refine ze_bipush (pc := 28) zr_166_28 (by decide) ?_
      refine ze_iconst (pc := 30) zr_166_30 (by decide) ?_
      refine ze_iload_n (pc := 31) zr_166_31 rfl ?_
      refine ze_imul (pc := 32) zr_166_32 ?_
      refine ze_iadd (pc := 33) zr_166_33 ?_
      refine ze_iload_n (pc := 34) zr_166_34 rfl ?_
      refine ze_iadd (pc := 35) zr_166_35 ?_
      refine ze_iload_n (pc := 36) zr_166_36 rfl ?_
      refine zq_callV1 (pc := 37) (as := [.inr (.inr 141), .inl (z_add (z_add 56 (z_mul 2 a0)) a1), .inl a2]) (r := []) (kc2 := 0) (ks2 := 0) zr_166_37 rfl (by decide) rfl rfl rfl rfl ⟨rfl, rfl⟩ ⟨rfl, rfl, rfl⟩ h (fun z4 V4 h => ?_)
      refine ze_goto (pc := 40) (t := 49) zr_166_40 (by decide) ?_
      exact zq_ret1 (pc := 49) zr_166_49 rfl h
theorem zb167_141 {d : Nat} {Q : Int → z_M → Prop} (a0 : Int) (a1 : Int) {V : z_M}
    (h : ∀ W1, W1 = z_up V 141 0 0 → zI (a0 = 0) (z_MS d 145 true [.inr (.inl a1), .inr (.inl 0), .inr (.inl 23)] W1 (fun z6 V6 => zI (z6 = 0) (z_MS d 149 true [.inr (.inr 141), .inl (-1)] V6 (fun z7 V7 => Q z7 V7)) (z_MS d 151 true [.inr (.inr 141), .inl (z_add 6 a0), .inl a1] V6 (fun z8 V8 => Q z8 V8)))) (zI (a0 = 1) (z_MS d 145 true [.inr (.inl a1), .inr (.inl 0), .inr (.inl 9)] W1 (fun z3 V3 => zI ((if z3 = 0 then 0 else 1 : Int) = 0) (z_MS d 149 true [.inr (.inr 141), .inl (-1)] V3 (fun z4 V4 => Q z4 V4)) (z_MS d 151 true [.inr (.inr 141), .inl (z_add 6 a0), .inl a1] V3 (fun z5 V5 => Q z5 V5)))) (zI ((0 : Int) = 0) (z_MS d 149 true [.inr (.inr 141), .inl (-1)] W1 (fun z1 V1 => Q z1 V1)) (z_MS d 151 true [.inr (.inr 141), .inl (z_add 6 a0), .inl a1] W1 (fun z2 V2 => Q z2 V2))))) :
    z_MS (d + 1) 167 true [.inr (.inr 141), .inl a0, .inl a1] V Q := by
  show z_Ex (z_MS d) 167 Q true 0 [some (.inr (.inr 141)), some (.inl a0), some (.inl a1), none] [] 0 0 V
  refine ze_aload_n (pc := 0) zr_167_0 rfl ?_
  refine ze_iconst (pc := 1) zr_167_1 (by decide) ?_
  refine zq_putI (pc := 2) zr_167_2 (by decide) rfl h (fun W1 h => ?_)
  refine ze_iload_n (pc := 5) zr_167_5 rfl ?_
  refine zq_if_ne (pc := 6) (t := 21) zr_167_6 (by decide) (z_toif h) (fun h => ?_) (fun h => ?_)
  · refine ze_iload_n (pc := 9) zr_167_9 rfl ?_
    refine ze_i2l (pc := 10) zr_167_10 ?_
    refine ze_lconst (pc := 11) zr_167_11 ?_
    refine ze_ldc2 (pc := 12) (z := 23) zr_167_12 (by decide) rfl ?_
    refine zq_callS1 (pc := 15) (as := [.inr (.inl a1), .inr (.inl 0), .inr (.inl 23)]) (r := []) (kc2 := 0) (ks2 := 0) zr_167_15 rfl rfl rfl rfl ⟨rfl, rfl⟩ ⟨rfl, rfl, rfl⟩ h (fun z6 V6 h => ?_)
    refine ze_goto (pc := 18) (t := 43) zr_167_18 (by decide) ?_
    refine zq_istore_n (pc := 43) (ls2 := [some (.inr (.inr 141)), some (.inl a0), some (.inl a1), some (.inl z6)]) zr_167_43 rfl rfl ?_
    refine ze_iload_n (pc := 44) zr_167_44 rfl ?_
    refine zq_if_eq (pc := 45) (t := 60) zr_167_45 (by decide) (z_toif h) (fun h => ?_) (fun h => ?_)
    · refine ze_aload_n (pc := 60) zr_167_60 rfl ?_
      refine ze_iconst (pc := 61) zr_167_61 (by decide) ?_
      refine zq_callV1 (pc := 62) (as := [.inr (.inr 141), .inl (-1)]) (r := []) (kc2 := 0) (ks2 := 0) zr_167_62 rfl (by decide) rfl rfl rfl rfl ⟨rfl, rfl⟩ ⟨rfl, rfl, rfl⟩ h (fun z7 V7 h => ?_)
      exact zq_ret1 (pc := 65) zr_167_65 rfl h
    · refine ze_aload_n (pc := 48) zr_167_48 rfl ?_
      refine ze_bipush (pc := 49) zr_167_49 (by decide) ?_
      refine ze_iload_n (pc := 51) zr_167_51 rfl ?_
      refine ze_iadd (pc := 52) zr_167_52 ?_
      refine ze_iload_n (pc := 53) zr_167_53 rfl ?_
      refine zq_callV1 (pc := 54) (as := [.inr (.inr 141), .inl (z_add 6 a0), .inl a1]) (r := []) (kc2 := 0) (ks2 := 0) zr_167_54 rfl (by decide) rfl rfl rfl rfl ⟨rfl, rfl⟩ ⟨rfl, rfl, rfl⟩ h (fun z8 V8 h => ?_)
      refine ze_goto (pc := 57) (t := 65) zr_167_57 (by decide) ?_
      exact zq_ret1 (pc := 65) zr_167_65 rfl h
  · refine ze_iload_n (pc := 21) zr_167_21 rfl ?_
    refine ze_iconst (pc := 22) zr_167_22 (by decide) ?_
    refine zq_icmp_ne (pc := 23) (t := 42) zr_167_23 (by decide) (z_toif h) (fun h => ?_) (fun h => ?_)
    · refine ze_iload_n (pc := 26) zr_167_26 rfl ?_
      refine ze_i2l (pc := 27) zr_167_27 ?_
      refine ze_lconst (pc := 28) zr_167_28 ?_
      refine ze_ldc2 (pc := 29) (z := 9) zr_167_29 (by decide) rfl ?_
      refine zq_callS1 (pc := 32) (as := [.inr (.inl a1), .inr (.inl 0), .inr (.inl 9)]) (r := []) (kc2 := 0) (ks2 := 0) zr_167_32 rfl rfl rfl rfl ⟨rfl, rfl⟩ ⟨rfl, rfl, rfl⟩ h (fun z3 V3 h => ?_)
      have j35 : z_Ex (z_MS d) 167 Q true 43 [some (.inr (.inr 141)), some (.inl a0), some (.inl a1), none] [.inl (if z3 = 0 then 0 else 1)] 0 0 V3 := by
        refine zq_istore_n (pc := 43) (ls2 := [some (.inr (.inr 141)), some (.inl a0), some (.inl a1), some (.inl (if z3 = 0 then 0 else 1))]) zr_167_43 rfl rfl ?_
        refine ze_iload_n (pc := 44) zr_167_44 rfl ?_
        refine zq_if_eq (pc := 45) (t := 60) zr_167_45 (by decide) (z_toif h) (fun h => ?_) (fun h => ?_)
        · refine ze_aload_n (pc := 60) zr_167_60 rfl ?_
          refine ze_iconst (pc := 61) zr_167_61 (by decide) ?_
          refine zq_callV1 (pc := 62) (as := [.inr (.inr 141), .inl (-1)]) (r := []) (kc2 := 0) (ks2 := 0) zr_167_62 rfl (by decide) rfl rfl rfl rfl ⟨rfl, rfl⟩ ⟨rfl, rfl, rfl⟩ h (fun z4 V4 h => ?_)
          exact zq_ret1 (pc := 65) zr_167_65 rfl h
        · refine ze_aload_n (pc := 48) zr_167_48 rfl ?_
          refine ze_bipush (pc := 49) zr_167_49 (by decide) ?_
          refine ze_iload_n (pc := 51) zr_167_51 rfl ?_
          refine ze_iadd (pc := 52) zr_167_52 ?_
          refine ze_iload_n (pc := 53) zr_167_53 rfl ?_
          refine zq_callV1 (pc := 54) (as := [.inr (.inr 141), .inl (z_add 6 a0), .inl a1]) (r := []) (kc2 := 0) (ks2 := 0) zr_167_54 rfl (by decide) rfl rfl rfl rfl ⟨rfl, rfl⟩ ⟨rfl, rfl, rfl⟩ h (fun z5 V5 h => ?_)
          refine ze_goto (pc := 57) (t := 65) zr_167_57 (by decide) ?_
          exact zq_ret1 (pc := 65) zr_167_65 rfl h
      refine ze_if_eq (pc := 35) (t := 42) zr_167_35 (by decide) (fun hc => ?_) (fun hc => ?_)
      · rw [if_pos (show z3 = 0 from hc)] at j35
        refine ze_iconst (pc := 42) zr_167_42 (by decide) ?_
        exact j35
      · rw [if_neg (show ¬ (z3 = 0) from hc)] at j35
        refine ze_iconst (pc := 38) zr_167_38 (by decide) ?_
        refine ze_goto (pc := 39) (t := 43) zr_167_39 (by decide) ?_
        exact j35
    · refine ze_iconst (pc := 42) zr_167_42 (by decide) ?_
      refine zq_istore_n (pc := 43) (ls2 := [some (.inr (.inr 141)), some (.inl a0), some (.inl a1), some (.inl 0)]) zr_167_43 rfl rfl ?_
      refine ze_iload_n (pc := 44) zr_167_44 rfl ?_
      refine zq_if_eq (pc := 45) (t := 60) zr_167_45 (by decide) (z_toif h) (fun h => ?_) (fun h => ?_)
      · refine ze_aload_n (pc := 60) zr_167_60 rfl ?_
        refine ze_iconst (pc := 61) zr_167_61 (by decide) ?_
        refine zq_callV1 (pc := 62) (as := [.inr (.inr 141), .inl (-1)]) (r := []) (kc2 := 0) (ks2 := 0) zr_167_62 rfl (by decide) rfl rfl rfl rfl ⟨rfl, rfl⟩ ⟨rfl, rfl, rfl⟩ h (fun z1 V1 h => ?_)
        exact zq_ret1 (pc := 65) zr_167_65 rfl h
      · refine ze_aload_n (pc := 48) zr_167_48 rfl ?_
        refine ze_bipush (pc := 49) zr_167_49 (by decide) ?_
        refine ze_iload_n (pc := 51) zr_167_51 rfl ?_
        refine ze_iadd (pc := 52) zr_167_52 ?_
        refine ze_iload_n (pc := 53) zr_167_53 rfl ?_
        refine zq_callV1 (pc := 54) (as := [.inr (.inr 141), .inl (z_add 6 a0), .inl a1]) (r := []) (kc2 := 0) (ks2 := 0) zr_167_54 rfl (by decide) rfl rfl rfl rfl ⟨rfl, rfl⟩ ⟨rfl, rfl, rfl⟩ h (fun z2 V2 h => ?_)
        refine ze_goto (pc := 57) (t := 65) zr_167_57 (by decide) ?_
        exact zq_ret1 (pc := 65) zr_167_65 rfl h
theorem zb168_141 {d : Nat} {Q : Int → z_M → Prop}  {V : z_M}
    (h : ∀ W1, W1 = z_up V 141 0 0 → ∀ W2, W2 = z_up W1 141 8 0 → zI ((W1 141 8) = 0) (z_MS d 149 true [.inr (.inr 141), .inl (-6)] W2 (fun z1 V1 => Q z1 V1)) (∀ W3, W3 = z_up W2 141 6 0 → z_Ex (z_MS d) 168 Q true 35 [some (.inr (.inr 141)), some (.inl (W1 141 8)), some (.inl 0), some (.inl 0), none] [] 0 0 W3)) :
    z_MS (d + 1) 168 true [.inr (.inr 141)] V Q := by
  show z_Ex (z_MS d) 168 Q true 0 [some (.inr (.inr 141)), none, none, none, none] [] 0 0 V
  refine ze_aload_n (pc := 0) zr_168_0 rfl ?_
  refine ze_iconst (pc := 1) zr_168_1 (by decide) ?_
  refine zq_putI (pc := 2) zr_168_2 (by decide) rfl h (fun W1 h => ?_)
  refine ze_aload_n (pc := 5) zr_168_5 rfl ?_
  refine ze_getfield (pc := 6) (v := .inl (W1 141 8)) zr_168_6 rfl rfl ?_
  refine zq_istore_n (pc := 9) (ls2 := [some (.inr (.inr 141)), some (.inl (W1 141 8)), none, none, none]) zr_168_9 rfl rfl ?_
  refine ze_aload_n (pc := 10) zr_168_10 rfl ?_
  refine ze_iconst (pc := 11) zr_168_11 (by decide) ?_
  refine zq_putI (pc := 12) zr_168_12 (by decide) rfl h (fun W2 h => ?_)
  refine ze_iload_n (pc := 15) zr_168_15 rfl ?_
  refine zq_if_ne (pc := 16) (t := 26) zr_168_16 (by decide) (z_toif h) (fun h => ?_) (fun h => ?_)
  · refine ze_aload_n (pc := 19) zr_168_19 rfl ?_
    refine ze_bipush (pc := 20) zr_168_20 (by decide) ?_
    refine zq_callV1 (pc := 22) (as := [.inr (.inr 141), .inl (-6)]) (r := []) (kc2 := 0) (ks2 := 0) zr_168_22 rfl (by decide) rfl rfl rfl rfl ⟨rfl, rfl⟩ ⟨rfl, rfl, rfl⟩ h (fun z1 V1 h => ?_)
    exact zq_ret1 (pc := 25) zr_168_25 rfl h
  · refine ze_aload_n (pc := 26) zr_168_26 rfl ?_
    refine ze_iconst (pc := 27) zr_168_27 (by decide) ?_
    refine zq_putI (pc := 28) zr_168_28 (by decide) rfl h (fun W3 h => ?_)
    refine ze_iconst (pc := 31) zr_168_31 (by decide) ?_
    refine zq_istore_n (pc := 32) (ls2 := [some (.inr (.inr 141)), some (.inl (W1 141 8)), some (.inl 0), none, none]) zr_168_32 rfl rfl ?_
    refine ze_iconst (pc := 33) zr_168_33 (by decide) ?_
    refine zq_istore_n (pc := 34) (ls2 := [some (.inr (.inr 141)), some (.inl (W1 141 8)), some (.inl 0), some (.inl 0), none]) zr_168_34 rfl rfl ?_
    exact h
theorem zb168_141_p35 {d : Nat} {Q : Int → z_M → Prop} (l1 : Int) (l2 : Int) (l3 : Int) (o4 : Option z_V) {V : z_M}
    (h : zI (l3 < l1) (zI ((z_add l3 2) < l1) (z_MS d 154 true [.inr (.inr 141)] V (fun z3602 V3602 => z_Ex (z_MS d) 168 Q true 61 [some (.inr (.inr 141)), some (.inl l1), some (.inl l2), some (.inl l3), o4] [.inl (if z3602 < 12 then 1 else 0)] 0 0 V3602)) (z_Ex (z_MS d) 168 Q true 61 [some (.inr (.inr 141)), some (.inl l1), some (.inl l2), some (.inl l3), o4] [.inl 0] 0 0 V)) (z_MS d 149 true [.inr (.inr 141), .inl l2] V (fun z3601 V3601 => Q z3601 V3601))) :
    z_Ex (z_MS d) 168 Q true 35 [some (.inr (.inr 141)), some (.inl l1), some (.inl l2), some (.inl l3), o4] [] 0 0 V := by
  refine ze_iload_n (pc := 35) zr_168_35 rfl ?_
  refine ze_iload_n (pc := 36) zr_168_36 rfl ?_
  refine zq_icmp_ge (pc := 37) (t := 159) zr_168_37 (by decide) (z_toif h) (fun h => ?_) (fun h => ?_)
  · refine ze_iload_n (pc := 40) zr_168_40 rfl ?_
    refine ze_iconst (pc := 41) zr_168_41 (by decide) ?_
    refine ze_iadd (pc := 42) zr_168_42 ?_
    refine ze_iload_n (pc := 43) zr_168_43 rfl ?_
    refine zq_icmp_ge (pc := 44) (t := 60) zr_168_44 (by decide) (z_toif h) (fun h => ?_) (fun h => ?_)
    · refine ze_aload_n (pc := 47) zr_168_47 rfl ?_
      refine zq_callV1 (pc := 48) (as := [.inr (.inr 141)]) (r := []) (kc2 := 0) (ks2 := 0) zr_168_48 rfl (by decide) rfl rfl rfl rfl ⟨rfl, rfl⟩ ⟨rfl, rfl, rfl⟩ h (fun z3602 V3602 h => ?_)
      refine ze_bipush (pc := 51) zr_168_51 (by decide) ?_
      have j53 : z_Ex (z_MS d) 168 Q true 61 [some (.inr (.inr 141)), some (.inl l1), some (.inl l2), some (.inl l3), o4] [.inl (if z3602 < 12 then 1 else 0)] 0 0 V3602 := by
        exact h
      refine ze_icmp_ge (pc := 53) (t := 60) zr_168_53 (by decide) (fun hc => ?_) (fun hc => ?_)
      · rw [if_pos (show z3602 < 12 from hc)] at j53
        refine ze_iconst (pc := 56) zr_168_56 (by decide) ?_
        refine ze_goto (pc := 57) (t := 61) zr_168_57 (by decide) ?_
        exact j53
      · rw [if_neg (show ¬ (z3602 < 12) from hc)] at j53
        refine ze_iconst (pc := 60) zr_168_60 (by decide) ?_
        exact j53
    · refine ze_iconst (pc := 60) zr_168_60 (by decide) ?_
      exact h
  · refine ze_aload_n (pc := 159) zr_168_159 rfl ?_
    refine ze_iload_n (pc := 160) zr_168_160 rfl ?_
    refine zq_callV1 (pc := 161) (as := [.inr (.inr 141), .inl l2]) (r := []) (kc2 := 0) (ks2 := 0) zr_168_161 rfl (by decide) rfl rfl rfl rfl ⟨rfl, rfl⟩ ⟨rfl, rfl, rfl⟩ h (fun z3601 V3601 h => ?_)
    exact zq_ret1 (pc := 164) zr_168_164 rfl h
theorem zb168_141_p61 {d : Nat} {Q : Int → z_M → Prop} (l1 : Int) (l2 : Int) (l3 : Int) (o4 : Option z_V) (s0 : Int) {V : z_M}
    (h : zI (s0 = 0) (z_Ex (z_MS d) 168 Q true 143 [some (.inr (.inr 141)), some (.inl l1), some (.inl l2), some (.inl l3), some (.inl s0)] [] 0 0 V) (zGu (0 ≤ l3 ∧ l3 < 400) (∀ x74 : Int, x74 = V 146 l3.toNat → z_MS d 159 true [.inl 0, .inl x74] V (fun z6201 V6201 => zI (z6201 = 0) (z_Ex (z_MS d) 168 Q true 143 [some (.inr (.inr 141)), some (.inl l1), some (.inl l2), some (.inl l3), some (.inl s0)] [] 0 0 V6201) (zGu (0 ≤ (z_add l3 1) ∧ (z_add l3 1) < 400) (∀ x89 : Int, x89 = V6201 146 (z_add l3 1).toNat → z_MS d 159 true [.inl 1, .inl x89] V6201 (fun z6202 V6202 => zI (z6202 = 0) (z_Ex (z_MS d) 168 Q true 143 [some (.inr (.inr 141)), some (.inl l1), some (.inl l2), some (.inl l3), some (.inl s0)] [] 0 0 V6202) (zGu (0 ≤ (z_add l3 2) ∧ (z_add l3 2) < 400) (∀ x104 : Int, x104 = V6202 146 (z_add l3 2).toNat → z_MS d 159 true [.inl 2, .inl x104] V6202 (fun z6203 V6203 => zI (z6203 = 0) (z_Ex (z_MS d) 168 Q true 143 [some (.inr (.inr 141)), some (.inl l1), some (.inl l2), some (.inl l3), some (.inl s0)] [] 0 0 V6203) (zGu (0 ≤ l3 ∧ l3 < 400) (∀ x117 : Int, x117 = V6203 146 l3.toNat → zGu (0 ≤ (z_add l3 1) ∧ (z_add l3 1) < 400) (∀ x125 : Int, x125 = V6203 146 (z_add l3 1).toNat → zGu (0 ≤ (z_add l3 2) ∧ (z_add l3 2) < 400) (∀ x133 : Int, x133 = V6203 146 (z_add l3 2).toNat → z_MS d 160 true [.inr (.inr 141), .inl x117, .inl x125, .inl x133] V6203 (fun z6204 V6204 => z_Ex (z_MS d) 168 Q true 35 [some (.inr (.inr 141)), some (.inl l1), some (.inl (z_add l2 1)), some (.inl (z_add l3 3)), some (.inl s0)] [] 0 0 V6204))))))))))))))) :
    z_Ex (z_MS d) 168 Q true 61 [some (.inr (.inr 141)), some (.inl l1), some (.inl l2), some (.inl l3), o4] [.inl s0] 0 0 V := by
  refine zq_istore (pc := 61) (ls2 := [some (.inr (.inr 141)), some (.inl l1), some (.inl l2), some (.inl l3), some (.inl s0)]) zr_168_61 rfl rfl ?_
  refine ze_iload (pc := 63) zr_168_63 rfl ?_
  refine zq_if_eq (pc := 65) (t := 143) zr_168_65 (by decide) (z_toif h) (fun h => ?_) (fun h => ?_)
  · exact h
  · refine ze_iconst (pc := 68) zr_168_68 (by decide) ?_
    refine ze_aload_n (pc := 69) zr_168_69 rfl ?_
    refine ze_getfield (pc := 70) (v := .inr (.inr 146)) zr_168_70 rfl rfl ?_
    refine ze_iload_n (pc := 73) zr_168_73 rfl ?_
    refine z_gk h (fun g74 h => ?_)
    refine zl_iaload (pc := 74) zr_168_74 rfl rfl g74 h (fun x74 h => ?_)
    refine zq_callS1 (pc := 75) (as := [.inl 0, .inl x74]) (r := []) (kc2 := 0) (ks2 := 0) zr_168_75 rfl rfl rfl rfl ⟨rfl, rfl⟩ ⟨rfl, rfl, rfl⟩ h (fun z6201 V6201 h => ?_)
    refine zq_if_eq (pc := 78) (t := 143) zr_168_78 (by decide) (z_toif h) (fun h => ?_) (fun h => ?_)
    · exact h
    · refine ze_iconst (pc := 81) zr_168_81 (by decide) ?_
      refine ze_aload_n (pc := 82) zr_168_82 rfl ?_
      refine ze_getfield (pc := 83) (v := .inr (.inr 146)) zr_168_83 rfl rfl ?_
      refine ze_iload_n (pc := 86) zr_168_86 rfl ?_
      refine ze_iconst (pc := 87) zr_168_87 (by decide) ?_
      refine ze_iadd (pc := 88) zr_168_88 ?_
      refine z_gk h (fun g89 h => ?_)
      refine zl_iaload (pc := 89) zr_168_89 rfl rfl g89 h (fun x89 h => ?_)
      refine zq_callS1 (pc := 90) (as := [.inl 1, .inl x89]) (r := []) (kc2 := 0) (ks2 := 0) zr_168_90 rfl rfl rfl rfl ⟨rfl, rfl⟩ ⟨rfl, rfl, rfl⟩ h (fun z6202 V6202 h => ?_)
      refine zq_if_eq (pc := 93) (t := 143) zr_168_93 (by decide) (z_toif h) (fun h => ?_) (fun h => ?_)
      · exact h
      · refine ze_iconst (pc := 96) zr_168_96 (by decide) ?_
        refine ze_aload_n (pc := 97) zr_168_97 rfl ?_
        refine ze_getfield (pc := 98) (v := .inr (.inr 146)) zr_168_98 rfl rfl ?_
        refine ze_iload_n (pc := 101) zr_168_101 rfl ?_
        refine ze_iconst (pc := 102) zr_168_102 (by decide) ?_
        refine ze_iadd (pc := 103) zr_168_103 ?_
        refine z_gk h (fun g104 h => ?_)
        refine zl_iaload (pc := 104) zr_168_104 rfl rfl g104 h (fun x104 h => ?_)
        refine zq_callS1 (pc := 105) (as := [.inl 2, .inl x104]) (r := []) (kc2 := 0) (ks2 := 0) zr_168_105 rfl rfl rfl rfl ⟨rfl, rfl⟩ ⟨rfl, rfl, rfl⟩ h (fun z6203 V6203 h => ?_)
        refine zq_if_eq (pc := 108) (t := 143) zr_168_108 (by decide) (z_toif h) (fun h => ?_) (fun h => ?_)
        · exact h
        · refine ze_aload_n (pc := 111) zr_168_111 rfl ?_
          refine ze_aload_n (pc := 112) zr_168_112 rfl ?_
          refine ze_getfield (pc := 113) (v := .inr (.inr 146)) zr_168_113 rfl rfl ?_
          refine ze_iload_n (pc := 116) zr_168_116 rfl ?_
          refine z_gk h (fun g117 h => ?_)
          refine zl_iaload (pc := 117) zr_168_117 rfl rfl g117 h (fun x117 h => ?_)
          refine ze_aload_n (pc := 118) zr_168_118 rfl ?_
          refine ze_getfield (pc := 119) (v := .inr (.inr 146)) zr_168_119 rfl rfl ?_
          refine ze_iload_n (pc := 122) zr_168_122 rfl ?_
          refine ze_iconst (pc := 123) zr_168_123 (by decide) ?_
          refine ze_iadd (pc := 124) zr_168_124 ?_
          refine z_gk h (fun g125 h => ?_)
          refine zl_iaload (pc := 125) zr_168_125 rfl rfl g125 h (fun x125 h => ?_)
          refine ze_aload_n (pc := 126) zr_168_126 rfl ?_
          refine ze_getfield (pc := 127) (v := .inr (.inr 146)) zr_168_127 rfl rfl ?_
          refine ze_iload_n (pc := 130) zr_168_130 rfl ?_
          refine ze_iconst (pc := 131) zr_168_131 (by decide) ?_
          refine ze_iadd (pc := 132) zr_168_132 ?_
          refine z_gk h (fun g133 h => ?_)
          refine zl_iaload (pc := 133) zr_168_133 rfl rfl g133 h (fun x133 h => ?_)
          refine zq_callV0 (pc := 134) (as := [.inr (.inr 141), .inl x117, .inl x125, .inl x133]) (r := []) (kc2 := 0) (ks2 := 0) zr_168_134 rfl (by decide) rfl rfl rfl rfl ⟨rfl, rfl⟩ rfl h (fun z6204 V6204 h => ?_)
          refine zq_iinc (pc := 137) (ls2 := [some (.inr (.inr 141)), some (.inl l1), some (.inl (z_add l2 1)), some (.inl l3), some (.inl s0)]) zr_168_137 rfl rfl rfl ?_
          refine ze_goto (pc := 140) (t := 153) zr_168_140 (by decide) ?_
          refine zq_iinc (pc := 153) (ls2 := [some (.inr (.inr 141)), some (.inl l1), some (.inl (z_add l2 1)), some (.inl (z_add l3 3)), some (.inl s0)]) zr_168_153 rfl rfl rfl ?_
          refine ze_goto (pc := 156) (t := 35) zr_168_156 (by decide) ?_
          exact h
theorem zb168_141_p143 {d : Nat} {Q : Int → z_M → Prop} (l1 : Int) (l2 : Int) (l3 : Int) (o4 : Option z_V) {V : z_M}
    (h : ∀ W14401, W14401 = z_up V 141 6 (z_add (V 141 6) 1) → z_Ex (z_MS d) 168 Q true 35 [some (.inr (.inr 141)), some (.inl l1), some (.inl l2), some (.inl (z_add l3 3)), o4] [] 0 0 W14401) :
    z_Ex (z_MS d) 168 Q true 143 [some (.inr (.inr 141)), some (.inl l1), some (.inl l2), some (.inl l3), o4] [] 0 0 V := by
  refine ze_aload_n (pc := 143) zr_168_143 rfl ?_
  refine ze_dup (pc := 144) zr_168_144 rfl ?_
  refine ze_getfield (pc := 145) (v := .inl (V 141 6)) zr_168_145 rfl rfl ?_
  refine ze_iconst (pc := 148) zr_168_148 (by decide) ?_
  refine ze_iadd (pc := 149) zr_168_149 ?_
  refine zq_putI (pc := 150) zr_168_150 (by decide) rfl h (fun W14401 h => ?_)
  refine zq_iinc (pc := 153) (ls2 := [some (.inr (.inr 141)), some (.inl l1), some (.inl l2), some (.inl (z_add l3 3)), o4]) zr_168_153 rfl rfl rfl ?_
  refine ze_goto (pc := 156) (t := 35) zr_168_156 (by decide) ?_
  exact h
theorem zb169_141 {d : Nat} {Q : Int → z_M → Prop}  {V : z_M}
    (h : ∀ W1, W1 = z_up V 141 0 0 → Q (W1 141 6) W1) :
    z_MS (d + 1) 169 true [.inr (.inr 141)] V Q := by
  show z_Ex (z_MS d) 169 Q true 0 [some (.inr (.inr 141))] [] 0 0 V
  refine ze_aload_n (pc := 0) zr_169_0 rfl ?_
  refine ze_iconst (pc := 1) zr_169_1 (by decide) ?_
  refine zq_putI (pc := 2) zr_169_2 (by decide) rfl h (fun W1 h => ?_)
  refine ze_aload_n (pc := 5) zr_169_5 rfl ?_
  refine ze_getfield (pc := 6) (v := .inl (W1 141 6)) zr_169_6 rfl rfl ?_
  exact zq_ret1 (pc := 9) zr_169_9 rfl h
theorem zb170_141 {d : Nat} {Q : Int → z_M → Prop} (a0 : Int) {V : z_M}
    (h : z_Ex (z_MS d) 170 Q true 3 [some (.inr (.inr 141)), some (.inl a0), some (.inl 24)] [] 0 0 V) :
    z_MS (d + 1) 170 true [.inr (.inr 141), .inl a0] V Q := by
  show z_Ex (z_MS d) 170 Q true 0 [some (.inr (.inr 141)), some (.inl a0), none] [] 0 0 V
  refine ze_bipush (pc := 0) zr_170_0 (by decide) ?_
  refine zq_istore_n (pc := 2) (ls2 := [some (.inr (.inr 141)), some (.inl a0), some (.inl 24)]) zr_170_2 rfl rfl ?_
  exact h
theorem zb170_141_p3 {d : Nat} {Q : Int → z_M → Prop} (l1 : Int) (l2 : Int) {V : z_M}
    (h : zI (l2 < 0) (Q 0 V) (zGu (0 ≤ (V 141 8) ∧ (V 141 8) < 400) (∀ W401, W401 = z_up V 146 (V 141 8).toNat (z_and (z_shr l1 l2) 255) → ∀ W402, W402 = z_up W401 141 8 (z_add (W401 141 8) 1) → z_Ex (z_MS d) 170 Q true 3 [some (.inr (.inr 141)), some (.inl l1), some (.inl (z_add l2 (-8)))] [] 0 0 W402))) :
    z_Ex (z_MS d) 170 Q true 3 [some (.inr (.inr 141)), some (.inl l1), some (.inl l2)] [] 0 0 V := by
  refine ze_iload_n (pc := 3) zr_170_3 rfl ?_
  refine zq_if_lt (pc := 4) (t := 39) zr_170_4 (by decide) (z_toif h) (fun h => ?_) (fun h => ?_)
  · exact ze_vret (pc := 39) zr_170_39 rfl h
  · refine ze_aload_n (pc := 7) zr_170_7 rfl ?_
    refine ze_getfield (pc := 8) (v := .inr (.inr 146)) zr_170_8 rfl rfl ?_
    refine ze_aload_n (pc := 11) zr_170_11 rfl ?_
    refine ze_getfield (pc := 12) (v := .inl (V 141 8)) zr_170_12 rfl rfl ?_
    refine ze_iload_n (pc := 15) zr_170_15 rfl ?_
    refine ze_iload_n (pc := 16) zr_170_16 rfl ?_
    refine ze_ishr (pc := 17) zr_170_17 ?_
    refine ze_sipush (pc := 18) zr_170_18 (by decide) ?_
    refine ze_iand (pc := 21) zr_170_21 ?_
    refine z_gk h (fun g22 h => ?_)
    refine zq_iastore (pc := 22) zr_170_22 (by decide) rfl g22 rfl h (fun W401 h => ?_)
    refine ze_aload_n (pc := 23) zr_170_23 rfl ?_
    refine ze_dup (pc := 24) zr_170_24 rfl ?_
    refine ze_getfield (pc := 25) (v := .inl (W401 141 8)) zr_170_25 rfl rfl ?_
    refine ze_iconst (pc := 28) zr_170_28 (by decide) ?_
    refine ze_iadd (pc := 29) zr_170_29 ?_
    refine zq_putI (pc := 30) zr_170_30 (by decide) rfl h (fun W402 h => ?_)
    refine zq_iinc (pc := 33) (ls2 := [some (.inr (.inr 141)), some (.inl l1), some (.inl (z_add l2 (-8)))]) zr_170_33 rfl rfl rfl ?_
    refine ze_goto (pc := 36) (t := 3) zr_170_36 (by decide) ?_
    exact h
theorem zb171_141 {d : Nat} {Q : Int → z_M → Prop} (a0 : Int) (a1 : Int) (a2 : Int) (a3 : Int) (a4 : Int) {V : z_M}
    (h : ∀ W1, W1 = z_up V 141 0 0 → zI (400 < (z_add (W1 141 8) 20)) (Q (-1) W1) (z_MS d 170 true [.inr (.inr 141), .inl a0] W1 (fun z1 V1 => z_MS d 170 true [.inr (.inr 141), .inl a1] V1 (fun z2 V2 => z_MS d 170 true [.inr (.inr 141), .inl a2] V2 (fun z3 V3 => z_MS d 170 true [.inr (.inr 141), .inl a3] V3 (fun z4 V4 => z_MS d 170 true [.inr (.inr 141), .inl a4] V4 (fun z5 V5 => Q (V5 141 8) V5))))))) :
    z_MS (d + 1) 171 true [.inr (.inr 141), .inl a0, .inl a1, .inl a2, .inl a3, .inl a4] V Q := by
  show z_Ex (z_MS d) 171 Q true 0 [some (.inr (.inr 141)), some (.inl a0), some (.inl a1), some (.inl a2), some (.inl a3), some (.inl a4)] [] 0 0 V
  refine ze_aload_n (pc := 0) zr_171_0 rfl ?_
  refine ze_iconst (pc := 1) zr_171_1 (by decide) ?_
  refine zq_putI (pc := 2) zr_171_2 (by decide) rfl h (fun W1 h => ?_)
  refine ze_aload_n (pc := 5) zr_171_5 rfl ?_
  refine ze_getfield (pc := 6) (v := .inl (W1 141 8)) zr_171_6 rfl rfl ?_
  refine ze_bipush (pc := 9) zr_171_9 (by decide) ?_
  refine ze_iadd (pc := 11) zr_171_11 ?_
  refine ze_sipush (pc := 12) zr_171_12 (by decide) ?_
  refine zq_icmp_le (pc := 15) (t := 20) zr_171_15 (by decide) (z_toif h) (fun h => ?_) (fun h => ?_)
  · refine ze_iconst (pc := 18) zr_171_18 (by decide) ?_
    exact zq_ret1 (pc := 19) zr_171_19 rfl h
  · refine ze_aload_n (pc := 20) zr_171_20 rfl ?_
    refine ze_iload_n (pc := 21) zr_171_21 rfl ?_
    refine zq_callV0 (pc := 22) (as := [.inr (.inr 141), .inl a0]) (r := []) (kc2 := 0) (ks2 := 0) zr_171_22 rfl (by decide) rfl rfl rfl rfl ⟨rfl, rfl⟩ rfl h (fun z1 V1 h => ?_)
    refine ze_aload_n (pc := 25) zr_171_25 rfl ?_
    refine ze_iload_n (pc := 26) zr_171_26 rfl ?_
    refine zq_callV0 (pc := 27) (as := [.inr (.inr 141), .inl a1]) (r := []) (kc2 := 0) (ks2 := 0) zr_171_27 rfl (by decide) rfl rfl rfl rfl ⟨rfl, rfl⟩ rfl h (fun z2 V2 h => ?_)
    refine ze_aload_n (pc := 30) zr_171_30 rfl ?_
    refine ze_iload_n (pc := 31) zr_171_31 rfl ?_
    refine zq_callV0 (pc := 32) (as := [.inr (.inr 141), .inl a2]) (r := []) (kc2 := 0) (ks2 := 0) zr_171_32 rfl (by decide) rfl rfl rfl rfl ⟨rfl, rfl⟩ rfl h (fun z3 V3 h => ?_)
    refine ze_aload_n (pc := 35) zr_171_35 rfl ?_
    refine ze_iload (pc := 36) zr_171_36 rfl ?_
    refine zq_callV0 (pc := 38) (as := [.inr (.inr 141), .inl a3]) (r := []) (kc2 := 0) (ks2 := 0) zr_171_38 rfl (by decide) rfl rfl rfl rfl ⟨rfl, rfl⟩ rfl h (fun z4 V4 h => ?_)
    refine ze_aload_n (pc := 41) zr_171_41 rfl ?_
    refine ze_iload (pc := 42) zr_171_42 rfl ?_
    refine zq_callV0 (pc := 44) (as := [.inr (.inr 141), .inl a4]) (r := []) (kc2 := 0) (ks2 := 0) zr_171_44 rfl (by decide) rfl rfl rfl rfl ⟨rfl, rfl⟩ rfl h (fun z5 V5 h => ?_)
    refine ze_aload_n (pc := 47) zr_171_47 rfl ?_
    refine ze_getfield (pc := 48) (v := .inl (V5 141 8)) zr_171_48 rfl rfl ?_
    exact zq_ret1 (pc := 51) zr_171_51 rfl h
theorem zb172_141 {d : Nat} {Q : Int → z_M → Prop} (a0 : Int) {V : z_M}
    (h : ∀ W1, W1 = z_up V 141 0 0 → zI (a0 < 0) (Q (-1) W1) (zI ((W1 141 8) < a0) (Q (-1) W1) (∀ W2, W2 = z_up W1 141 8 a0 → Q a0 W2))) :
    z_MS (d + 1) 172 true [.inr (.inr 141), .inl a0] V Q := by
  show z_Ex (z_MS d) 172 Q true 0 [some (.inr (.inr 141)), some (.inl a0)] [] 0 0 V
  refine ze_aload_n (pc := 0) zr_172_0 rfl ?_
  refine ze_iconst (pc := 1) zr_172_1 (by decide) ?_
  refine zq_putI (pc := 2) zr_172_2 (by decide) rfl h (fun W1 h => ?_)
  refine ze_iload_n (pc := 5) zr_172_5 rfl ?_
  refine zq_if_lt (pc := 6) (t := 17) zr_172_6 (by decide) (z_toif h) (fun h => ?_) (fun h => ?_)
  · refine ze_iconst (pc := 17) zr_172_17 (by decide) ?_
    exact zq_ret1 (pc := 18) zr_172_18 rfl h
  · refine ze_iload_n (pc := 9) zr_172_9 rfl ?_
    refine ze_aload_n (pc := 10) zr_172_10 rfl ?_
    refine ze_getfield (pc := 11) (v := .inl (W1 141 8)) zr_172_11 rfl rfl ?_
    refine zq_icmp_le (pc := 14) (t := 19) zr_172_14 (by decide) (z_toif h) (fun h => ?_) (fun h => ?_)
    · refine ze_iconst (pc := 17) zr_172_17 (by decide) ?_
      exact zq_ret1 (pc := 18) zr_172_18 rfl h
    · refine ze_aload_n (pc := 19) zr_172_19 rfl ?_
      refine ze_iload_n (pc := 20) zr_172_20 rfl ?_
      refine zq_putI (pc := 21) zr_172_21 (by decide) rfl h (fun W2 h => ?_)
      refine ze_iload_n (pc := 24) zr_172_24 rfl ?_
      exact zq_ret1 (pc := 25) zr_172_25 rfl h
theorem zb173 {d : Nat} {Q : Int → z_M → Prop} (a0 : Int) {V : z_M}
    (h : Q (if a0 < 97 then 0 else (if 122 < a0 then 0 else 1)) V) :
    z_MS (d + 1) 173 true [.inl a0] V Q := by
  show z_Ex (z_MS d) 173 Q true 0 [some (.inl a0)] [] 0 0 V
  refine ze_iload_n (pc := 0) zr_173_0 rfl ?_
  refine ze_bipush (pc := 1) zr_173_1 (by decide) ?_
  have j3 : z_Ex (z_MS d) 173 Q true 17 [some (.inl a0)] [.inl (if a0 < 97 then 0 else (if 122 < a0 then 0 else 1))] 0 0 V := by
    exact zq_ret4 (pc := 17) zr_173_17 rfl (by (repeat' split) <;> decide) h
  refine ze_icmp_lt (pc := 3) (t := 16) zr_173_3 (by decide) (fun hc => ?_) (fun hc => ?_)
  · rw [if_pos (show a0 < 97 from hc)] at j3
    refine ze_iconst (pc := 16) zr_173_16 (by decide) ?_
    exact j3
  · rw [if_neg (show ¬ (a0 < 97) from hc)] at j3
    refine ze_iload_n (pc := 6) zr_173_6 rfl ?_
    refine ze_bipush (pc := 7) zr_173_7 (by decide) ?_
    refine ze_icmp_gt (pc := 9) (t := 16) zr_173_9 (by decide) (fun hc => ?_) (fun hc => ?_)
    · rw [if_pos (show 122 < a0 from hc)] at j3
      refine ze_iconst (pc := 16) zr_173_16 (by decide) ?_
      exact j3
    · rw [if_neg (show ¬ (122 < a0) from hc)] at j3
      refine ze_iconst (pc := 12) zr_173_12 (by decide) ?_
      refine ze_goto (pc := 13) (t := 17) zr_173_13 (by decide) ?_
      exact j3
theorem zb174 {d : Nat} {Q : Int → z_M → Prop} (a0 : Int) {V : z_M}
    (h : Q (if a0 < 48 then 0 else (if 57 < a0 then 0 else 1)) V) :
    z_MS (d + 1) 174 true [.inl a0] V Q := by
  show z_Ex (z_MS d) 174 Q true 0 [some (.inl a0)] [] 0 0 V
  refine ze_iload_n (pc := 0) zr_174_0 rfl ?_
  refine ze_bipush (pc := 1) zr_174_1 (by decide) ?_
  have j3 : z_Ex (z_MS d) 174 Q true 17 [some (.inl a0)] [.inl (if a0 < 48 then 0 else (if 57 < a0 then 0 else 1))] 0 0 V := by
    exact zq_ret4 (pc := 17) zr_174_17 rfl (by (repeat' split) <;> decide) h
  refine ze_icmp_lt (pc := 3) (t := 16) zr_174_3 (by decide) (fun hc => ?_) (fun hc => ?_)
  · rw [if_pos (show a0 < 48 from hc)] at j3
    refine ze_iconst (pc := 16) zr_174_16 (by decide) ?_
    exact j3
  · rw [if_neg (show ¬ (a0 < 48) from hc)] at j3
    refine ze_iload_n (pc := 6) zr_174_6 rfl ?_
    refine ze_bipush (pc := 7) zr_174_7 (by decide) ?_
    refine ze_icmp_gt (pc := 9) (t := 16) zr_174_9 (by decide) (fun hc => ?_) (fun hc => ?_)
    · rw [if_pos (show 57 < a0 from hc)] at j3
      refine ze_iconst (pc := 16) zr_174_16 (by decide) ?_
      exact j3
    · rw [if_neg (show ¬ (57 < a0) from hc)] at j3
      refine ze_iconst (pc := 12) zr_174_12 (by decide) ?_
      refine ze_goto (pc := 13) (t := 17) zr_174_13 (by decide) ?_
      exact j3
theorem zb175_141 {d : Nat} {Q : Int → z_M → Prop}  {V : z_M}
    (h : ∀ W1, W1 = z_up V 141 10 0 → ∀ W2, W2 = z_up W1 141 14 0 → ∀ W3, W3 = z_up W2 141 13 (-1) → z_MS d 176 true [.inr (.inr 141)] W3 (fun z1 V1 => Q 0 V1)) :
    z_MS (d + 1) 175 true [.inr (.inr 141)] V Q := by
  show z_Ex (z_MS d) 175 Q true 0 [some (.inr (.inr 141))] [] 0 0 V
  refine ze_aload_n (pc := 0) zr_175_0 rfl ?_
  refine ze_iconst (pc := 1) zr_175_1 (by decide) ?_
  refine zq_putI (pc := 2) zr_175_2 (by decide) rfl h (fun W1 h => ?_)
  refine ze_aload_n (pc := 5) zr_175_5 rfl ?_
  refine ze_iconst (pc := 6) zr_175_6 (by decide) ?_
  refine zq_putZ (pc := 7) zr_175_7 (by decide) rfl (by decide) h (fun W2 h => ?_)
  refine ze_aload_n (pc := 10) zr_175_10 rfl ?_
  refine ze_iconst (pc := 11) zr_175_11 (by decide) ?_
  refine zq_putI (pc := 12) zr_175_12 (by decide) rfl h (fun W3 h => ?_)
  refine ze_aload_n (pc := 15) zr_175_15 rfl ?_
  refine zq_callV0 (pc := 16) (as := [.inr (.inr 141)]) (r := []) (kc2 := 0) (ks2 := 0) zr_175_16 rfl (by decide) rfl rfl rfl rfl ⟨rfl, rfl⟩ rfl h (fun z1 V1 h => ?_)
  exact ze_vret (pc := 19) zr_175_19 rfl h
theorem zb176_141 {d : Nat} {Q : Int → z_M → Prop}  {V : z_M}
    (h : ∀ W1, W1 = z_up V 141 9 (V 141 10) → z_Ex (z_MS d) 176 Q true 8 [some (.inr (.inr 141))] [] 0 0 W1) :
    z_MS (d + 1) 176 true [.inr (.inr 141)] V Q := by
  show z_Ex (z_MS d) 176 Q true 0 [some (.inr (.inr 141))] [] 0 0 V
  refine ze_aload_n (pc := 0) zr_176_0 rfl ?_
  refine ze_aload_n (pc := 1) zr_176_1 rfl ?_
  refine ze_getfield (pc := 2) (v := .inl (V 141 10)) zr_176_2 rfl rfl ?_
  refine zq_putI (pc := 5) zr_176_5 (by decide) rfl h (fun W1 h => ?_)
  exact h
theorem zb176_141_p8 {d : Nat} {Q : Int → z_M → Prop}  {V : z_M}
    (h : zI ((V 141 9) < (V 141 8)) (zGu (0 ≤ (V 141 9) ∧ (V 141 9) < 400) (∀ x27 : Int, x27 = V 146 (V 141 9).toNat → zI (x27 = 32) (∀ W901, W901 = z_up V 141 9 (z_add (V 141 9) 1) → z_Ex (z_MS d) 176 Q true 8 [some (.inr (.inr 141))] [] 0 0 W901) (z_Ex (z_MS d) 176 Q true 46 [some (.inr (.inr 141))] [] 0 0 V))) (z_Ex (z_MS d) 176 Q true 46 [some (.inr (.inr 141))] [] 0 0 V)) :
    z_Ex (z_MS d) 176 Q true 8 [some (.inr (.inr 141))] [] 0 0 V := by
  refine ze_aload_n (pc := 8) zr_176_8 rfl ?_
  refine ze_getfield (pc := 9) (v := .inl (V 141 9)) zr_176_9 rfl rfl ?_
  refine ze_aload_n (pc := 12) zr_176_12 rfl ?_
  refine ze_getfield (pc := 13) (v := .inl (V 141 8)) zr_176_13 rfl rfl ?_
  refine zq_icmp_ge (pc := 16) (t := 46) zr_176_16 (by decide) (z_toif h) (fun h => ?_) (fun h => ?_)
  · refine ze_aload_n (pc := 19) zr_176_19 rfl ?_
    refine ze_getfield (pc := 20) (v := .inr (.inr 146)) zr_176_20 rfl rfl ?_
    refine ze_aload_n (pc := 23) zr_176_23 rfl ?_
    refine ze_getfield (pc := 24) (v := .inl (V 141 9)) zr_176_24 rfl rfl ?_
    refine z_gk h (fun g27 h => ?_)
    refine zl_iaload (pc := 27) zr_176_27 rfl rfl g27 h (fun x27 h => ?_)
    refine ze_bipush (pc := 28) zr_176_28 (by decide) ?_
    refine zq_icmp_ne (pc := 30) (t := 46) zr_176_30 (by decide) (z_toif h) (fun h => ?_) (fun h => ?_)
    · refine ze_aload_n (pc := 33) zr_176_33 rfl ?_
      refine ze_dup (pc := 34) zr_176_34 rfl ?_
      refine ze_getfield (pc := 35) (v := .inl (V 141 9)) zr_176_35 rfl rfl ?_
      refine ze_iconst (pc := 38) zr_176_38 (by decide) ?_
      refine ze_iadd (pc := 39) zr_176_39 ?_
      refine zq_putI (pc := 40) zr_176_40 (by decide) rfl h (fun W901 h => ?_)
      refine ze_goto (pc := 43) (t := 8) zr_176_43 (by decide) ?_
      exact h
    · exact h
  · exact h
theorem zb176_141_p46 {d : Nat} {Q : Int → z_M → Prop}  {V : z_M}
    (h : ∀ W4701, W4701 = z_up V 141 10 (V 141 9) → ∀ W4702, W4702 = z_up W4701 141 12 0 → zI ((W4702 141 9) = (W4702 141 8)) (z_Ex (z_MS d) 176 Q true 114 [some (.inr (.inr 141))] [.inl 0, .inr (.inr 141)] 0 0 W4702) (zGu (0 ≤ (W4702 141 9) ∧ (W4702 141 9) < 400) (∀ x83 : Int, x83 = W4702 146 (W4702 141 9).toNat → z_MS d 173 true [.inl x83] W4702 (fun z4701 V4701 => zI (z4701 = 0) (zGu (0 ≤ (V4701 141 9) ∧ (V4701 141 9) < 400) (∀ x102 : Int, x102 = V4701 146 (V4701 141 9).toNat → z_MS d 174 true [.inl x102] V4701 (fun z4702 V4702 => z_Ex (z_MS d) 176 Q true 114 [some (.inr (.inr 141))] [.inl (if z4702 = 0 then 3 else 2), .inr (.inr 141)] 0 0 V4702))) (z_Ex (z_MS d) 176 Q true 114 [some (.inr (.inr 141))] [.inl 1, .inr (.inr 141)] 0 0 V4701))))) :
    z_Ex (z_MS d) 176 Q true 46 [some (.inr (.inr 141))] [] 0 0 V := by
  refine ze_aload_n (pc := 46) zr_176_46 rfl ?_
  refine ze_aload_n (pc := 47) zr_176_47 rfl ?_
  refine ze_getfield (pc := 48) (v := .inl (V 141 9)) zr_176_48 rfl rfl ?_
  refine zq_putI (pc := 51) zr_176_51 (by decide) rfl h (fun W4701 h => ?_)
  refine ze_aload_n (pc := 54) zr_176_54 rfl ?_
  refine ze_lconst (pc := 55) zr_176_55 ?_
  refine zq_putL (pc := 56) zr_176_56 (by decide) rfl h (fun W4702 h => ?_)
  refine ze_aload_n (pc := 59) zr_176_59 rfl ?_
  refine ze_aload_n (pc := 60) zr_176_60 rfl ?_
  refine ze_getfield (pc := 61) (v := .inl (W4702 141 9)) zr_176_61 rfl rfl ?_
  refine ze_aload_n (pc := 64) zr_176_64 rfl ?_
  refine ze_getfield (pc := 65) (v := .inl (W4702 141 8)) zr_176_65 rfl rfl ?_
  refine zq_icmp_ne (pc := 68) (t := 75) zr_176_68 (by decide) (z_toif h) (fun h => ?_) (fun h => ?_)
  · refine ze_iconst (pc := 71) zr_176_71 (by decide) ?_
    refine ze_goto (pc := 72) (t := 114) zr_176_72 (by decide) ?_
    exact h
  · refine ze_aload_n (pc := 75) zr_176_75 rfl ?_
    refine ze_getfield (pc := 76) (v := .inr (.inr 146)) zr_176_76 rfl rfl ?_
    refine ze_aload_n (pc := 79) zr_176_79 rfl ?_
    refine ze_getfield (pc := 80) (v := .inl (W4702 141 9)) zr_176_80 rfl rfl ?_
    refine z_gk h (fun g83 h => ?_)
    refine zl_iaload (pc := 83) zr_176_83 rfl rfl g83 h (fun x83 h => ?_)
    refine zq_callS1 (pc := 84) (as := [.inl x83]) (r := [.inr (.inr 141)]) (kc2 := 0) (ks2 := 0) zr_176_84 rfl rfl rfl rfl ⟨rfl, rfl⟩ ⟨rfl, rfl, rfl⟩ h (fun z4701 V4701 h => ?_)
    refine zq_if_eq (pc := 87) (t := 94) zr_176_87 (by decide) (z_toif h) (fun h => ?_) (fun h => ?_)
    · refine ze_aload_n (pc := 94) zr_176_94 rfl ?_
      refine ze_getfield (pc := 95) (v := .inr (.inr 146)) zr_176_95 rfl rfl ?_
      refine ze_aload_n (pc := 98) zr_176_98 rfl ?_
      refine ze_getfield (pc := 99) (v := .inl (V4701 141 9)) zr_176_99 rfl rfl ?_
      refine z_gk h (fun g102 h => ?_)
      refine zl_iaload (pc := 102) zr_176_102 rfl rfl g102 h (fun x102 h => ?_)
      refine zq_callS1 (pc := 103) (as := [.inl x102]) (r := [.inr (.inr 141)]) (kc2 := 0) (ks2 := 0) zr_176_103 rfl rfl rfl rfl ⟨rfl, rfl⟩ ⟨rfl, rfl, rfl⟩ h (fun z4702 V4702 h => ?_)
      have j106 : z_Ex (z_MS d) 176 Q true 114 [some (.inr (.inr 141))] [.inl (if z4702 = 0 then 3 else 2), .inr (.inr 141)] 0 0 V4702 := by
        exact h
      refine ze_if_eq (pc := 106) (t := 113) zr_176_106 (by decide) (fun hc => ?_) (fun hc => ?_)
      · rw [if_pos (show z4702 = 0 from hc)] at j106
        refine ze_iconst (pc := 113) zr_176_113 (by decide) ?_
        exact j106
      · rw [if_neg (show ¬ (z4702 = 0) from hc)] at j106
        refine ze_iconst (pc := 109) zr_176_109 (by decide) ?_
        refine ze_goto (pc := 110) (t := 114) zr_176_110 (by decide) ?_
        exact j106
    · refine ze_iconst (pc := 90) zr_176_90 (by decide) ?_
      refine ze_goto (pc := 91) (t := 114) zr_176_91 (by decide) ?_
      exact h
theorem zb176_141_p114 {d : Nat} {Q : Int → z_M → Prop} (s1 : Int) {V : z_M}
    (h : ∀ W11501, W11501 = z_up V 141 11 s1 → zI ((W11501 141 11) = 3) (zGu (0 ≤ (W11501 141 9) ∧ (W11501 141 9) < 400) (∀ x134 : Int, x134 = W11501 146 (W11501 141 9).toNat → ∀ W11502, W11502 = z_up W11501 141 12 x134 → ∀ W11503, W11503 = z_up W11502 141 10 (z_add (W11502 141 10) 1) → z_Ex (z_MS d) 176 Q true 149 [some (.inr (.inr 141))] [] 0 0 W11503)) (z_Ex (z_MS d) 176 Q true 149 [some (.inr (.inr 141))] [] 0 0 W11501)) :
    z_Ex (z_MS d) 176 Q true 114 [some (.inr (.inr 141))] [.inl s1, .inr (.inr 141)] 0 0 V := by
  refine zq_putI (pc := 114) zr_176_114 (by decide) rfl h (fun W11501 h => ?_)
  refine ze_aload_n (pc := 117) zr_176_117 rfl ?_
  refine ze_getfield (pc := 118) (v := .inl (W11501 141 11)) zr_176_118 rfl rfl ?_
  refine ze_iconst (pc := 121) zr_176_121 (by decide) ?_
  refine zq_icmp_ne (pc := 122) (t := 149) zr_176_122 (by decide) (z_toif h) (fun h => ?_) (fun h => ?_)
  · refine ze_aload_n (pc := 125) zr_176_125 rfl ?_
    refine ze_aload_n (pc := 126) zr_176_126 rfl ?_
    refine ze_getfield (pc := 127) (v := .inr (.inr 146)) zr_176_127 rfl rfl ?_
    refine ze_aload_n (pc := 130) zr_176_130 rfl ?_
    refine ze_getfield (pc := 131) (v := .inl (W11501 141 9)) zr_176_131 rfl rfl ?_
    refine z_gk h (fun g134 h => ?_)
    refine zl_iaload (pc := 134) zr_176_134 rfl rfl g134 h (fun x134 h => ?_)
    refine ze_i2l (pc := 135) zr_176_135 ?_
    refine zq_putL (pc := 136) zr_176_136 (by decide) rfl h (fun W11502 h => ?_)
    refine ze_aload_n (pc := 139) zr_176_139 rfl ?_
    refine ze_dup (pc := 140) zr_176_140 rfl ?_
    refine ze_getfield (pc := 141) (v := .inl (W11502 141 10)) zr_176_141 rfl rfl ?_
    refine ze_iconst (pc := 144) zr_176_144 (by decide) ?_
    refine ze_iadd (pc := 145) zr_176_145 ?_
    refine zq_putI (pc := 146) zr_176_146 (by decide) rfl h (fun W11503 h => ?_)
    exact h
  · exact h
theorem zb176_141_p149 {d : Nat} {Q : Int → z_M → Prop}  {V : z_M}
    (h : zI ((V 141 11) = 1) (zI ((V 141 10) < (V 141 8)) (zGu (0 ≤ (V 141 10) ∧ (V 141 10) < 400) (∀ x176 : Int, x176 = V 146 (V 141 10).toNat → z_MS d 173 true [.inl x176] V (fun z15001 V15001 => zI (z15001 = 0) (z_Ex (z_MS d) 176 Q true 243 [some (.inr (.inr 141))] [] 0 0 V15001) (zI ((z_sub (V15001 141 10) (V15001 141 9)) < 10) (zGu (0 ≤ (V15001 141 10) ∧ (V15001 141 10) < 400) (∀ x214 : Int, x214 = V15001 146 (V15001 141 10).toNat → ∀ W15003, W15003 = z_up V15001 141 12 (z_lsub (z_ladd (z_lmul (V15001 141 12) 32) x214) 96) → ∀ W15004, W15004 = z_up W15003 141 10 (z_add (W15003 141 10) 1) → z_Ex (z_MS d) 176 Q true 149 [some (.inr (.inr 141))] [] 0 0 W15004)) (∀ W15001, W15001 = z_up V15001 141 12 (-1) → ∀ W15002, W15002 = z_up W15001 141 10 (z_add (W15001 141 10) 1) → z_Ex (z_MS d) 176 Q true 149 [some (.inr (.inr 141))] [] 0 0 W15002))))) (z_Ex (z_MS d) 176 Q true 243 [some (.inr (.inr 141))] [] 0 0 V)) (z_Ex (z_MS d) 176 Q true 243 [some (.inr (.inr 141))] [] 0 0 V)) :
    z_Ex (z_MS d) 176 Q true 149 [some (.inr (.inr 141))] [] 0 0 V := by
  refine ze_aload_n (pc := 149) zr_176_149 rfl ?_
  refine ze_getfield (pc := 150) (v := .inl (V 141 11)) zr_176_150 rfl rfl ?_
  refine ze_iconst (pc := 153) zr_176_153 (by decide) ?_
  refine zq_icmp_ne (pc := 154) (t := 243) zr_176_154 (by decide) (z_toif h) (fun h => ?_) (fun h => ?_)
  · refine ze_aload_n (pc := 157) zr_176_157 rfl ?_
    refine ze_getfield (pc := 158) (v := .inl (V 141 10)) zr_176_158 rfl rfl ?_
    refine ze_aload_n (pc := 161) zr_176_161 rfl ?_
    refine ze_getfield (pc := 162) (v := .inl (V 141 8)) zr_176_162 rfl rfl ?_
    refine zq_icmp_ge (pc := 165) (t := 243) zr_176_165 (by decide) (z_toif h) (fun h => ?_) (fun h => ?_)
    · refine ze_aload_n (pc := 168) zr_176_168 rfl ?_
      refine ze_getfield (pc := 169) (v := .inr (.inr 146)) zr_176_169 rfl rfl ?_
      refine ze_aload_n (pc := 172) zr_176_172 rfl ?_
      refine ze_getfield (pc := 173) (v := .inl (V 141 10)) zr_176_173 rfl rfl ?_
      refine z_gk h (fun g176 h => ?_)
      refine zl_iaload (pc := 176) zr_176_176 rfl rfl g176 h (fun x176 h => ?_)
      refine zq_callS1 (pc := 177) (as := [.inl x176]) (r := []) (kc2 := 0) (ks2 := 0) zr_176_177 rfl rfl rfl rfl ⟨rfl, rfl⟩ ⟨rfl, rfl, rfl⟩ h (fun z15001 V15001 h => ?_)
      refine zq_if_eq (pc := 180) (t := 243) zr_176_180 (by decide) (z_toif h) (fun h => ?_) (fun h => ?_)
      · exact h
      · refine ze_aload_n (pc := 183) zr_176_183 rfl ?_
        refine ze_aload_n (pc := 184) zr_176_184 rfl ?_
        refine ze_getfield (pc := 185) (v := .inl (V15001 141 10)) zr_176_185 rfl rfl ?_
        refine ze_aload_n (pc := 188) zr_176_188 rfl ?_
        refine ze_getfield (pc := 189) (v := .inl (V15001 141 9)) zr_176_189 rfl rfl ?_
        refine ze_isub (pc := 192) zr_176_192 ?_
        refine ze_bipush (pc := 193) zr_176_193 (by decide) ?_
        refine zq_icmp_ge (pc := 195) (t := 224) zr_176_195 (by decide) (z_toif h) (fun h => ?_) (fun h => ?_)
        · refine ze_aload_n (pc := 198) zr_176_198 rfl ?_
          refine ze_getfield (pc := 199) (v := .inr (.inl (V15001 141 12))) zr_176_199 rfl rfl ?_
          refine ze_ldc2 (pc := 202) (z := 32) zr_176_202 (by decide) rfl ?_
          refine ze_lmul (pc := 205) zr_176_205 ?_
          refine ze_aload_n (pc := 206) zr_176_206 rfl ?_
          refine ze_getfield (pc := 207) (v := .inr (.inr 146)) zr_176_207 rfl rfl ?_
          refine ze_aload_n (pc := 210) zr_176_210 rfl ?_
          refine ze_getfield (pc := 211) (v := .inl (V15001 141 10)) zr_176_211 rfl rfl ?_
          refine z_gk h (fun g214 h => ?_)
          refine zl_iaload (pc := 214) zr_176_214 rfl rfl g214 h (fun x214 h => ?_)
          refine ze_i2l (pc := 215) zr_176_215 ?_
          refine ze_ladd (pc := 216) zr_176_216 ?_
          refine ze_ldc2 (pc := 217) (z := 96) zr_176_217 (by decide) rfl ?_
          refine ze_lsub (pc := 220) zr_176_220 ?_
          refine ze_goto (pc := 221) (t := 227) zr_176_221 (by decide) ?_
          refine zq_putL (pc := 227) zr_176_227 (by decide) rfl h (fun W15003 h => ?_)
          refine ze_aload_n (pc := 230) zr_176_230 rfl ?_
          refine ze_dup (pc := 231) zr_176_231 rfl ?_
          refine ze_getfield (pc := 232) (v := .inl (W15003 141 10)) zr_176_232 rfl rfl ?_
          refine ze_iconst (pc := 235) zr_176_235 (by decide) ?_
          refine ze_iadd (pc := 236) zr_176_236 ?_
          refine zq_putI (pc := 237) zr_176_237 (by decide) rfl h (fun W15004 h => ?_)
          refine ze_goto (pc := 240) (t := 149) zr_176_240 (by decide) ?_
          exact h
        · refine ze_ldc2 (pc := 224) (z := (-1)) zr_176_224 (by decide) rfl ?_
          refine zq_putL (pc := 227) zr_176_227 (by decide) rfl h (fun W15001 h => ?_)
          refine ze_aload_n (pc := 230) zr_176_230 rfl ?_
          refine ze_dup (pc := 231) zr_176_231 rfl ?_
          refine ze_getfield (pc := 232) (v := .inl (W15001 141 10)) zr_176_232 rfl rfl ?_
          refine ze_iconst (pc := 235) zr_176_235 (by decide) ?_
          refine ze_iadd (pc := 236) zr_176_236 ?_
          refine zq_putI (pc := 237) zr_176_237 (by decide) rfl h (fun W15002 h => ?_)
          refine ze_goto (pc := 240) (t := 149) zr_176_240 (by decide) ?_
          exact h
    · exact h
  · exact h
theorem zb176_141_p243 {d : Nat} {Q : Int → z_M → Prop}  {V : z_M}
    (h : zI ((V 141 11) = 2) (zI ((V 141 10) < (V 141 8)) (zGu (0 ≤ (V 141 10) ∧ (V 141 10) < 400) (∀ x270 : Int, x270 = V 146 (V 141 10).toNat → z_MS d 174 true [.inl x270] V (fun z24401 V24401 => zI (z24401 = 0) (Q 0 V24401) (zI (0 < (z_lcmp (V24401 141 12) 1000000)) (∀ W24403, W24403 = z_up V24401 141 12 (V24401 141 12) → ∀ W24404, W24404 = z_up W24403 141 10 (z_add (W24403 141 10) 1) → z_Ex (z_MS d) 176 Q true 243 [some (.inr (.inr 141))] [] 0 0 W24404) (zGu (0 ≤ (V24401 141 10) ∧ (V24401 141 10) < 400) (∀ x312 : Int, x312 = V24401 146 (V24401 141 10).toNat → ∀ W24401, W24401 = z_up V24401 141 12 (z_lsub (z_ladd (z_lmul (V24401 141 12) 10) x312) 48) → ∀ W24402, W24402 = z_up W24401 141 10 (z_add (W24401 141 10) 1) → z_Ex (z_MS d) 176 Q true 243 [some (.inr (.inr 141))] [] 0 0 W24402)))))) (Q 0 V)) (Q 0 V)) :
    z_Ex (z_MS d) 176 Q true 243 [some (.inr (.inr 141))] [] 0 0 V := by
  refine ze_aload_n (pc := 243) zr_176_243 rfl ?_
  refine ze_getfield (pc := 244) (v := .inl (V 141 11)) zr_176_244 rfl rfl ?_
  refine ze_iconst (pc := 247) zr_176_247 (by decide) ?_
  refine zq_icmp_ne (pc := 248) (t := 335) zr_176_248 (by decide) (z_toif h) (fun h => ?_) (fun h => ?_)
  · refine ze_aload_n (pc := 251) zr_176_251 rfl ?_
    refine ze_getfield (pc := 252) (v := .inl (V 141 10)) zr_176_252 rfl rfl ?_
    refine ze_aload_n (pc := 255) zr_176_255 rfl ?_
    refine ze_getfield (pc := 256) (v := .inl (V 141 8)) zr_176_256 rfl rfl ?_
    refine zq_icmp_ge (pc := 259) (t := 335) zr_176_259 (by decide) (z_toif h) (fun h => ?_) (fun h => ?_)
    · refine ze_aload_n (pc := 262) zr_176_262 rfl ?_
      refine ze_getfield (pc := 263) (v := .inr (.inr 146)) zr_176_263 rfl rfl ?_
      refine ze_aload_n (pc := 266) zr_176_266 rfl ?_
      refine ze_getfield (pc := 267) (v := .inl (V 141 10)) zr_176_267 rfl rfl ?_
      refine z_gk h (fun g270 h => ?_)
      refine zl_iaload (pc := 270) zr_176_270 rfl rfl g270 h (fun x270 h => ?_)
      refine zq_callS1 (pc := 271) (as := [.inl x270]) (r := []) (kc2 := 0) (ks2 := 0) zr_176_271 rfl rfl rfl rfl ⟨rfl, rfl⟩ ⟨rfl, rfl, rfl⟩ h (fun z24401 V24401 h => ?_)
      refine zq_if_eq (pc := 274) (t := 335) zr_176_274 (by decide) (z_toif h) (fun h => ?_) (fun h => ?_)
      · exact ze_vret (pc := 335) zr_176_335 rfl h
      · refine ze_aload_n (pc := 277) zr_176_277 rfl ?_
        refine ze_aload_n (pc := 278) zr_176_278 rfl ?_
        refine ze_getfield (pc := 279) (v := .inr (.inl (V24401 141 12))) zr_176_279 rfl rfl ?_
        refine ze_ldc2 (pc := 282) (z := 1000000) zr_176_282 (by decide) rfl ?_
        refine ze_lcmp (pc := 285) zr_176_285 ?_
        refine zq_if_le (pc := 286) (t := 296) zr_176_286 (by decide) (z_toif h) (fun h => ?_) (fun h => ?_)
        · refine ze_aload_n (pc := 289) zr_176_289 rfl ?_
          refine ze_getfield (pc := 290) (v := .inr (.inl (V24401 141 12))) zr_176_290 rfl rfl ?_
          refine ze_goto (pc := 293) (t := 319) zr_176_293 (by decide) ?_
          refine zq_putL (pc := 319) zr_176_319 (by decide) rfl h (fun W24403 h => ?_)
          refine ze_aload_n (pc := 322) zr_176_322 rfl ?_
          refine ze_dup (pc := 323) zr_176_323 rfl ?_
          refine ze_getfield (pc := 324) (v := .inl (W24403 141 10)) zr_176_324 rfl rfl ?_
          refine ze_iconst (pc := 327) zr_176_327 (by decide) ?_
          refine ze_iadd (pc := 328) zr_176_328 ?_
          refine zq_putI (pc := 329) zr_176_329 (by decide) rfl h (fun W24404 h => ?_)
          refine ze_goto (pc := 332) (t := 243) zr_176_332 (by decide) ?_
          exact h
        · refine ze_aload_n (pc := 296) zr_176_296 rfl ?_
          refine ze_getfield (pc := 297) (v := .inr (.inl (V24401 141 12))) zr_176_297 rfl rfl ?_
          refine ze_ldc2 (pc := 300) (z := 10) zr_176_300 (by decide) rfl ?_
          refine ze_lmul (pc := 303) zr_176_303 ?_
          refine ze_aload_n (pc := 304) zr_176_304 rfl ?_
          refine ze_getfield (pc := 305) (v := .inr (.inr 146)) zr_176_305 rfl rfl ?_
          refine ze_aload_n (pc := 308) zr_176_308 rfl ?_
          refine ze_getfield (pc := 309) (v := .inl (V24401 141 10)) zr_176_309 rfl rfl ?_
          refine z_gk h (fun g312 h => ?_)
          refine zl_iaload (pc := 312) zr_176_312 rfl rfl g312 h (fun x312 h => ?_)
          refine ze_i2l (pc := 313) zr_176_313 ?_
          refine ze_ladd (pc := 314) zr_176_314 ?_
          refine ze_ldc2 (pc := 315) (z := 48) zr_176_315 (by decide) rfl ?_
          refine ze_lsub (pc := 318) zr_176_318 ?_
          refine zq_putL (pc := 319) zr_176_319 (by decide) rfl h (fun W24401 h => ?_)
          refine ze_aload_n (pc := 322) zr_176_322 rfl ?_
          refine ze_dup (pc := 323) zr_176_323 rfl ?_
          refine ze_getfield (pc := 324) (v := .inl (W24401 141 10)) zr_176_324 rfl rfl ?_
          refine ze_iconst (pc := 327) zr_176_327 (by decide) ?_
          refine ze_iadd (pc := 328) zr_176_328 ?_
          refine zq_putI (pc := 329) zr_176_329 (by decide) rfl h (fun W24402 h => ?_)
          refine ze_goto (pc := 332) (t := 243) zr_176_332 (by decide) ?_
          exact h
    · exact ze_vret (pc := 335) zr_176_335 rfl h
  · exact ze_vret (pc := 335) zr_176_335 rfl h
