/-! blocks of rows: printed by a program (blk2.py) -/
theorem zb57_97 {d : Nat} {Q : Int → z_M → Prop} (a0 : Int) (a1 : Int) {V : z_M}
    (h : z_Ex (z_MS d) 57 Q true 4 [some (.inr (.inr 97)), some (.inl a0), some (.inl a1), some (.inl (z_sub a1 1)), none, none] [] 0 0 V) :
    z_MS (d + 1) 57 true [.inr (.inr 97), .inl a0, .inl a1] V Q := by
  show z_Ex (z_MS d) 57 Q true 0 [some (.inr (.inr 97)), some (.inl a0), some (.inl a1), none, none, none] [] 0 0 V
  refine ze_iload_n (pc := 0) zr_57_0 rfl ?_
  refine ze_iconst (pc := 1) zr_57_1 (by decide) ?_
  refine ze_isub (pc := 2) zr_57_2 ?_
  refine zq_istore_n (pc := 3) (ls2 := [some (.inr (.inr 97)), some (.inl a0), some (.inl a1), some (.inl (z_sub a1 1)), none, none]) zr_57_3 rfl rfl ?_
  exact h
theorem zb57_97_p4 {d : Nat} {Q : Int → z_M → Prop} (l1 : Int) (o2 : Option z_V) (l3 : Int) (o4 : Option z_V) (o5 : Option z_V) {V : z_M}
    (h : zI (0 < l3) (z_Ex (z_MS d) 57 Q true 14 [some (.inr (.inr 97)), some (.inl l1), o2, some (.inl l3), some (.inl 0), some (.inl 0)] [] 0 0 V) (Q 0 V)) :
    z_Ex (z_MS d) 57 Q true 4 [some (.inr (.inr 97)), some (.inl l1), o2, some (.inl l3), o4, o5] [] 0 0 V := by
  refine ze_iload_n (pc := 4) zr_57_4 rfl ?_
  refine zq_if_le (pc := 5) (t := 87) zr_57_5 (by decide) (z_toif h) (fun h => ?_) (fun h => ?_)
  · refine ze_iconst (pc := 8) zr_57_8 (by decide) ?_
    refine zq_istore (pc := 9) (ls2 := [some (.inr (.inr 97)), some (.inl l1), o2, some (.inl l3), some (.inl 0), o5]) zr_57_9 rfl rfl ?_
    refine ze_iconst (pc := 11) zr_57_11 (by decide) ?_
    refine zq_istore (pc := 12) (ls2 := [some (.inr (.inr 97)), some (.inl l1), o2, some (.inl l3), some (.inl 0), some (.inl 0)]) zr_57_12 rfl rfl ?_
    exact h
  · exact ze_vret (pc := 87) zr_57_87 rfl h
theorem zb57_97_p14 {d : Nat} {Q : Int → z_M → Prop} (l1 : Int) (o2 : Option z_V) (l3 : Int) (l4 : Int) (l5 : Int) {V : z_M}
    (h : zI ((V 97 8) < l5) (zGu (0 ≤ l3 ∧ l3 < 13) (∀ W1501, W1501 = z_up V 114 l3.toNat l4 → z_Ex (z_MS d) 57 Q true 4 [some (.inr (.inr 97)), some (.inl l1), (cond (z_o2 o2) none o2), some (.inl (z_add l3 (-1))), some (.inl l4), some (.inl l5)] [] 0 0 W1501)) (zGu (0 ≤ l3 ∧ l3 < 13) (∀ x28 : Int, x28 = V 114 l3.toNat → zI ((z_and (z_shr x28 l5) 1) = 0) (z_Ex (z_MS d) 57 Q true 14 [some (.inr (.inr 97)), some (.inl l1), o2, some (.inl l3), some (.inl l4), some (.inl (z_add l5 1))] [] 0 0 V) (zGu (0 ≤ l1 ∧ l1 < 6) (∀ x42 : Nat, x42 = z_rr true V 100 l1.toNat → zGu (z_kd x42 = 101) (zGu (0 ≤ l5 ∧ l5 < z_len' V x42) (∀ x45 : Int, x45 = V x42 l5.toNat → zGu (0 ≤ (z_add l3 1) ∧ (z_add l3 1) < 13) (∀ x53 : Int, x53 = V 114 (z_add l3 1).toNat → zI ((z_and x45 x53) = 0) (z_Ex (z_MS d) 57 Q true 14 [some (.inr (.inr 97)), some (.inl l1), o2, some (.inl l3), some (.inl l4), some (.inl (z_add l5 1))] [] 0 0 V) (z_Ex (z_MS d) 57 Q true 14 [some (.inr (.inr 97)), some (.inl l1), o2, some (.inl l3), some (.inl (z_or l4 (z_shl 1 l5))), some (.inl (z_add l5 1))] [] 0 0 V))))))))) :
    z_Ex (z_MS d) 57 Q true 14 [some (.inr (.inr 97)), some (.inl l1), o2, some (.inl l3), some (.inl l4), some (.inl l5)] [] 0 0 V := by
  refine ze_iload (pc := 14) zr_57_14 rfl ?_
  refine ze_aload_n (pc := 16) zr_57_16 rfl ?_
  refine ze_getfield (pc := 17) (v := .inl (V 97 8)) zr_57_17 rfl rfl ?_
  refine zq_icmp_gt (pc := 20) (t := 73) zr_57_20 (by decide) (z_toif h) (fun h => ?_) (fun h => ?_)
  · refine ze_aload_n (pc := 73) zr_57_73 rfl ?_
    refine ze_getfield (pc := 74) (v := .inr (.inr 114)) zr_57_74 rfl rfl ?_
    refine ze_iload_n (pc := 77) zr_57_77 rfl ?_
    refine ze_iload (pc := 78) zr_57_78 rfl ?_
    refine z_gk h (fun g80 h => ?_)
    refine zq_iastore (pc := 80) zr_57_80 (by decide) rfl g80 rfl h (fun W1501 h => ?_)
    refine zq_iinc (pc := 81) (ls2 := [some (.inr (.inr 97)), some (.inl l1), (cond (z_o2 o2) none o2), some (.inl (z_add l3 (-1))), some (.inl l4), some (.inl l5)]) zr_57_81 rfl rfl rfl ?_
    refine ze_goto (pc := 84) (t := 4) zr_57_84 (by decide) ?_
    exact h
  · refine ze_aload_n (pc := 23) zr_57_23 rfl ?_
    refine ze_getfield (pc := 24) (v := .inr (.inr 114)) zr_57_24 rfl rfl ?_
    refine ze_iload_n (pc := 27) zr_57_27 rfl ?_
    refine z_gk h (fun g28 h => ?_)
    refine zl_iaload (pc := 28) zr_57_28 rfl rfl g28 h (fun x28 h => ?_)
    refine ze_iload (pc := 29) zr_57_29 rfl ?_
    refine ze_ishr (pc := 31) zr_57_31 ?_
    refine ze_iconst (pc := 32) zr_57_32 (by decide) ?_
    refine ze_iand (pc := 33) zr_57_33 ?_
    refine zq_if_eq (pc := 34) (t := 67) zr_57_34 (by decide) (z_toif h) (fun h => ?_) (fun h => ?_)
    · refine zq_iinc (pc := 67) (ls2 := [some (.inr (.inr 97)), some (.inl l1), o2, some (.inl l3), some (.inl l4), some (.inl (z_add l5 1))]) zr_57_67 rfl rfl rfl ?_
      refine ze_goto (pc := 70) (t := 14) zr_57_70 (by decide) ?_
      exact h
    · refine ze_aload_n (pc := 37) zr_57_37 rfl ?_
      refine ze_getfield (pc := 38) (v := .inr (.inr 100)) zr_57_38 rfl rfl ?_
      refine ze_iload_n (pc := 41) zr_57_41 rfl ?_
      refine z_gk h (fun g42 h => ?_)
      refine zl_aaload (pc := 42) zr_57_42 (by decide) rfl g42 h (fun x42 h => ?_)
      refine ze_iload (pc := 43) zr_57_43 rfl ?_
      refine z_gk h (fun k45 h => ?_)
      refine z_gk h (fun g45 h => ?_)
      refine zl_ialoadv (pc := 45) zr_57_45 k45 g45 h (fun x45 h => ?_)
      refine ze_aload_n (pc := 46) zr_57_46 rfl ?_
      refine ze_getfield (pc := 47) (v := .inr (.inr 114)) zr_57_47 rfl rfl ?_
      refine ze_iload_n (pc := 50) zr_57_50 rfl ?_
      refine ze_iconst (pc := 51) zr_57_51 (by decide) ?_
      refine ze_iadd (pc := 52) zr_57_52 ?_
      refine z_gk h (fun g53 h => ?_)
      refine zl_iaload (pc := 53) zr_57_53 rfl rfl g53 h (fun x53 h => ?_)
      refine ze_iand (pc := 54) zr_57_54 ?_
      refine zq_if_eq (pc := 55) (t := 67) zr_57_55 (by decide) (z_toif h) (fun h => ?_) (fun h => ?_)
      · refine zq_iinc (pc := 67) (ls2 := [some (.inr (.inr 97)), some (.inl l1), o2, some (.inl l3), some (.inl l4), some (.inl (z_add l5 1))]) zr_57_67 rfl rfl rfl ?_
        refine ze_goto (pc := 70) (t := 14) zr_57_70 (by decide) ?_
        exact h
      · refine ze_iload (pc := 58) zr_57_58 rfl ?_
        refine ze_iconst (pc := 60) zr_57_60 (by decide) ?_
        refine ze_iload (pc := 61) zr_57_61 rfl ?_
        refine ze_ishl (pc := 63) zr_57_63 ?_
        refine ze_ior (pc := 64) zr_57_64 ?_
        refine zq_istore (pc := 65) (ls2 := [some (.inr (.inr 97)), some (.inl l1), o2, some (.inl l3), some (.inl (z_or l4 (z_shl 1 l5))), some (.inl l5)]) zr_57_65 rfl rfl ?_
        refine zq_iinc (pc := 67) (ls2 := [some (.inr (.inr 97)), some (.inl l1), o2, some (.inl l3), some (.inl (z_or l4 (z_shl 1 l5))), some (.inl (z_add l5 1))]) zr_57_67 rfl rfl rfl ?_
        refine ze_goto (pc := 70) (t := 14) zr_57_70 (by decide) ?_
        exact h
theorem zb58_97 {d : Nat} {Q : Int → z_M → Prop} (a0 : Int) {V : z_M}
    (h : zI ((V 97 8) = 0) (zI ((-1 : Int) = (-1)) (Q (-1) V) (z_Ex (z_MS d) 58 Q true 33 [some (.inr (.inr 97)), some (.inl a0), some (.inl (-1)), some (.inl 0), some (.inl 0)] [] 0 0 V)) (z_MS d 56 true [.inr (.inr 97), .inl a0, .inl (V 97 8)] V (fun z1 V1 => zI (z1 = (-1)) (Q (-1) V1) (z_Ex (z_MS d) 58 Q true 33 [some (.inr (.inr 97)), some (.inl a0), some (.inl z1), some (.inl 0), some (.inl 0)] [] 0 0 V1)))) :
    z_MS (d + 1) 58 true [.inr (.inr 97), .inl a0] V Q := by
  show z_Ex (z_MS d) 58 Q true 0 [some (.inr (.inr 97)), some (.inl a0), none, none, none] [] 0 0 V
  refine ze_aload_n (pc := 0) zr_58_0 rfl ?_
  refine ze_getfield (pc := 1) (v := .inl (V 97 8)) zr_58_1 rfl rfl ?_
  refine zq_if_ne (pc := 4) (t := 11) zr_58_4 (by decide) (z_toif h) (fun h => ?_) (fun h => ?_)
  · refine ze_iconst (pc := 7) zr_58_7 (by decide) ?_
    refine ze_goto (pc := 8) (t := 20) zr_58_8 (by decide) ?_
    refine zq_istore_n (pc := 20) (ls2 := [some (.inr (.inr 97)), some (.inl a0), some (.inl (-1)), none, none]) zr_58_20 rfl rfl ?_
    refine ze_iload_n (pc := 21) zr_58_21 rfl ?_
    refine ze_iconst (pc := 22) zr_58_22 (by decide) ?_
    refine zq_icmp_ne (pc := 23) (t := 28) zr_58_23 (by decide) (z_toif h) (fun h => ?_) (fun h => ?_)
    · refine ze_iconst (pc := 26) zr_58_26 (by decide) ?_
      exact zq_ret1 (pc := 27) zr_58_27 rfl h
    · refine ze_iconst (pc := 28) zr_58_28 (by decide) ?_
      refine zq_istore_n (pc := 29) (ls2 := [some (.inr (.inr 97)), some (.inl a0), some (.inl (-1)), some (.inl 0), none]) zr_58_29 rfl rfl ?_
      refine ze_iconst (pc := 30) zr_58_30 (by decide) ?_
      refine zq_istore (pc := 31) (ls2 := [some (.inr (.inr 97)), some (.inl a0), some (.inl (-1)), some (.inl 0), some (.inl 0)]) zr_58_31 rfl rfl ?_
      exact h
  · refine ze_aload_n (pc := 11) zr_58_11 rfl ?_
    refine ze_iload_n (pc := 12) zr_58_12 rfl ?_
    refine ze_aload_n (pc := 13) zr_58_13 rfl ?_
    refine ze_getfield (pc := 14) (v := .inl (V 97 8)) zr_58_14 rfl rfl ?_
    refine zq_callV1 (pc := 17) (as := [.inr (.inr 97), .inl a0, .inl (V 97 8)]) (r := []) (kc2 := 0) (ks2 := 0) zr_58_17 rfl (by decide) rfl rfl rfl rfl ⟨rfl, rfl⟩ ⟨rfl, rfl, rfl⟩ h (fun z1 V1 h => ?_)
    refine zq_istore_n (pc := 20) (ls2 := [some (.inr (.inr 97)), some (.inl a0), some (.inl z1), none, none]) zr_58_20 rfl rfl ?_
    refine ze_iload_n (pc := 21) zr_58_21 rfl ?_
    refine ze_iconst (pc := 22) zr_58_22 (by decide) ?_
    refine zq_icmp_ne (pc := 23) (t := 28) zr_58_23 (by decide) (z_toif h) (fun h => ?_) (fun h => ?_)
    · refine ze_iconst (pc := 26) zr_58_26 (by decide) ?_
      exact zq_ret1 (pc := 27) zr_58_27 rfl h
    · refine ze_iconst (pc := 28) zr_58_28 (by decide) ?_
      refine zq_istore_n (pc := 29) (ls2 := [some (.inr (.inr 97)), some (.inl a0), some (.inl z1), some (.inl 0), none]) zr_58_29 rfl rfl ?_
      refine ze_iconst (pc := 30) zr_58_30 (by decide) ?_
      refine zq_istore (pc := 31) (ls2 := [some (.inr (.inr 97)), some (.inl a0), some (.inl z1), some (.inl 0), some (.inl 0)]) zr_58_31 rfl rfl ?_
      exact h
theorem zb58_97_p33 {d : Nat} {Q : Int → z_M → Prop} (o1 : Option z_V) (l2 : Int) (l3 : Int) (l4 : Int) {V : z_M}
    (h : zI (l4 < l2) (zI (l4 < 12) (zGu (0 ≤ l4 ∧ l4 < 12) (∀ x54 : Int, x54 = V 116 l4.toNat → z_Ex (z_MS d) 58 Q true 33 [some (.inr (.inr 97)), o1, some (.inl l2), some (.inl (z_or l3 (z_shl 1 x54))), some (.inl (z_add l4 1))] [] 0 0 V)) (Q l3 V)) (Q l3 V)) :
    z_Ex (z_MS d) 58 Q true 33 [some (.inr (.inr 97)), o1, some (.inl l2), some (.inl l3), some (.inl l4)] [] 0 0 V := by
  refine ze_iload (pc := 33) zr_58_33 rfl ?_
  refine ze_iload_n (pc := 35) zr_58_35 rfl ?_
  refine zq_icmp_ge (pc := 36) (t := 64) zr_58_36 (by decide) (z_toif h) (fun h => ?_) (fun h => ?_)
  · refine ze_iload (pc := 39) zr_58_39 rfl ?_
    refine ze_bipush (pc := 41) zr_58_41 (by decide) ?_
    refine zq_icmp_ge (pc := 43) (t := 64) zr_58_43 (by decide) (z_toif h) (fun h => ?_) (fun h => ?_)
    · refine ze_iload_n (pc := 46) zr_58_46 rfl ?_
      refine ze_iconst (pc := 47) zr_58_47 (by decide) ?_
      refine ze_aload_n (pc := 48) zr_58_48 rfl ?_
      refine ze_getfield (pc := 49) (v := .inr (.inr 116)) zr_58_49 rfl rfl ?_
      refine ze_iload (pc := 52) zr_58_52 rfl ?_
      refine z_gk h (fun g54 h => ?_)
      refine zl_iaload (pc := 54) zr_58_54 rfl rfl g54 h (fun x54 h => ?_)
      refine ze_ishl (pc := 55) zr_58_55 ?_
      refine ze_ior (pc := 56) zr_58_56 ?_
      refine zq_istore_n (pc := 57) (ls2 := [some (.inr (.inr 97)), o1, some (.inl l2), some (.inl (z_or l3 (z_shl 1 x54))), some (.inl l4)]) zr_58_57 rfl rfl ?_
      refine zq_iinc (pc := 58) (ls2 := [some (.inr (.inr 97)), o1, some (.inl l2), some (.inl (z_or l3 (z_shl 1 x54))), some (.inl (z_add l4 1))]) zr_58_58 rfl rfl rfl ?_
      refine ze_goto (pc := 61) (t := 33) zr_58_61 (by decide) ?_
      exact h
    · refine ze_iload_n (pc := 64) zr_58_64 rfl ?_
      exact zq_ret1 (pc := 65) zr_58_65 rfl h
  · refine ze_iload_n (pc := 64) zr_58_64 rfl ?_
    exact zq_ret1 (pc := 65) zr_58_65 rfl h
theorem zb59_97 {d : Nat} {Q : Int → z_M → Prop} (a0 : Int) (a1 : Int) {V : z_M}
    (h : z_MS d 133 true [.inl a0, .inl 0, .inl (z_sub (V 97 9) 1)] V (fun z1 V1 => zI (z1 = 0) (Q 0 V1) (z_MS d 133 true [.inl a1, .inl 0, .inl (z_sub (V1 97 8) 1)] V1 (fun z2 V2 => zI (z2 = 0) (Q 0 V2) (zI ((z_and (z_shr (V2 97 7) (z_add a1 1)) 1) = 0) (Q 0 V2) (z_MS d 60 true [.inr (.inr 97), .inl (z_add a1 1)] V2 (fun z3 V3 => zI (z3 = 0) (zGu (0 ≤ a0 ∧ a0 < 6) (∀ x62 : Int, x62 = V3 115 a0.toNat → zGu (0 ≤ a0 ∧ a0 < 6) (∀ x68 : Nat, x68 = z_rr true V3 107 a0.toNat → zGu (z_kd x68 = 101) (zGu (0 ≤ (z_add a1 1) ∧ (z_add a1 1) < z_len' V3 x68) (∀ x70 : Int, x70 = V3 x68 (z_add a1 1).toNat → z_MS d 54 true [.inr (.inr 97), .inl a0, .inl x62, .inl x70] V3 (fun z4 V4 => zI (z4 = (-1)) (Q 0 V4) (zGu (0 ≤ a0 ∧ a0 < 6) (∀ W1, W1 = z_up V4 115 a0.toNat z4 → ∀ W2, W2 = z_up W1 97 7 (z_and (W1 97 7) (z_xor (z_shl 1 (z_add a1 1)) (-1))) → Q 1 W2)))))))) (Q 0 V3)))))))) :
    z_MS (d + 1) 59 true [.inr (.inr 97), .inl a0, .inl a1] V Q := by
  show z_Ex (z_MS d) 59 Q true 0 [some (.inr (.inr 97)), some (.inl a0), some (.inl a1), none, none] [] 0 0 V
  refine ze_iload_n (pc := 0) zr_59_0 rfl ?_
  refine ze_iconst (pc := 1) zr_59_1 (by decide) ?_
  refine ze_aload_n (pc := 2) zr_59_2 rfl ?_
  refine ze_getfield (pc := 3) (v := .inl (V 97 9)) zr_59_3 rfl rfl ?_
  refine ze_iconst (pc := 6) zr_59_6 (by decide) ?_
  refine ze_isub (pc := 7) zr_59_7 ?_
  refine zq_callS1 (pc := 8) (as := [.inl a0, .inl 0, .inl (z_sub (V 97 9) 1)]) (r := []) (kc2 := 0) (ks2 := 0) zr_59_8 rfl rfl rfl rfl ⟨rfl, rfl⟩ ⟨rfl, rfl, rfl⟩ h (fun z1 V1 h => ?_)
  refine zq_if_eq (pc := 11) (t := 28) zr_59_11 (by decide) (z_toif h) (fun h => ?_) (fun h => ?_)
  · refine ze_iconst (pc := 28) zr_59_28 (by decide) ?_
    exact zq_ret4 (pc := 29) zr_59_29 rfl (by decide) h
  · refine ze_iload_n (pc := 14) zr_59_14 rfl ?_
    refine ze_iconst (pc := 15) zr_59_15 (by decide) ?_
    refine ze_aload_n (pc := 16) zr_59_16 rfl ?_
    refine ze_getfield (pc := 17) (v := .inl (V1 97 8)) zr_59_17 rfl rfl ?_
    refine ze_iconst (pc := 20) zr_59_20 (by decide) ?_
    refine ze_isub (pc := 21) zr_59_21 ?_
    refine zq_callS1 (pc := 22) (as := [.inl a1, .inl 0, .inl (z_sub (V1 97 8) 1)]) (r := []) (kc2 := 0) (ks2 := 0) zr_59_22 rfl rfl rfl rfl ⟨rfl, rfl⟩ ⟨rfl, rfl, rfl⟩ h (fun z2 V2 h => ?_)
    refine zq_if_ne (pc := 25) (t := 30) zr_59_25 (by decide) (z_toif h) (fun h => ?_) (fun h => ?_)
    · refine ze_iconst (pc := 28) zr_59_28 (by decide) ?_
      exact zq_ret4 (pc := 29) zr_59_29 rfl (by decide) h
    · refine ze_iload_n (pc := 30) zr_59_30 rfl ?_
      refine ze_iconst (pc := 31) zr_59_31 (by decide) ?_
      refine ze_iadd (pc := 32) zr_59_32 ?_
      refine zq_istore_n (pc := 33) (ls2 := [some (.inr (.inr 97)), some (.inl a0), some (.inl a1), some (.inl (z_add a1 1)), none]) zr_59_33 rfl rfl ?_
      refine ze_aload_n (pc := 34) zr_59_34 rfl ?_
      refine ze_getfield (pc := 35) (v := .inl (V2 97 7)) zr_59_35 rfl rfl ?_
      refine ze_iload_n (pc := 38) zr_59_38 rfl ?_
      refine ze_ishr (pc := 39) zr_59_39 ?_
      refine ze_iconst (pc := 40) zr_59_40 (by decide) ?_
      refine ze_iand (pc := 41) zr_59_41 ?_
      refine zq_if_eq (pc := 42) (t := 53) zr_59_42 (by decide) (z_toif h) (fun h => ?_) (fun h => ?_)
      · refine ze_iconst (pc := 53) zr_59_53 (by decide) ?_
        exact zq_ret4 (pc := 54) zr_59_54 rfl (by decide) h
      · refine ze_aload_n (pc := 45) zr_59_45 rfl ?_
        refine ze_iload_n (pc := 46) zr_59_46 rfl ?_
        refine zq_callV1 (pc := 47) (as := [.inr (.inr 97), .inl (z_add a1 1)]) (r := []) (kc2 := 0) (ks2 := 0) zr_59_47 rfl (by decide) rfl rfl rfl rfl ⟨rfl, rfl⟩ ⟨rfl, rfl, rfl⟩ h (fun z3 V3 h => ?_)
        refine zq_if_eq (pc := 50) (t := 55) zr_59_50 (by decide) (z_toif h) (fun h => ?_) (fun h => ?_)
        · refine ze_aload_n (pc := 55) zr_59_55 rfl ?_
          refine ze_iload_n (pc := 56) zr_59_56 rfl ?_
          refine ze_aload_n (pc := 57) zr_59_57 rfl ?_
          refine ze_getfield (pc := 58) (v := .inr (.inr 115)) zr_59_58 rfl rfl ?_
          refine ze_iload_n (pc := 61) zr_59_61 rfl ?_
          refine z_gk h (fun g62 h => ?_)
          refine zl_iaload (pc := 62) zr_59_62 rfl rfl g62 h (fun x62 h => ?_)
          refine ze_aload_n (pc := 63) zr_59_63 rfl ?_
          refine ze_getfield (pc := 64) (v := .inr (.inr 107)) zr_59_64 rfl rfl ?_
          refine ze_iload_n (pc := 67) zr_59_67 rfl ?_
          refine z_gk h (fun g68 h => ?_)
          refine zl_aaload (pc := 68) zr_59_68 (by decide) rfl g68 h (fun x68 h => ?_)
          refine ze_iload_n (pc := 69) zr_59_69 rfl ?_
          refine z_gk h (fun k70 h => ?_)
          refine z_gk h (fun g70 h => ?_)
          refine zl_ialoadv (pc := 70) zr_59_70 k70 g70 h (fun x70 h => ?_)
          refine zq_callV1 (pc := 71) (as := [.inr (.inr 97), .inl a0, .inl x62, .inl x70]) (r := []) (kc2 := 0) (ks2 := 0) zr_59_71 rfl (by decide) rfl rfl rfl rfl ⟨rfl, rfl⟩ ⟨rfl, rfl, rfl⟩ h (fun z4 V4 h => ?_)
          refine zq_istore (pc := 74) (ls2 := [some (.inr (.inr 97)), some (.inl a0), some (.inl a1), some (.inl (z_add a1 1)), some (.inl z4)]) zr_59_74 rfl rfl ?_
          refine ze_iload (pc := 76) zr_59_76 rfl ?_
          refine ze_iconst (pc := 78) zr_59_78 (by decide) ?_
          refine zq_icmp_ne (pc := 79) (t := 84) zr_59_79 (by decide) (z_toif h) (fun h => ?_) (fun h => ?_)
          · refine ze_iconst (pc := 82) zr_59_82 (by decide) ?_
            exact zq_ret4 (pc := 83) zr_59_83 rfl (by decide) h
          · refine ze_aload_n (pc := 84) zr_59_84 rfl ?_
            refine ze_getfield (pc := 85) (v := .inr (.inr 115)) zr_59_85 rfl rfl ?_
            refine ze_iload_n (pc := 88) zr_59_88 rfl ?_
            refine ze_iload (pc := 89) zr_59_89 rfl ?_
            refine z_gk h (fun g91 h => ?_)
            refine zq_iastore (pc := 91) zr_59_91 (by decide) rfl g91 rfl h (fun W1 h => ?_)
            refine ze_aload_n (pc := 92) zr_59_92 rfl ?_
            refine ze_dup (pc := 93) zr_59_93 rfl ?_
            refine ze_getfield (pc := 94) (v := .inl (W1 97 7)) zr_59_94 rfl rfl ?_
            refine ze_iconst (pc := 97) zr_59_97 (by decide) ?_
            refine ze_iload_n (pc := 98) zr_59_98 rfl ?_
            refine ze_ishl (pc := 99) zr_59_99 ?_
            refine ze_iconst (pc := 100) zr_59_100 (by decide) ?_
            refine ze_ixor (pc := 101) zr_59_101 ?_
            refine ze_iand (pc := 102) zr_59_102 ?_
            refine zq_putI (pc := 103) zr_59_103 (by decide) rfl h (fun W2 h => ?_)
            refine ze_iconst (pc := 106) zr_59_106 (by decide) ?_
            exact zq_ret4 (pc := 107) zr_59_107 rfl (by decide) h
        · refine ze_iconst (pc := 53) zr_59_53 (by decide) ?_
          exact zq_ret4 (pc := 54) zr_59_54 rfl (by decide) h
theorem zb60_97 {d : Nat} {Q : Int → z_M → Prop} (a0 : Int) {V : z_M}
    (h : z_Ex (z_MS d) 60 Q true 2 [some (.inr (.inr 97)), some (.inl a0), some (.inl 0)] [] 0 0 V) :
    z_MS (d + 1) 60 true [.inr (.inr 97), .inl a0] V Q := by
  show z_Ex (z_MS d) 60 Q true 0 [some (.inr (.inr 97)), some (.inl a0), none] [] 0 0 V
  refine ze_iconst (pc := 0) zr_60_0 (by decide) ?_
  refine zq_istore_n (pc := 1) (ls2 := [some (.inr (.inr 97)), some (.inl a0), some (.inl 0)]) zr_60_1 rfl rfl ?_
  exact h
theorem zb60_97_p2 {d : Nat} {Q : Int → z_M → Prop} (l1 : Int) (l2 : Int) {V : z_M}
    (h : zI (l2 < (V 97 9)) (zGu (0 ≤ l2 ∧ l2 < 6) (∀ x15 : Int, x15 = V 115 l2.toNat → zI (x15 = l1) (Q 1 V) (z_Ex (z_MS d) 60 Q true 2 [some (.inr (.inr 97)), some (.inl l1), some (.inl (z_add l2 1))] [] 0 0 V))) (Q 0 V)) :
    z_Ex (z_MS d) 60 Q true 2 [some (.inr (.inr 97)), some (.inl l1), some (.inl l2)] [] 0 0 V := by
  refine ze_iload_n (pc := 2) zr_60_2 rfl ?_
  refine ze_aload_n (pc := 3) zr_60_3 rfl ?_
  refine ze_getfield (pc := 4) (v := .inl (V 97 9)) zr_60_4 rfl rfl ?_
  refine zq_icmp_ge (pc := 7) (t := 28) zr_60_7 (by decide) (z_toif h) (fun h => ?_) (fun h => ?_)
  · refine ze_aload_n (pc := 10) zr_60_10 rfl ?_
    refine ze_getfield (pc := 11) (v := .inr (.inr 115)) zr_60_11 rfl rfl ?_
    refine ze_iload_n (pc := 14) zr_60_14 rfl ?_
    refine z_gk h (fun g15 h => ?_)
    refine zl_iaload (pc := 15) zr_60_15 rfl rfl g15 h (fun x15 h => ?_)
    refine ze_iload_n (pc := 16) zr_60_16 rfl ?_
    refine zq_icmp_ne (pc := 17) (t := 22) zr_60_17 (by decide) (z_toif h) (fun h => ?_) (fun h => ?_)
    · refine ze_iconst (pc := 20) zr_60_20 (by decide) ?_
      exact zq_ret4 (pc := 21) zr_60_21 rfl (by decide) h
    · refine zq_iinc (pc := 22) (ls2 := [some (.inr (.inr 97)), some (.inl l1), some (.inl (z_add l2 1))]) zr_60_22 rfl rfl rfl ?_
      refine ze_goto (pc := 25) (t := 2) zr_60_25 (by decide) ?_
      exact h
  · refine ze_iconst (pc := 28) zr_60_28 (by decide) ?_
    exact zq_ret4 (pc := 29) zr_60_29 rfl (by decide) h
theorem zb61_97_37_133 {d : Nat} {Q : Int → z_M → Prop}  {V : z_M}
    (h : z_Ex (z_MS d) 61 Q true 5 [some (.inr (.inr 97)), some (.inr (.inr 37)), some (.inr (.inr 133)), some (.inl 0), some (.inl 0), none] [] 0 0 V) :
    z_MS (d + 1) 61 true [.inr (.inr 97), .inr (.inr 37), .inr (.inr 133)] V Q := by
  show z_Ex (z_MS d) 61 Q true 0 [some (.inr (.inr 97)), some (.inr (.inr 37)), some (.inr (.inr 133)), none, none, none] [] 0 0 V
  refine ze_iconst (pc := 0) zr_61_0 (by decide) ?_
  refine zq_istore_n (pc := 1) (ls2 := [some (.inr (.inr 97)), some (.inr (.inr 37)), some (.inr (.inr 133)), some (.inl 0), none, none]) zr_61_1 rfl rfl ?_
  refine ze_iconst (pc := 2) zr_61_2 (by decide) ?_
  refine zq_istore (pc := 3) (ls2 := [some (.inr (.inr 97)), some (.inr (.inr 37)), some (.inr (.inr 133)), some (.inl 0), some (.inl 0), none]) zr_61_3 rfl rfl ?_
  exact h
theorem zb61_97_37_133_p5 {d : Nat} {Q : Int → z_M → Prop} (l3 : Int) (l4 : Int) (o5 : Option z_V) {V : z_M}
    (h : zI (l4 < (V 37 11)) (zGu (0 ≤ l4 ∧ l4 < 7) (∀ x22 : Int, x22 = V 50 l4.toNat → z_MS d 133 true [.inl x22, .inl 0, .inl (z_sub 6 1)] V (fun z601 V601 => zI (z601 = 0) (z_Ex (z_MS d) 61 Q true 5 [some (.inr (.inr 97)), some (.inr (.inr 37)), some (.inr (.inr 133)), some (.inl l3), some (.inl (z_add l4 1)), some (.inl x22)] [] 0 0 V601) (zGu (0 ≤ l4 ∧ l4 < 7) (∀ x47 : Int, x47 = V601 49 l4.toNat → zGu (0 ≤ x22 ∧ x22 < 6) (∀ x51 : Int, x51 = V601 133 x22.toNat → z_MS d 59 true [.inr (.inr 97), .inl x47, .inl x51] V601 (fun z602 V602 => zI (z602 = 0) (z_Ex (z_MS d) 61 Q true 5 [some (.inr (.inr 97)), some (.inr (.inr 37)), some (.inr (.inr 133)), some (.inl l3), some (.inl (z_add l4 1)), some (.inl x22)] [] 0 0 V602) (z_Ex (z_MS d) 61 Q true 5 [some (.inr (.inr 97)), some (.inr (.inr 37)), some (.inr (.inr 133)), some (.inl (z_or l3 (z_shl 1 l4))), some (.inl (z_add l4 1)), some (.inl x22)] [] 0 0 V602)))))))) (Q l3 V)) :
    z_Ex (z_MS d) 61 Q true 5 [some (.inr (.inr 97)), some (.inr (.inr 37)), some (.inr (.inr 133)), some (.inl l3), some (.inl l4), o5] [] 0 0 V := by
  refine ze_iload (pc := 5) zr_61_5 rfl ?_
  refine ze_aload_n (pc := 7) zr_61_7 rfl ?_
  refine ze_getfield (pc := 8) (v := .inl (V 37 11)) zr_61_8 rfl rfl ?_
  refine zq_icmp_ge (pc := 11) (t := 71) zr_61_11 (by decide) (z_toif h) (fun h => ?_) (fun h => ?_)
  · refine ze_aload_n (pc := 14) zr_61_14 rfl ?_
    refine ze_getfield (pc := 15) (v := .inr (.inr 48)) zr_61_15 rfl rfl ?_
    refine ze_iconst (pc := 18) zr_61_18 (by decide) ?_
    refine zq_aaload (pc := 19) (v := .inr (.inr 50)) zr_61_19 (by decide) rfl (by decide) rfl ?_
    refine ze_iload (pc := 20) zr_61_20 rfl ?_
    refine z_gk h (fun g22 h => ?_)
    refine zl_iaload (pc := 22) zr_61_22 rfl rfl g22 h (fun x22 h => ?_)
    refine zq_istore (pc := 23) (ls2 := [some (.inr (.inr 97)), some (.inr (.inr 37)), some (.inr (.inr 133)), some (.inl l3), some (.inl l4), some (.inl x22)]) zr_61_23 rfl rfl ?_
    refine ze_iload (pc := 25) zr_61_25 rfl ?_
    refine ze_iconst (pc := 27) zr_61_27 (by decide) ?_
    refine ze_aload_n (pc := 28) zr_61_28 rfl ?_
    refine ze_length (pc := 29) (z := 6) zr_61_29 (by decide) rfl ?_
    refine ze_iconst (pc := 30) zr_61_30 (by decide) ?_
    refine ze_isub (pc := 31) zr_61_31 ?_
    refine zq_callS1 (pc := 32) (as := [.inl x22, .inl 0, .inl (z_sub 6 1)]) (r := []) (kc2 := 0) (ks2 := 0) zr_61_32 rfl rfl rfl rfl ⟨rfl, rfl⟩ ⟨rfl, rfl, rfl⟩ h (fun z601 V601 h => ?_)
    refine zq_if_eq (pc := 35) (t := 65) zr_61_35 (by decide) (z_toif h) (fun h => ?_) (fun h => ?_)
    · refine zq_iinc (pc := 65) (ls2 := [some (.inr (.inr 97)), some (.inr (.inr 37)), some (.inr (.inr 133)), some (.inl l3), some (.inl (z_add l4 1)), some (.inl x22)]) zr_61_65 rfl rfl rfl ?_
      refine ze_goto (pc := 68) (t := 5) zr_61_68 (by decide) ?_
      exact h
    · refine ze_aload_n (pc := 38) zr_61_38 rfl ?_
      refine ze_aload_n (pc := 39) zr_61_39 rfl ?_
      refine ze_getfield (pc := 40) (v := .inr (.inr 48)) zr_61_40 rfl rfl ?_
      refine ze_iconst (pc := 43) zr_61_43 (by decide) ?_
      refine zq_aaload (pc := 44) (v := .inr (.inr 49)) zr_61_44 (by decide) rfl (by decide) rfl ?_
      refine ze_iload (pc := 45) zr_61_45 rfl ?_
      refine z_gk h (fun g47 h => ?_)
      refine zl_iaload (pc := 47) zr_61_47 rfl rfl g47 h (fun x47 h => ?_)
      refine ze_aload_n (pc := 48) zr_61_48 rfl ?_
      refine ze_iload (pc := 49) zr_61_49 rfl ?_
      refine z_gk h (fun g51 h => ?_)
      refine zl_iaload (pc := 51) zr_61_51 rfl rfl g51 h (fun x51 h => ?_)
      refine zq_callV1 (pc := 52) (as := [.inr (.inr 97), .inl x47, .inl x51]) (r := []) (kc2 := 0) (ks2 := 0) zr_61_52 rfl (by decide) rfl rfl rfl rfl ⟨rfl, rfl⟩ ⟨rfl, rfl, rfl⟩ h (fun z602 V602 h => ?_)
      refine zq_if_eq (pc := 55) (t := 65) zr_61_55 (by decide) (z_toif h) (fun h => ?_) (fun h => ?_)
      · refine zq_iinc (pc := 65) (ls2 := [some (.inr (.inr 97)), some (.inr (.inr 37)), some (.inr (.inr 133)), some (.inl l3), some (.inl (z_add l4 1)), some (.inl x22)]) zr_61_65 rfl rfl rfl ?_
        refine ze_goto (pc := 68) (t := 5) zr_61_68 (by decide) ?_
        exact h
      · refine ze_iload_n (pc := 58) zr_61_58 rfl ?_
        refine ze_iconst (pc := 59) zr_61_59 (by decide) ?_
        refine ze_iload (pc := 60) zr_61_60 rfl ?_
        refine ze_ishl (pc := 62) zr_61_62 ?_
        refine ze_ior (pc := 63) zr_61_63 ?_
        refine zq_istore_n (pc := 64) (ls2 := [some (.inr (.inr 97)), some (.inr (.inr 37)), some (.inr (.inr 133)), some (.inl (z_or l3 (z_shl 1 l4))), some (.inl l4), some (.inl x22)]) zr_61_64 rfl rfl ?_
        refine zq_iinc (pc := 65) (ls2 := [some (.inr (.inr 97)), some (.inr (.inr 37)), some (.inr (.inr 133)), some (.inl (z_or l3 (z_shl 1 l4))), some (.inl (z_add l4 1)), some (.inl x22)]) zr_61_65 rfl rfl rfl ?_
        refine ze_goto (pc := 68) (t := 5) zr_61_68 (by decide) ?_
        exact h
  · refine ze_iload_n (pc := 71) zr_61_71 rfl ?_
    exact zq_ret1 (pc := 72) zr_61_72 rfl h
theorem zb61_97_37_6 {d : Nat} {Q : Int → z_M → Prop}  {V : z_M}
    (h : z_Ex (z_MS d) 61 Q true 5 [some (.inr (.inr 97)), some (.inr (.inr 37)), some (.inr (.inr 6)), some (.inl 0), some (.inl 0), none] [] 0 0 V) :
    z_MS (d + 1) 61 true [.inr (.inr 97), .inr (.inr 37), .inr (.inr 6)] V Q := by
  show z_Ex (z_MS d) 61 Q true 0 [some (.inr (.inr 97)), some (.inr (.inr 37)), some (.inr (.inr 6)), none, none, none] [] 0 0 V
  refine ze_iconst (pc := 0) zr_61_0 (by decide) ?_
  refine zq_istore_n (pc := 1) (ls2 := [some (.inr (.inr 97)), some (.inr (.inr 37)), some (.inr (.inr 6)), some (.inl 0), none, none]) zr_61_1 rfl rfl ?_
  refine ze_iconst (pc := 2) zr_61_2 (by decide) ?_
  refine zq_istore (pc := 3) (ls2 := [some (.inr (.inr 97)), some (.inr (.inr 37)), some (.inr (.inr 6)), some (.inl 0), some (.inl 0), none]) zr_61_3 rfl rfl ?_
  exact h
theorem zb61_97_37_6_p5 {d : Nat} {Q : Int → z_M → Prop} (l3 : Int) (l4 : Int) (o5 : Option z_V) {V : z_M}
    (h : zI (l4 < (V 37 11)) (zGu (0 ≤ l4 ∧ l4 < 7) (∀ x22 : Int, x22 = V 50 l4.toNat → z_MS d 133 true [.inl x22, .inl 0, .inl (z_sub 12 1)] V (fun z601 V601 => zI (z601 = 0) (z_Ex (z_MS d) 61 Q true 5 [some (.inr (.inr 97)), some (.inr (.inr 37)), some (.inr (.inr 6)), some (.inl l3), some (.inl (z_add l4 1)), some (.inl x22)] [] 0 0 V601) (zGu (0 ≤ l4 ∧ l4 < 7) (∀ x47 : Int, x47 = V601 49 l4.toNat → zGu (0 ≤ x22 ∧ x22 < 12) (∀ x51 : Int, x51 = V601 6 x22.toNat → z_MS d 59 true [.inr (.inr 97), .inl x47, .inl x51] V601 (fun z602 V602 => zI (z602 = 0) (z_Ex (z_MS d) 61 Q true 5 [some (.inr (.inr 97)), some (.inr (.inr 37)), some (.inr (.inr 6)), some (.inl l3), some (.inl (z_add l4 1)), some (.inl x22)] [] 0 0 V602) (z_Ex (z_MS d) 61 Q true 5 [some (.inr (.inr 97)), some (.inr (.inr 37)), some (.inr (.inr 6)), some (.inl (z_or l3 (z_shl 1 l4))), some (.inl (z_add l4 1)), some (.inl x22)] [] 0 0 V602)))))))) (Q l3 V)) :
    z_Ex (z_MS d) 61 Q true 5 [some (.inr (.inr 97)), some (.inr (.inr 37)), some (.inr (.inr 6)), some (.inl l3), some (.inl l4), o5] [] 0 0 V := by
  refine ze_iload (pc := 5) zr_61_5 rfl ?_
  refine ze_aload_n (pc := 7) zr_61_7 rfl ?_
  refine ze_getfield (pc := 8) (v := .inl (V 37 11)) zr_61_8 rfl rfl ?_
  refine zq_icmp_ge (pc := 11) (t := 71) zr_61_11 (by decide) (z_toif h) (fun h => ?_) (fun h => ?_)
  · refine ze_aload_n (pc := 14) zr_61_14 rfl ?_
    refine ze_getfield (pc := 15) (v := .inr (.inr 48)) zr_61_15 rfl rfl ?_
    refine ze_iconst (pc := 18) zr_61_18 (by decide) ?_
    refine zq_aaload (pc := 19) (v := .inr (.inr 50)) zr_61_19 (by decide) rfl (by decide) rfl ?_
    refine ze_iload (pc := 20) zr_61_20 rfl ?_
    refine z_gk h (fun g22 h => ?_)
    refine zl_iaload (pc := 22) zr_61_22 rfl rfl g22 h (fun x22 h => ?_)
    refine zq_istore (pc := 23) (ls2 := [some (.inr (.inr 97)), some (.inr (.inr 37)), some (.inr (.inr 6)), some (.inl l3), some (.inl l4), some (.inl x22)]) zr_61_23 rfl rfl ?_
    refine ze_iload (pc := 25) zr_61_25 rfl ?_
    refine ze_iconst (pc := 27) zr_61_27 (by decide) ?_
    refine ze_aload_n (pc := 28) zr_61_28 rfl ?_
    refine ze_length (pc := 29) (z := 12) zr_61_29 (by decide) rfl ?_
    refine ze_iconst (pc := 30) zr_61_30 (by decide) ?_
    refine ze_isub (pc := 31) zr_61_31 ?_
    refine zq_callS1 (pc := 32) (as := [.inl x22, .inl 0, .inl (z_sub 12 1)]) (r := []) (kc2 := 0) (ks2 := 0) zr_61_32 rfl rfl rfl rfl ⟨rfl, rfl⟩ ⟨rfl, rfl, rfl⟩ h (fun z601 V601 h => ?_)
    refine zq_if_eq (pc := 35) (t := 65) zr_61_35 (by decide) (z_toif h) (fun h => ?_) (fun h => ?_)
    · refine zq_iinc (pc := 65) (ls2 := [some (.inr (.inr 97)), some (.inr (.inr 37)), some (.inr (.inr 6)), some (.inl l3), some (.inl (z_add l4 1)), some (.inl x22)]) zr_61_65 rfl rfl rfl ?_
      refine ze_goto (pc := 68) (t := 5) zr_61_68 (by decide) ?_
      exact h
    · refine ze_aload_n (pc := 38) zr_61_38 rfl ?_
      refine ze_aload_n (pc := 39) zr_61_39 rfl ?_
      refine ze_getfield (pc := 40) (v := .inr (.inr 48)) zr_61_40 rfl rfl ?_
      refine ze_iconst (pc := 43) zr_61_43 (by decide) ?_
      refine zq_aaload (pc := 44) (v := .inr (.inr 49)) zr_61_44 (by decide) rfl (by decide) rfl ?_
      refine ze_iload (pc := 45) zr_61_45 rfl ?_
      refine z_gk h (fun g47 h => ?_)
      refine zl_iaload (pc := 47) zr_61_47 rfl rfl g47 h (fun x47 h => ?_)
      refine ze_aload_n (pc := 48) zr_61_48 rfl ?_
      refine ze_iload (pc := 49) zr_61_49 rfl ?_
      refine z_gk h (fun g51 h => ?_)
      refine zl_iaload (pc := 51) zr_61_51 rfl rfl g51 h (fun x51 h => ?_)
      refine zq_callV1 (pc := 52) (as := [.inr (.inr 97), .inl x47, .inl x51]) (r := []) (kc2 := 0) (ks2 := 0) zr_61_52 rfl (by decide) rfl rfl rfl rfl ⟨rfl, rfl⟩ ⟨rfl, rfl, rfl⟩ h (fun z602 V602 h => ?_)
      refine zq_if_eq (pc := 55) (t := 65) zr_61_55 (by decide) (z_toif h) (fun h => ?_) (fun h => ?_)
      · refine zq_iinc (pc := 65) (ls2 := [some (.inr (.inr 97)), some (.inr (.inr 37)), some (.inr (.inr 6)), some (.inl l3), some (.inl (z_add l4 1)), some (.inl x22)]) zr_61_65 rfl rfl rfl ?_
        refine ze_goto (pc := 68) (t := 5) zr_61_68 (by decide) ?_
        exact h
      · refine ze_iload_n (pc := 58) zr_61_58 rfl ?_
        refine ze_iconst (pc := 59) zr_61_59 (by decide) ?_
        refine ze_iload (pc := 60) zr_61_60 rfl ?_
        refine ze_ishl (pc := 62) zr_61_62 ?_
        refine ze_ior (pc := 63) zr_61_63 ?_
        refine zq_istore_n (pc := 64) (ls2 := [some (.inr (.inr 97)), some (.inr (.inr 37)), some (.inr (.inr 6)), some (.inl (z_or l3 (z_shl 1 l4))), some (.inl l4), some (.inl x22)]) zr_61_64 rfl rfl ?_
        refine zq_iinc (pc := 65) (ls2 := [some (.inr (.inr 97)), some (.inr (.inr 37)), some (.inr (.inr 6)), some (.inl (z_or l3 (z_shl 1 l4))), some (.inl (z_add l4 1)), some (.inl x22)]) zr_61_65 rfl rfl rfl ?_
        refine ze_goto (pc := 68) (t := 5) zr_61_68 (by decide) ?_
        exact h
  · refine ze_iload_n (pc := 71) zr_61_71 rfl ?_
    exact zq_ret1 (pc := 72) zr_61_72 rfl h
theorem zb62_97 {d : Nat} {Q : Int → z_M → Prop}  {V : z_M}
    (h : z_Ex (z_MS d) 62 Q true 4 [some (.inr (.inr 97)), some (.inl 0), some (.inl 0)] [] 0 0 V) :
    z_MS (d + 1) 62 true [.inr (.inr 97)] V Q := by
  show z_Ex (z_MS d) 62 Q true 0 [some (.inr (.inr 97)), none, none] [] 0 0 V
  refine ze_iconst (pc := 0) zr_62_0 (by decide) ?_
  refine zq_istore_n (pc := 1) (ls2 := [some (.inr (.inr 97)), some (.inl 0), none]) zr_62_1 rfl rfl ?_
  refine ze_iconst (pc := 2) zr_62_2 (by decide) ?_
  refine zq_istore_n (pc := 3) (ls2 := [some (.inr (.inr 97)), some (.inl 0), some (.inl 0)]) zr_62_3 rfl rfl ?_
  exact h
theorem zb62_97_p4 {d : Nat} {Q : Int → z_M → Prop} (l1 : Int) (l2 : Int) {V : z_M}
    (h : zI (l2 < (V 97 9)) (zGu (0 ≤ l2 ∧ l2 < 6) (∀ x17 : Int, x17 = V 115 l2.toNat → zI (x17 = 0) (z_Ex (z_MS d) 62 Q true 4 [some (.inr (.inr 97)), some (.inl l1), some (.inl (z_add l2 1))] [] 0 0 V) (zGu (0 ≤ l2 ∧ l2 < 6) (∀ x28 : Int, x28 = V 115 l2.toNat → z_MS d 54 true [.inr (.inr 97), .inl l2, .inl x28, .inl 1] V (fun z501 V501 => zI (z501 = (-1)) (z_Ex (z_MS d) 62 Q true 4 [some (.inr (.inr 97)), some (.inl (z_or l1 (z_shl 1 l2))), some (.inl (z_add l2 1))] [] 0 0 V501) (z_Ex (z_MS d) 62 Q true 4 [some (.inr (.inr 97)), some (.inl l1), some (.inl (z_add l2 1))] [] 0 0 V501)))))) (Q l1 V)) :
    z_Ex (z_MS d) 62 Q true 4 [some (.inr (.inr 97)), some (.inl l1), some (.inl l2)] [] 0 0 V := by
  refine ze_iload_n (pc := 4) zr_62_4 rfl ?_
  refine ze_aload_n (pc := 5) zr_62_5 rfl ?_
  refine ze_getfield (pc := 6) (v := .inl (V 97 9)) zr_62_6 rfl rfl ?_
  refine zq_icmp_ge (pc := 9) (t := 49) zr_62_9 (by decide) (z_toif h) (fun h => ?_) (fun h => ?_)
  · refine ze_aload_n (pc := 12) zr_62_12 rfl ?_
    refine ze_getfield (pc := 13) (v := .inr (.inr 115)) zr_62_13 rfl rfl ?_
    refine ze_iload_n (pc := 16) zr_62_16 rfl ?_
    refine z_gk h (fun g17 h => ?_)
    refine zl_iaload (pc := 17) zr_62_17 rfl rfl g17 h (fun x17 h => ?_)
    refine zq_if_eq (pc := 18) (t := 43) zr_62_18 (by decide) (z_toif h) (fun h => ?_) (fun h => ?_)
    · refine zq_iinc (pc := 43) (ls2 := [some (.inr (.inr 97)), some (.inl l1), some (.inl (z_add l2 1))]) zr_62_43 rfl rfl rfl ?_
      refine ze_goto (pc := 46) (t := 4) zr_62_46 (by decide) ?_
      exact h
    · refine ze_aload_n (pc := 21) zr_62_21 rfl ?_
      refine ze_iload_n (pc := 22) zr_62_22 rfl ?_
      refine ze_aload_n (pc := 23) zr_62_23 rfl ?_
      refine ze_getfield (pc := 24) (v := .inr (.inr 115)) zr_62_24 rfl rfl ?_
      refine ze_iload_n (pc := 27) zr_62_27 rfl ?_
      refine z_gk h (fun g28 h => ?_)
      refine zl_iaload (pc := 28) zr_62_28 rfl rfl g28 h (fun x28 h => ?_)
      refine ze_iconst (pc := 29) zr_62_29 (by decide) ?_
      refine zq_callV1 (pc := 30) (as := [.inr (.inr 97), .inl l2, .inl x28, .inl 1]) (r := []) (kc2 := 0) (ks2 := 0) zr_62_30 rfl (by decide) rfl rfl rfl rfl ⟨rfl, rfl⟩ ⟨rfl, rfl, rfl⟩ h (fun z501 V501 h => ?_)
      refine ze_iconst (pc := 33) zr_62_33 (by decide) ?_
      refine zq_icmp_ne (pc := 34) (t := 43) zr_62_34 (by decide) (z_toif h) (fun h => ?_) (fun h => ?_)
      · refine ze_iload_n (pc := 37) zr_62_37 rfl ?_
        refine ze_iconst (pc := 38) zr_62_38 (by decide) ?_
        refine ze_iload_n (pc := 39) zr_62_39 rfl ?_
        refine ze_ishl (pc := 40) zr_62_40 ?_
        refine ze_ior (pc := 41) zr_62_41 ?_
        refine zq_istore_n (pc := 42) (ls2 := [some (.inr (.inr 97)), some (.inl (z_or l1 (z_shl 1 l2))), some (.inl l2)]) zr_62_42 rfl rfl ?_
        refine zq_iinc (pc := 43) (ls2 := [some (.inr (.inr 97)), some (.inl (z_or l1 (z_shl 1 l2))), some (.inl (z_add l2 1))]) zr_62_43 rfl rfl rfl ?_
        refine ze_goto (pc := 46) (t := 4) zr_62_46 (by decide) ?_
        exact h
      · refine zq_iinc (pc := 43) (ls2 := [some (.inr (.inr 97)), some (.inl l1), some (.inl (z_add l2 1))]) zr_62_43 rfl rfl rfl ?_
        refine ze_goto (pc := 46) (t := 4) zr_62_46 (by decide) ?_
        exact h
  · refine ze_iload_n (pc := 49) zr_62_49 rfl ?_
    exact zq_ret1 (pc := 50) zr_62_50 rfl h
theorem zb63_97 {d : Nat} {Q : Int → z_M → Prop}  {V : z_M}
    (h : Q (z_shr (V 97 7) 1) V) :
    z_MS (d + 1) 63 true [.inr (.inr 97)] V Q := by
  show z_Ex (z_MS d) 63 Q true 0 [some (.inr (.inr 97))] [] 0 0 V
  refine ze_aload_n (pc := 0) zr_63_0 rfl ?_
  refine ze_getfield (pc := 1) (v := .inl (V 97 7)) zr_63_1 rfl rfl ?_
  refine ze_iconst (pc := 4) zr_63_4 (by decide) ?_
  refine ze_ishr (pc := 5) zr_63_5 ?_
  exact zq_ret1 (pc := 6) zr_63_6 rfl h
theorem zb64_97 {d : Nat} {Q : Int → z_M → Prop}  {V : z_M}
    (h : Q (z_and (z_xor (z_shr (V 97 7) 1) (-1)) (z_sub (z_shl 1 (V 97 8)) 1)) V) :
    z_MS (d + 1) 64 true [.inr (.inr 97)] V Q := by
  show z_Ex (z_MS d) 64 Q true 0 [some (.inr (.inr 97))] [] 0 0 V
  refine ze_aload_n (pc := 0) zr_64_0 rfl ?_
  refine ze_getfield (pc := 1) (v := .inl (V 97 7)) zr_64_1 rfl rfl ?_
  refine ze_iconst (pc := 4) zr_64_4 (by decide) ?_
  refine ze_ishr (pc := 5) zr_64_5 ?_
  refine ze_iconst (pc := 6) zr_64_6 (by decide) ?_
  refine ze_ixor (pc := 7) zr_64_7 ?_
  refine ze_iconst (pc := 8) zr_64_8 (by decide) ?_
  refine ze_aload_n (pc := 9) zr_64_9 rfl ?_
  refine ze_getfield (pc := 10) (v := .inl (V 97 8)) zr_64_10 rfl rfl ?_
  refine ze_ishl (pc := 13) zr_64_13 ?_
  refine ze_iconst (pc := 14) zr_64_14 (by decide) ?_
  refine ze_isub (pc := 15) zr_64_15 ?_
  refine ze_iand (pc := 16) zr_64_16 ?_
  exact zq_ret1 (pc := 17) zr_64_17 rfl h
theorem zb66_119 {d : Nat} {Q : Int → z_M → Prop}  {V : z_M}
    (h : ∀ W1, W1 = z_up V 119 2 (-1) → ∀ W2, W2 = z_up W1 119 3 0 → ∀ W3, W3 = z_up W2 119 4 0 → ∀ W4, W4 = z_up W3 119 1 1 → Q 0 W4) :
    z_MS (d + 1) 66 true [.inr (.inr 119)] V Q := by
  show z_Ex (z_MS d) 66 Q true 0 [some (.inr (.inr 119))] [] 0 0 V
  refine ze_aload_n (pc := 0) zr_66_0 rfl ?_
  refine ze_iconst (pc := 1) zr_66_1 (by decide) ?_
  refine zq_putI (pc := 2) zr_66_2 (by decide) rfl h (fun W1 h => ?_)
  refine ze_aload_n (pc := 5) zr_66_5 rfl ?_
  refine ze_iconst (pc := 6) zr_66_6 (by decide) ?_
  refine zq_putI (pc := 7) zr_66_7 (by decide) rfl h (fun W2 h => ?_)
  refine ze_aload_n (pc := 10) zr_66_10 rfl ?_
  refine ze_iconst (pc := 11) zr_66_11 (by decide) ?_
  refine zq_putI (pc := 12) zr_66_12 (by decide) rfl h (fun W3 h => ?_)
  refine ze_aload_n (pc := 15) zr_66_15 rfl ?_
  refine ze_iconst (pc := 16) zr_66_16 (by decide) ?_
  refine zq_putZ (pc := 17) zr_66_17 (by decide) rfl (by decide) h (fun W4 h => ?_)
  exact ze_vret (pc := 20) zr_66_20 rfl h
theorem zb66_123 {d : Nat} {Q : Int → z_M → Prop}  {V : z_M}
    (h : ∀ W1, W1 = z_up V 123 2 (-1) → ∀ W2, W2 = z_up W1 123 3 0 → ∀ W3, W3 = z_up W2 123 4 0 → ∀ W4, W4 = z_up W3 123 1 1 → Q 0 W4) :
    z_MS (d + 1) 66 true [.inr (.inr 123)] V Q := by
  show z_Ex (z_MS d) 66 Q true 0 [some (.inr (.inr 123))] [] 0 0 V
  refine ze_aload_n (pc := 0) zr_66_0 rfl ?_
  refine ze_iconst (pc := 1) zr_66_1 (by decide) ?_
  refine zq_putI (pc := 2) zr_66_2 (by decide) rfl h (fun W1 h => ?_)
  refine ze_aload_n (pc := 5) zr_66_5 rfl ?_
  refine ze_iconst (pc := 6) zr_66_6 (by decide) ?_
  refine zq_putI (pc := 7) zr_66_7 (by decide) rfl h (fun W2 h => ?_)
  refine ze_aload_n (pc := 10) zr_66_10 rfl ?_
  refine ze_iconst (pc := 11) zr_66_11 (by decide) ?_
  refine zq_putI (pc := 12) zr_66_12 (by decide) rfl h (fun W3 h => ?_)
  refine ze_aload_n (pc := 15) zr_66_15 rfl ?_
  refine ze_iconst (pc := 16) zr_66_16 (by decide) ?_
  refine zq_putZ (pc := 17) zr_66_17 (by decide) rfl (by decide) h (fun W4 h => ?_)
  exact ze_vret (pc := 20) zr_66_20 rfl h
theorem zb67_119 {d : Nat} {Q : Int → z_M → Prop} (a0 : Int) {V : z_M}
    (h : Q (if a0 < (V 119 2) then 0 else 1) V) :
    z_MS (d + 1) 67 true [.inr (.inr 119), .inl a0] V Q := by
  show z_Ex (z_MS d) 67 Q true 0 [some (.inr (.inr 119)), some (.inl a0)] [] 0 0 V
  refine ze_iload_n (pc := 0) zr_67_0 rfl ?_
  refine ze_aload_n (pc := 1) zr_67_1 rfl ?_
  refine ze_getfield (pc := 2) (v := .inl (V 119 2)) zr_67_2 rfl rfl ?_
  have j5 : z_Ex (z_MS d) 67 Q true 13 [some (.inr (.inr 119)), some (.inl a0)] [.inl (if a0 < (V 119 2) then 0 else 1)] 0 0 V := by
    exact zq_ret4 (pc := 13) zr_67_13 rfl (by (repeat' split) <;> decide) h
  refine ze_icmp_lt (pc := 5) (t := 12) zr_67_5 (by decide) (fun hc => ?_) (fun hc => ?_)
  · rw [if_pos (show a0 < (V 119 2) from hc)] at j5
    refine ze_iconst (pc := 12) zr_67_12 (by decide) ?_
    exact j5
  · rw [if_neg (show ¬ (a0 < (V 119 2)) from hc)] at j5
    refine ze_iconst (pc := 8) zr_67_8 (by decide) ?_
    refine ze_goto (pc := 9) (t := 13) zr_67_9 (by decide) ?_
    exact j5
theorem zb68_119_121 {d : Nat} {Q : Int → z_M → Prop} (a0 : Int) (a1 : Int) {V : z_M}
    (h : zI ((V 119 2) < a0) (∀ W1, W1 = z_up V 119 2 a0 → ∀ W2, W2 = z_up W1 119 3 a1 → ∀ W3, W3 = z_up W2 119 4 0 → zGu (0 ≤ (z_min 7 7) ∧ 0 ≤ (0 : Int) ∧ 0 ≤ (0 : Int) ∧ (0 : Int) + (z_min 7 7) ≤ 7 ∧ (0 : Int) + (z_min 7 7) ≤ 7) (∀ W4, W4 = z_cpy W3 121 0 120 0 (z_min 7 7).toNat → zI (a0 = (W4 119 2)) (zI (a1 = (W4 119 3)) (∀ W5, W5 = z_up W4 119 4 (z_add (W4 119 4) 1) → Q 0 W5) (Q 0 W4)) (Q 0 W4))) (zI (a0 = (V 119 2)) (zI (a1 < (V 119 3)) (∀ W8, W8 = z_up V 119 2 a0 → ∀ W9, W9 = z_up W8 119 3 a1 → ∀ W10, W10 = z_up W9 119 4 0 → zGu (0 ≤ (z_min 7 7) ∧ 0 ≤ (0 : Int) ∧ 0 ≤ (0 : Int) ∧ (0 : Int) + (z_min 7 7) ≤ 7 ∧ (0 : Int) + (z_min 7 7) ≤ 7) (∀ W11, W11 = z_cpy W10 121 0 120 0 (z_min 7 7).toNat → zI (a0 = (W11 119 2)) (zI (a1 = (W11 119 3)) (∀ W12, W12 = z_up W11 119 4 (z_add (W11 119 4) 1) → Q 0 W12) (Q 0 W11)) (Q 0 W11))) (zI (a0 = (V 119 2)) (zI (a1 = (V 119 3)) (∀ W7, W7 = z_up V 119 4 (z_add (V 119 4) 1) → Q 0 W7) (Q 0 V)) (Q 0 V))) (zI (a0 = (V 119 2)) (zI (a1 = (V 119 3)) (∀ W6, W6 = z_up V 119 4 (z_add (V 119 4) 1) → Q 0 W6) (Q 0 V)) (Q 0 V)))) :
    z_MS (d + 1) 68 true [.inr (.inr 119), .inl a0, .inl a1, .inr (.inr 121)] V Q := by
  show z_Ex (z_MS d) 68 Q true 0 [some (.inr (.inr 119)), some (.inl a0), some (.inl a1), some (.inr (.inr 121))] [] 0 0 V
  refine ze_iload_n (pc := 0) zr_68_0 rfl ?_
  refine ze_aload_n (pc := 1) zr_68_1 rfl ?_
  refine ze_getfield (pc := 2) (v := .inl (V 119 2)) zr_68_2 rfl rfl ?_
  refine zq_icmp_gt (pc := 5) (t := 24) zr_68_5 (by decide) (z_toif h) (fun h => ?_) (fun h => ?_)
  · refine ze_aload_n (pc := 24) zr_68_24 rfl ?_
    refine ze_iload_n (pc := 25) zr_68_25 rfl ?_
    refine zq_putI (pc := 26) zr_68_26 (by decide) rfl h (fun W1 h => ?_)
    refine ze_aload_n (pc := 29) zr_68_29 rfl ?_
    refine ze_iload_n (pc := 30) zr_68_30 rfl ?_
    refine zq_putI (pc := 31) zr_68_31 (by decide) rfl h (fun W2 h => ?_)
    refine ze_aload_n (pc := 34) zr_68_34 rfl ?_
    refine ze_iconst (pc := 35) zr_68_35 (by decide) ?_
    refine zq_putI (pc := 36) zr_68_36 (by decide) rfl h (fun W3 h => ?_)
    refine ze_aload_n (pc := 39) zr_68_39 rfl ?_
    refine ze_iconst (pc := 40) zr_68_40 (by decide) ?_
    refine ze_aload_n (pc := 41) zr_68_41 rfl ?_
    refine ze_getfield (pc := 42) (v := .inr (.inr 120)) zr_68_42 rfl rfl ?_
    refine ze_iconst (pc := 45) zr_68_45 (by decide) ?_
    refine ze_aload_n (pc := 46) zr_68_46 rfl ?_
    refine ze_length (pc := 47) (z := 7) zr_68_47 (by decide) rfl ?_
    refine ze_aload_n (pc := 48) zr_68_48 rfl ?_
    refine ze_getfield (pc := 49) (v := .inr (.inr 120)) zr_68_49 rfl rfl ?_
    refine ze_length (pc := 52) (z := 7) zr_68_52 (by decide) rfl ?_
    refine zq_min (pc := 53) zr_68_53 (Nat.le_of_ble_eq_true rfl) ?_
    refine z_gk h (fun g56 h => ?_)
    refine zq_acopy (pc := 56) zr_68_56 ⟨rfl, rfl, by decide, Nat.le_of_ble_eq_true rfl⟩ rfl rfl g56 rfl rfl rfl h (fun W4 h => ?_)
    refine ze_iload_n (pc := 59) zr_68_59 rfl ?_
    refine ze_aload_n (pc := 60) zr_68_60 rfl ?_
    refine ze_getfield (pc := 61) (v := .inl (W4 119 2)) zr_68_61 rfl rfl ?_
    refine zq_icmp_ne (pc := 64) (t := 85) zr_68_64 (by decide) (z_toif h) (fun h => ?_) (fun h => ?_)
    · refine ze_iload_n (pc := 67) zr_68_67 rfl ?_
      refine ze_aload_n (pc := 68) zr_68_68 rfl ?_
      refine ze_getfield (pc := 69) (v := .inl (W4 119 3)) zr_68_69 rfl rfl ?_
      refine zq_icmp_ne (pc := 72) (t := 85) zr_68_72 (by decide) (z_toif h) (fun h => ?_) (fun h => ?_)
      · refine ze_aload_n (pc := 75) zr_68_75 rfl ?_
        refine ze_dup (pc := 76) zr_68_76 rfl ?_
        refine ze_getfield (pc := 77) (v := .inl (W4 119 4)) zr_68_77 rfl rfl ?_
        refine ze_iconst (pc := 80) zr_68_80 (by decide) ?_
        refine ze_iadd (pc := 81) zr_68_81 ?_
        refine zq_putI (pc := 82) zr_68_82 (by decide) rfl h (fun W5 h => ?_)
        exact ze_vret (pc := 85) zr_68_85 rfl h
      · exact ze_vret (pc := 85) zr_68_85 rfl h
    · exact ze_vret (pc := 85) zr_68_85 rfl h
  · refine ze_iload_n (pc := 8) zr_68_8 rfl ?_
    refine ze_aload_n (pc := 9) zr_68_9 rfl ?_
    refine ze_getfield (pc := 10) (v := .inl (V 119 2)) zr_68_10 rfl rfl ?_
    refine zq_icmp_ne (pc := 13) (t := 59) zr_68_13 (by decide) (z_toif h) (fun h => ?_) (fun h => ?_)
    · refine ze_iload_n (pc := 16) zr_68_16 rfl ?_
      refine ze_aload_n (pc := 17) zr_68_17 rfl ?_
      refine ze_getfield (pc := 18) (v := .inl (V 119 3)) zr_68_18 rfl rfl ?_
      refine zq_icmp_ge (pc := 21) (t := 59) zr_68_21 (by decide) (z_toif h) (fun h => ?_) (fun h => ?_)
      · refine ze_aload_n (pc := 24) zr_68_24 rfl ?_
        refine ze_iload_n (pc := 25) zr_68_25 rfl ?_
        refine zq_putI (pc := 26) zr_68_26 (by decide) rfl h (fun W8 h => ?_)
        refine ze_aload_n (pc := 29) zr_68_29 rfl ?_
        refine ze_iload_n (pc := 30) zr_68_30 rfl ?_
        refine zq_putI (pc := 31) zr_68_31 (by decide) rfl h (fun W9 h => ?_)
        refine ze_aload_n (pc := 34) zr_68_34 rfl ?_
        refine ze_iconst (pc := 35) zr_68_35 (by decide) ?_
        refine zq_putI (pc := 36) zr_68_36 (by decide) rfl h (fun W10 h => ?_)
        refine ze_aload_n (pc := 39) zr_68_39 rfl ?_
        refine ze_iconst (pc := 40) zr_68_40 (by decide) ?_
        refine ze_aload_n (pc := 41) zr_68_41 rfl ?_
        refine ze_getfield (pc := 42) (v := .inr (.inr 120)) zr_68_42 rfl rfl ?_
        refine ze_iconst (pc := 45) zr_68_45 (by decide) ?_
        refine ze_aload_n (pc := 46) zr_68_46 rfl ?_
        refine ze_length (pc := 47) (z := 7) zr_68_47 (by decide) rfl ?_
        refine ze_aload_n (pc := 48) zr_68_48 rfl ?_
        refine ze_getfield (pc := 49) (v := .inr (.inr 120)) zr_68_49 rfl rfl ?_
        refine ze_length (pc := 52) (z := 7) zr_68_52 (by decide) rfl ?_
        refine zq_min (pc := 53) zr_68_53 (Nat.le_of_ble_eq_true rfl) ?_
        refine z_gk h (fun g56 h => ?_)
        refine zq_acopy (pc := 56) zr_68_56 ⟨rfl, rfl, by decide, Nat.le_of_ble_eq_true rfl⟩ rfl rfl g56 rfl rfl rfl h (fun W11 h => ?_)
        refine ze_iload_n (pc := 59) zr_68_59 rfl ?_
        refine ze_aload_n (pc := 60) zr_68_60 rfl ?_
        refine ze_getfield (pc := 61) (v := .inl (W11 119 2)) zr_68_61 rfl rfl ?_
        refine zq_icmp_ne (pc := 64) (t := 85) zr_68_64 (by decide) (z_toif h) (fun h => ?_) (fun h => ?_)
        · refine ze_iload_n (pc := 67) zr_68_67 rfl ?_
          refine ze_aload_n (pc := 68) zr_68_68 rfl ?_
          refine ze_getfield (pc := 69) (v := .inl (W11 119 3)) zr_68_69 rfl rfl ?_
          refine zq_icmp_ne (pc := 72) (t := 85) zr_68_72 (by decide) (z_toif h) (fun h => ?_) (fun h => ?_)
          · refine ze_aload_n (pc := 75) zr_68_75 rfl ?_
            refine ze_dup (pc := 76) zr_68_76 rfl ?_
            refine ze_getfield (pc := 77) (v := .inl (W11 119 4)) zr_68_77 rfl rfl ?_
            refine ze_iconst (pc := 80) zr_68_80 (by decide) ?_
            refine ze_iadd (pc := 81) zr_68_81 ?_
            refine zq_putI (pc := 82) zr_68_82 (by decide) rfl h (fun W12 h => ?_)
            exact ze_vret (pc := 85) zr_68_85 rfl h
          · exact ze_vret (pc := 85) zr_68_85 rfl h
        · exact ze_vret (pc := 85) zr_68_85 rfl h
      · refine ze_iload_n (pc := 59) zr_68_59 rfl ?_
        refine ze_aload_n (pc := 60) zr_68_60 rfl ?_
        refine ze_getfield (pc := 61) (v := .inl (V 119 2)) zr_68_61 rfl rfl ?_
        refine zq_icmp_ne (pc := 64) (t := 85) zr_68_64 (by decide) (z_toif h) (fun h => ?_) (fun h => ?_)
        · refine ze_iload_n (pc := 67) zr_68_67 rfl ?_
          refine ze_aload_n (pc := 68) zr_68_68 rfl ?_
          refine ze_getfield (pc := 69) (v := .inl (V 119 3)) zr_68_69 rfl rfl ?_
          refine zq_icmp_ne (pc := 72) (t := 85) zr_68_72 (by decide) (z_toif h) (fun h => ?_) (fun h => ?_)
          · refine ze_aload_n (pc := 75) zr_68_75 rfl ?_
            refine ze_dup (pc := 76) zr_68_76 rfl ?_
            refine ze_getfield (pc := 77) (v := .inl (V 119 4)) zr_68_77 rfl rfl ?_
            refine ze_iconst (pc := 80) zr_68_80 (by decide) ?_
            refine ze_iadd (pc := 81) zr_68_81 ?_
            refine zq_putI (pc := 82) zr_68_82 (by decide) rfl h (fun W7 h => ?_)
            exact ze_vret (pc := 85) zr_68_85 rfl h
          · exact ze_vret (pc := 85) zr_68_85 rfl h
        · exact ze_vret (pc := 85) zr_68_85 rfl h
    · refine ze_iload_n (pc := 59) zr_68_59 rfl ?_
      refine ze_aload_n (pc := 60) zr_68_60 rfl ?_
      refine ze_getfield (pc := 61) (v := .inl (V 119 2)) zr_68_61 rfl rfl ?_
      refine zq_icmp_ne (pc := 64) (t := 85) zr_68_64 (by decide) (z_toif h) (fun h => ?_) (fun h => ?_)
      · refine ze_iload_n (pc := 67) zr_68_67 rfl ?_
        refine ze_aload_n (pc := 68) zr_68_68 rfl ?_
        refine ze_getfield (pc := 69) (v := .inl (V 119 3)) zr_68_69 rfl rfl ?_
        refine zq_icmp_ne (pc := 72) (t := 85) zr_68_72 (by decide) (z_toif h) (fun h => ?_) (fun h => ?_)
        · refine ze_aload_n (pc := 75) zr_68_75 rfl ?_
          refine ze_dup (pc := 76) zr_68_76 rfl ?_
          refine ze_getfield (pc := 77) (v := .inl (V 119 4)) zr_68_77 rfl rfl ?_
          refine ze_iconst (pc := 80) zr_68_80 (by decide) ?_
          refine ze_iadd (pc := 81) zr_68_81 ?_
          refine zq_putI (pc := 82) zr_68_82 (by decide) rfl h (fun W6 h => ?_)
          exact ze_vret (pc := 85) zr_68_85 rfl h
        · exact ze_vret (pc := 85) zr_68_85 rfl h
      · exact ze_vret (pc := 85) zr_68_85 rfl h
theorem zb68_123_132 {d : Nat} {Q : Int → z_M → Prop} (a0 : Int) (a1 : Int) {V : z_M}
    (h : zI ((V 123 2) < a0) (∀ W1, W1 = z_up V 123 2 a0 → ∀ W2, W2 = z_up W1 123 3 a1 → ∀ W3, W3 = z_up W2 123 4 0 → zGu (0 ≤ (z_min 6 7) ∧ 0 ≤ (0 : Int) ∧ 0 ≤ (0 : Int) ∧ (0 : Int) + (z_min 6 7) ≤ 6 ∧ (0 : Int) + (z_min 6 7) ≤ 7) (∀ W4, W4 = z_cpy W3 132 0 124 0 (z_min 6 7).toNat → zI (a0 = (W4 123 2)) (zI (a1 = (W4 123 3)) (∀ W5, W5 = z_up W4 123 4 (z_add (W4 123 4) 1) → Q 0 W5) (Q 0 W4)) (Q 0 W4))) (zI (a0 = (V 123 2)) (zI (a1 < (V 123 3)) (∀ W8, W8 = z_up V 123 2 a0 → ∀ W9, W9 = z_up W8 123 3 a1 → ∀ W10, W10 = z_up W9 123 4 0 → zGu (0 ≤ (z_min 6 7) ∧ 0 ≤ (0 : Int) ∧ 0 ≤ (0 : Int) ∧ (0 : Int) + (z_min 6 7) ≤ 6 ∧ (0 : Int) + (z_min 6 7) ≤ 7) (∀ W11, W11 = z_cpy W10 132 0 124 0 (z_min 6 7).toNat → zI (a0 = (W11 123 2)) (zI (a1 = (W11 123 3)) (∀ W12, W12 = z_up W11 123 4 (z_add (W11 123 4) 1) → Q 0 W12) (Q 0 W11)) (Q 0 W11))) (zI (a0 = (V 123 2)) (zI (a1 = (V 123 3)) (∀ W7, W7 = z_up V 123 4 (z_add (V 123 4) 1) → Q 0 W7) (Q 0 V)) (Q 0 V))) (zI (a0 = (V 123 2)) (zI (a1 = (V 123 3)) (∀ W6, W6 = z_up V 123 4 (z_add (V 123 4) 1) → Q 0 W6) (Q 0 V)) (Q 0 V)))) :
    z_MS (d + 1) 68 true [.inr (.inr 123), .inl a0, .inl a1, .inr (.inr 132)] V Q := by
  show z_Ex (z_MS d) 68 Q true 0 [some (.inr (.inr 123)), some (.inl a0), some (.inl a1), some (.inr (.inr 132))] [] 0 0 V
  refine ze_iload_n (pc := 0) zr_68_0 rfl ?_
  refine ze_aload_n (pc := 1) zr_68_1 rfl ?_
  refine ze_getfield (pc := 2) (v := .inl (V 123 2)) zr_68_2 rfl rfl ?_
  refine zq_icmp_gt (pc := 5) (t := 24) zr_68_5 (by decide) (z_toif h) (fun h => ?_) (fun h => ?_)
  · refine ze_aload_n (pc := 24) zr_68_24 rfl ?_
    refine ze_iload_n (pc := 25) zr_68_25 rfl ?_
    refine zq_putI (pc := 26) zr_68_26 (by decide) rfl h (fun W1 h => ?_)
    refine ze_aload_n (pc := 29) zr_68_29 rfl ?_
    refine ze_iload_n (pc := 30) zr_68_30 rfl ?_
    refine zq_putI (pc := 31) zr_68_31 (by decide) rfl h (fun W2 h => ?_)
    refine ze_aload_n (pc := 34) zr_68_34 rfl ?_
    refine ze_iconst (pc := 35) zr_68_35 (by decide) ?_
    refine zq_putI (pc := 36) zr_68_36 (by decide) rfl h (fun W3 h => ?_)
    refine ze_aload_n (pc := 39) zr_68_39 rfl ?_
    refine ze_iconst (pc := 40) zr_68_40 (by decide) ?_
    refine ze_aload_n (pc := 41) zr_68_41 rfl ?_
    refine ze_getfield (pc := 42) (v := .inr (.inr 124)) zr_68_42 rfl rfl ?_
    refine ze_iconst (pc := 45) zr_68_45 (by decide) ?_
    refine ze_aload_n (pc := 46) zr_68_46 rfl ?_
    refine ze_length (pc := 47) (z := 6) zr_68_47 (by decide) rfl ?_
    refine ze_aload_n (pc := 48) zr_68_48 rfl ?_
    refine ze_getfield (pc := 49) (v := .inr (.inr 124)) zr_68_49 rfl rfl ?_
    refine ze_length (pc := 52) (z := 7) zr_68_52 (by decide) rfl ?_
    refine zq_min (pc := 53) zr_68_53 (Nat.le_of_ble_eq_true rfl) ?_
    refine z_gk h (fun g56 h => ?_)
    refine zq_acopy (pc := 56) zr_68_56 ⟨rfl, rfl, by decide, Nat.le_of_ble_eq_true rfl⟩ rfl rfl g56 rfl rfl rfl h (fun W4 h => ?_)
    refine ze_iload_n (pc := 59) zr_68_59 rfl ?_
    refine ze_aload_n (pc := 60) zr_68_60 rfl ?_
    refine ze_getfield (pc := 61) (v := .inl (W4 123 2)) zr_68_61 rfl rfl ?_
    refine zq_icmp_ne (pc := 64) (t := 85) zr_68_64 (by decide) (z_toif h) (fun h => ?_) (fun h => ?_)
    · refine ze_iload_n (pc := 67) zr_68_67 rfl ?_
      refine ze_aload_n (pc := 68) zr_68_68 rfl ?_
      refine ze_getfield (pc := 69) (v := .inl (W4 123 3)) zr_68_69 rfl rfl ?_
      refine zq_icmp_ne (pc := 72) (t := 85) zr_68_72 (by decide) (z_toif h) (fun h => ?_) (fun h => ?_)
      · refine ze_aload_n (pc := 75) zr_68_75 rfl ?_
        refine ze_dup (pc := 76) zr_68_76 rfl ?_
        refine ze_getfield (pc := 77) (v := .inl (W4 123 4)) zr_68_77 rfl rfl ?_
        refine ze_iconst (pc := 80) zr_68_80 (by decide) ?_
        refine ze_iadd (pc := 81) zr_68_81 ?_
        refine zq_putI (pc := 82) zr_68_82 (by decide) rfl h (fun W5 h => ?_)
        exact ze_vret (pc := 85) zr_68_85 rfl h
      · exact ze_vret (pc := 85) zr_68_85 rfl h
    · exact ze_vret (pc := 85) zr_68_85 rfl h
  · refine ze_iload_n (pc := 8) zr_68_8 rfl ?_
    refine ze_aload_n (pc := 9) zr_68_9 rfl ?_
    refine ze_getfield (pc := 10) (v := .inl (V 123 2)) zr_68_10 rfl rfl ?_
    refine zq_icmp_ne (pc := 13) (t := 59) zr_68_13 (by decide) (z_toif h) (fun h => ?_) (fun h => ?_)
    · refine ze_iload_n (pc := 16) zr_68_16 rfl ?_
      refine ze_aload_n (pc := 17) zr_68_17 rfl ?_
      refine ze_getfield (pc := 18) (v := .inl (V 123 3)) zr_68_18 rfl rfl ?_
      refine zq_icmp_ge (pc := 21) (t := 59) zr_68_21 (by decide) (z_toif h) (fun h => ?_) (fun h => ?_)
      · refine ze_aload_n (pc := 24) zr_68_24 rfl ?_
        refine ze_iload_n (pc := 25) zr_68_25 rfl ?_
        refine zq_putI (pc := 26) zr_68_26 (by decide) rfl h (fun W8 h => ?_)
        refine ze_aload_n (pc := 29) zr_68_29 rfl ?_
        refine ze_iload_n (pc := 30) zr_68_30 rfl ?_
        refine zq_putI (pc := 31) zr_68_31 (by decide) rfl h (fun W9 h => ?_)
        refine ze_aload_n (pc := 34) zr_68_34 rfl ?_
        refine ze_iconst (pc := 35) zr_68_35 (by decide) ?_
        refine zq_putI (pc := 36) zr_68_36 (by decide) rfl h (fun W10 h => ?_)
        refine ze_aload_n (pc := 39) zr_68_39 rfl ?_
        refine ze_iconst (pc := 40) zr_68_40 (by decide) ?_
        refine ze_aload_n (pc := 41) zr_68_41 rfl ?_
        refine ze_getfield (pc := 42) (v := .inr (.inr 124)) zr_68_42 rfl rfl ?_
        refine ze_iconst (pc := 45) zr_68_45 (by decide) ?_
        refine ze_aload_n (pc := 46) zr_68_46 rfl ?_
        refine ze_length (pc := 47) (z := 6) zr_68_47 (by decide) rfl ?_
        refine ze_aload_n (pc := 48) zr_68_48 rfl ?_
        refine ze_getfield (pc := 49) (v := .inr (.inr 124)) zr_68_49 rfl rfl ?_
        refine ze_length (pc := 52) (z := 7) zr_68_52 (by decide) rfl ?_
        refine zq_min (pc := 53) zr_68_53 (Nat.le_of_ble_eq_true rfl) ?_
        refine z_gk h (fun g56 h => ?_)
        refine zq_acopy (pc := 56) zr_68_56 ⟨rfl, rfl, by decide, Nat.le_of_ble_eq_true rfl⟩ rfl rfl g56 rfl rfl rfl h (fun W11 h => ?_)
        refine ze_iload_n (pc := 59) zr_68_59 rfl ?_
        refine ze_aload_n (pc := 60) zr_68_60 rfl ?_
        refine ze_getfield (pc := 61) (v := .inl (W11 123 2)) zr_68_61 rfl rfl ?_
        refine zq_icmp_ne (pc := 64) (t := 85) zr_68_64 (by decide) (z_toif h) (fun h => ?_) (fun h => ?_)
        · refine ze_iload_n (pc := 67) zr_68_67 rfl ?_
          refine ze_aload_n (pc := 68) zr_68_68 rfl ?_
          refine ze_getfield (pc := 69) (v := .inl (W11 123 3)) zr_68_69 rfl rfl ?_
          refine zq_icmp_ne (pc := 72) (t := 85) zr_68_72 (by decide) (z_toif h) (fun h => ?_) (fun h => ?_)
          · refine ze_aload_n (pc := 75) zr_68_75 rfl ?_
            refine ze_dup (pc := 76) zr_68_76 rfl ?_
            refine ze_getfield (pc := 77) (v := .inl (W11 123 4)) zr_68_77 rfl rfl ?_
            refine ze_iconst (pc := 80) zr_68_80 (by decide) ?_
            refine ze_iadd (pc := 81) zr_68_81 ?_
            refine zq_putI (pc := 82) zr_68_82 (by decide) rfl h (fun W12 h => ?_)
            exact ze_vret (pc := 85) zr_68_85 rfl h
          · exact ze_vret (pc := 85) zr_68_85 rfl h
        · exact ze_vret (pc := 85) zr_68_85 rfl h
      · refine ze_iload_n (pc := 59) zr_68_59 rfl ?_
        refine ze_aload_n (pc := 60) zr_68_60 rfl ?_
        refine ze_getfield (pc := 61) (v := .inl (V 123 2)) zr_68_61 rfl rfl ?_
        refine zq_icmp_ne (pc := 64) (t := 85) zr_68_64 (by decide) (z_toif h) (fun h => ?_) (fun h => ?_)
        · refine ze_iload_n (pc := 67) zr_68_67 rfl ?_
          refine ze_aload_n (pc := 68) zr_68_68 rfl ?_
          refine ze_getfield (pc := 69) (v := .inl (V 123 3)) zr_68_69 rfl rfl ?_
          refine zq_icmp_ne (pc := 72) (t := 85) zr_68_72 (by decide) (z_toif h) (fun h => ?_) (fun h => ?_)
          · refine ze_aload_n (pc := 75) zr_68_75 rfl ?_
            refine ze_dup (pc := 76) zr_68_76 rfl ?_
            refine ze_getfield (pc := 77) (v := .inl (V 123 4)) zr_68_77 rfl rfl ?_
            refine ze_iconst (pc := 80) zr_68_80 (by decide) ?_
            refine ze_iadd (pc := 81) zr_68_81 ?_
            refine zq_putI (pc := 82) zr_68_82 (by decide) rfl h (fun W7 h => ?_)
            exact ze_vret (pc := 85) zr_68_85 rfl h
          · exact ze_vret (pc := 85) zr_68_85 rfl h
        · exact ze_vret (pc := 85) zr_68_85 rfl h
    · refine ze_iload_n (pc := 59) zr_68_59 rfl ?_
      refine ze_aload_n (pc := 60) zr_68_60 rfl ?_
      refine ze_getfield (pc := 61) (v := .inl (V 123 2)) zr_68_61 rfl rfl ?_
      refine zq_icmp_ne (pc := 64) (t := 85) zr_68_64 (by decide) (z_toif h) (fun h => ?_) (fun h => ?_)
      · refine ze_iload_n (pc := 67) zr_68_67 rfl ?_
        refine ze_aload_n (pc := 68) zr_68_68 rfl ?_
        refine ze_getfield (pc := 69) (v := .inl (V 123 3)) zr_68_69 rfl rfl ?_
        refine zq_icmp_ne (pc := 72) (t := 85) zr_68_72 (by decide) (z_toif h) (fun h => ?_) (fun h => ?_)
        · refine ze_aload_n (pc := 75) zr_68_75 rfl ?_
          refine ze_dup (pc := 76) zr_68_76 rfl ?_
          refine ze_getfield (pc := 77) (v := .inl (V 123 4)) zr_68_77 rfl rfl ?_
          refine ze_iconst (pc := 80) zr_68_80 (by decide) ?_
          refine ze_iadd (pc := 81) zr_68_81 ?_
          refine zq_putI (pc := 82) zr_68_82 (by decide) rfl h (fun W6 h => ?_)
          exact ze_vret (pc := 85) zr_68_85 rfl h
        · exact ze_vret (pc := 85) zr_68_85 rfl h
      · exact ze_vret (pc := 85) zr_68_85 rfl h
theorem zb69_119 {d : Nat} {Q : Int → z_M → Prop} (a0 : Int) (a1 : Int) {V : z_M}
    (h : zI (a0 = 0) (Q (V 119 2) V) (zI (a0 = 1) (Q (V 119 3) V) (zI (a0 = 2) (Q (V 119 4) V) (zI ((if 2 < a0 then (if (z_sub a0 3) < a1 then (if (z_sub a0 3) < 7 then 1 else 0) else 0) else 0 : Int) = 0) (Q (-1) V) (zGu (0 ≤ (z_sub a0 3) ∧ (z_sub a0 3) < 7) (∀ x83 : Int, x83 = V 120 (z_sub a0 3).toNat → Q x83 V)))))) :
    z_MS (d + 1) 69 true [.inr (.inr 119), .inl a0, .inl a1] V Q := by
  show z_Ex (z_MS d) 69 Q true 0 [some (.inr (.inr 119)), some (.inl a0), some (.inl a1), none] [] 0 0 V
  refine ze_iload_n (pc := 0) zr_69_0 rfl ?_
  refine zq_sw (pc := 1) (l := [27, 32, 37]) zr_69_1 (by decide) rfl ?_
  refine zq_swc (n := 1) (z_toif h) rfl (fun h => ?_) (fun h => ?_)
  · refine zq_to (t := 28) (by decide) ?_
    refine ze_aload_n (pc := 28) zr_69_28 rfl ?_
    refine ze_getfield (pc := 29) (v := .inl (V 119 2)) zr_69_29 rfl rfl ?_
    exact zq_ret1 (pc := 32) zr_69_32 rfl h
  · refine zq_swc (n := 2) (z_toif h) rfl (fun h => ?_) (fun h => ?_)
    · refine zq_to (t := 33) (by decide) ?_
      refine ze_aload_n (pc := 33) zr_69_33 rfl ?_
      refine ze_getfield (pc := 34) (v := .inl (V 119 3)) zr_69_34 rfl rfl ?_
      exact zq_ret1 (pc := 37) zr_69_37 rfl h
    · refine zq_swc (n := 3) (z_toif h) rfl (fun h => ?_) (fun h => ?_)
      · refine zq_to (t := 38) (by decide) ?_
        refine ze_aload_n (pc := 38) zr_69_38 rfl ?_
        refine ze_getfield (pc := 39) (v := .inl (V 119 4)) zr_69_39 rfl rfl ?_
        exact zq_ret1 (pc := 42) zr_69_42 rfl h
      · refine zq_swn ?_
        refine zq_to (t := 43) (by decide) ?_
        refine ze_iload_n (pc := 43) zr_69_43 rfl ?_
        refine ze_iconst (pc := 44) zr_69_44 (by decide) ?_
        have j45 : z_Ex (z_MS d) 69 Q true 71 [some (.inr (.inr 119)), some (.inl a0), some (.inl a1), none] [.inl (if 2 < a0 then (if (z_sub a0 3) < a1 then (if (z_sub a0 3) < 7 then 1 else 0) else 0) else 0)] 0 0 V := by
          refine zq_istore_n (pc := 71) (ls2 := [some (.inr (.inr 119)), some (.inl a0), some (.inl a1), some (.inl (if 2 < a0 then (if (z_sub a0 3) < a1 then (if (z_sub a0 3) < 7 then 1 else 0) else 0) else 0))]) zr_69_71 rfl rfl ?_
          refine ze_iload_n (pc := 72) zr_69_72 rfl ?_
          refine zq_if_eq (pc := 73) (t := 87) zr_69_73 (by decide) (z_toif h) (fun h => ?_) (fun h => ?_)
          · refine ze_iconst (pc := 87) zr_69_87 (by decide) ?_
            exact zq_ret1 (pc := 88) zr_69_88 rfl h
          · refine ze_aload_n (pc := 76) zr_69_76 rfl ?_
            refine ze_getfield (pc := 77) (v := .inr (.inr 120)) zr_69_77 rfl rfl ?_
            refine ze_iload_n (pc := 80) zr_69_80 rfl ?_
            refine ze_iconst (pc := 81) zr_69_81 (by decide) ?_
            refine ze_isub (pc := 82) zr_69_82 ?_
            refine z_gk h (fun g83 h => ?_)
            refine zl_iaload (pc := 83) zr_69_83 rfl rfl g83 h (fun x83 h => ?_)
            refine ze_goto (pc := 84) (t := 88) zr_69_84 (by decide) ?_
            exact zq_ret1 (pc := 88) zr_69_88 rfl h
        refine ze_icmp_le (pc := 45) (t := 70) zr_69_45 (by decide) (fun hc => ?_) (fun hc => ?_)
        · rw [if_pos (show 2 < a0 from hc)] at j45
          refine ze_iload_n (pc := 48) zr_69_48 rfl ?_
          refine ze_iconst (pc := 49) zr_69_49 (by decide) ?_
          refine ze_isub (pc := 50) zr_69_50 ?_
          refine ze_iload_n (pc := 51) zr_69_51 rfl ?_
          refine ze_icmp_ge (pc := 52) (t := 70) zr_69_52 (by decide) (fun hc => ?_) (fun hc => ?_)
          · rw [if_pos (show (z_sub a0 3) < a1 from hc)] at j45
            refine ze_iload_n (pc := 55) zr_69_55 rfl ?_
            refine ze_iconst (pc := 56) zr_69_56 (by decide) ?_
            refine ze_isub (pc := 57) zr_69_57 ?_
            refine ze_aload_n (pc := 58) zr_69_58 rfl ?_
            refine ze_getfield (pc := 59) (v := .inr (.inr 120)) zr_69_59 rfl rfl ?_
            refine ze_length (pc := 62) (z := 7) zr_69_62 (by decide) rfl ?_
            refine ze_icmp_ge (pc := 63) (t := 70) zr_69_63 (by decide) (fun hc => ?_) (fun hc => ?_)
            · rw [if_pos (show (z_sub a0 3) < 7 from hc)] at j45
              refine ze_iconst (pc := 66) zr_69_66 (by decide) ?_
              refine ze_goto (pc := 67) (t := 71) zr_69_67 (by decide) ?_
              exact j45
            · rw [if_neg (show ¬ ((z_sub a0 3) < 7) from hc)] at j45
              refine ze_iconst (pc := 70) zr_69_70 (by decide) ?_
              exact j45
          · rw [if_neg (show ¬ ((z_sub a0 3) < a1) from hc)] at j45
            refine ze_iconst (pc := 70) zr_69_70 (by decide) ?_
            exact j45
        · rw [if_neg (show ¬ (2 < a0) from hc)] at j45
          refine ze_iconst (pc := 70) zr_69_70 (by decide) ?_
          exact j45
theorem zb69_123 {d : Nat} {Q : Int → z_M → Prop} (a0 : Int) (a1 : Int) {V : z_M}
    (h : zI (a0 = 0) (Q (V 123 2) V) (zI (a0 = 1) (Q (V 123 3) V) (zI (a0 = 2) (Q (V 123 4) V) (zI ((if 2 < a0 then (if (z_sub a0 3) < a1 then (if (z_sub a0 3) < 7 then 1 else 0) else 0) else 0 : Int) = 0) (Q (-1) V) (zGu (0 ≤ (z_sub a0 3) ∧ (z_sub a0 3) < 7) (∀ x83 : Int, x83 = V 124 (z_sub a0 3).toNat → Q x83 V)))))) :
    z_MS (d + 1) 69 true [.inr (.inr 123), .inl a0, .inl a1] V Q := by
  show z_Ex (z_MS d) 69 Q true 0 [some (.inr (.inr 123)), some (.inl a0), some (.inl a1), none] [] 0 0 V
  refine ze_iload_n (pc := 0) zr_69_0 rfl ?_
  refine zq_sw (pc := 1) (l := [27, 32, 37]) zr_69_1 (by decide) rfl ?_
  refine zq_swc (n := 1) (z_toif h) rfl (fun h => ?_) (fun h => ?_)
  · refine zq_to (t := 28) (by decide) ?_
    refine ze_aload_n (pc := 28) zr_69_28 rfl ?_
    refine ze_getfield (pc := 29) (v := .inl (V 123 2)) zr_69_29 rfl rfl ?_
    exact zq_ret1 (pc := 32) zr_69_32 rfl h
  · refine zq_swc (n := 2) (z_toif h) rfl (fun h => ?_) (fun h => ?_)
    · refine zq_to (t := 33) (by decide) ?_
      refine ze_aload_n (pc := 33) zr_69_33 rfl ?_
      refine ze_getfield (pc := 34) (v := .inl (V 123 3)) zr_69_34 rfl rfl ?_
      exact zq_ret1 (pc := 37) zr_69_37 rfl h
    · refine zq_swc (n := 3) (z_toif h) rfl (fun h => ?_) (fun h => ?_)
      · refine zq_to (t := 38) (by decide) ?_
        refine ze_aload_n (pc := 38) zr_69_38 rfl ?_
        refine ze_getfield (pc := 39) (v := .inl (V 123 4)) zr_69_39 rfl rfl ?_
        exact zq_ret1 (pc := 42) zr_69_42 rfl h
      · refine zq_swn ?_
        refine zq_to (t := 43) (by decide) ?_
        refine ze_iload_n (pc := 43) zr_69_43 rfl ?_
        refine ze_iconst (pc := 44) zr_69_44 (by decide) ?_
        have j45 : z_Ex (z_MS d) 69 Q true 71 [some (.inr (.inr 123)), some (.inl a0), some (.inl a1), none] [.inl (if 2 < a0 then (if (z_sub a0 3) < a1 then (if (z_sub a0 3) < 7 then 1 else 0) else 0) else 0)] 0 0 V := by
          refine zq_istore_n (pc := 71) (ls2 := [some (.inr (.inr 123)), some (.inl a0), some (.inl a1), some (.inl (if 2 < a0 then (if (z_sub a0 3) < a1 then (if (z_sub a0 3) < 7 then 1 else 0) else 0) else 0))]) zr_69_71 rfl rfl ?_
          refine ze_iload_n (pc := 72) zr_69_72 rfl ?_
          refine zq_if_eq (pc := 73) (t := 87) zr_69_73 (by decide) (z_toif h) (fun h => ?_) (fun h => ?_)
          · refine ze_iconst (pc := 87) zr_69_87 (by decide) ?_
            exact zq_ret1 (pc := 88) zr_69_88 rfl h
          · refine ze_aload_n (pc := 76) zr_69_76 rfl ?_
            refine ze_getfield (pc := 77) (v := .inr (.inr 124)) zr_69_77 rfl rfl ?_
            refine ze_iload_n (pc := 80) zr_69_80 rfl ?_
            refine ze_iconst (pc := 81) zr_69_81 (by decide) ?_
            refine ze_isub (pc := 82) zr_69_82 ?_
            refine z_gk h (fun g83 h => ?_)
            refine zl_iaload (pc := 83) zr_69_83 rfl rfl g83 h (fun x83 h => ?_)
            refine ze_goto (pc := 84) (t := 88) zr_69_84 (by decide) ?_
            exact zq_ret1 (pc := 88) zr_69_88 rfl h
        refine ze_icmp_le (pc := 45) (t := 70) zr_69_45 (by decide) (fun hc => ?_) (fun hc => ?_)
        · rw [if_pos (show 2 < a0 from hc)] at j45
          refine ze_iload_n (pc := 48) zr_69_48 rfl ?_
          refine ze_iconst (pc := 49) zr_69_49 (by decide) ?_
          refine ze_isub (pc := 50) zr_69_50 ?_
          refine ze_iload_n (pc := 51) zr_69_51 rfl ?_
          refine ze_icmp_ge (pc := 52) (t := 70) zr_69_52 (by decide) (fun hc => ?_) (fun hc => ?_)
          · rw [if_pos (show (z_sub a0 3) < a1 from hc)] at j45
            refine ze_iload_n (pc := 55) zr_69_55 rfl ?_
            refine ze_iconst (pc := 56) zr_69_56 (by decide) ?_
            refine ze_isub (pc := 57) zr_69_57 ?_
            refine ze_aload_n (pc := 58) zr_69_58 rfl ?_
            refine ze_getfield (pc := 59) (v := .inr (.inr 124)) zr_69_59 rfl rfl ?_
            refine ze_length (pc := 62) (z := 7) zr_69_62 (by decide) rfl ?_
            refine ze_icmp_ge (pc := 63) (t := 70) zr_69_63 (by decide) (fun hc => ?_) (fun hc => ?_)
            · rw [if_pos (show (z_sub a0 3) < 7 from hc)] at j45
              refine ze_iconst (pc := 66) zr_69_66 (by decide) ?_
              refine ze_goto (pc := 67) (t := 71) zr_69_67 (by decide) ?_
              exact j45
            · rw [if_neg (show ¬ ((z_sub a0 3) < 7) from hc)] at j45
              refine ze_iconst (pc := 70) zr_69_70 (by decide) ?_
              exact j45
          · rw [if_neg (show ¬ ((z_sub a0 3) < a1) from hc)] at j45
            refine ze_iconst (pc := 70) zr_69_70 (by decide) ?_
            exact j45
        · rw [if_neg (show ¬ (2 < a0) from hc)] at j45
          refine ze_iconst (pc := 70) zr_69_70 (by decide) ?_
          exact j45
theorem zb71_87 {d : Nat} {Q : Int → z_M → Prop} (a0 : Int) {V : z_M}
    (h : z_Ex (z_MS d) 71 Q true 3 [some (.inr (.inr 87)), some (.inl a0), some (.inl 24)] [] 0 0 V) :
    z_MS (d + 1) 71 true [.inr (.inr 87), .inl a0] V Q := by
  show z_Ex (z_MS d) 71 Q true 0 [some (.inr (.inr 87)), some (.inl a0), none] [] 0 0 V
  refine ze_bipush (pc := 0) zr_71_0 (by decide) ?_
  refine zq_istore_n (pc := 2) (ls2 := [some (.inr (.inr 87)), some (.inl a0), some (.inl 24)]) zr_71_2 rfl rfl ?_
  exact h
theorem zb71_87_p3 {d : Nat} {Q : Int → z_M → Prop} (l1 : Int) (l2 : Int) {V : z_M}
    (h : zI (l2 < 0) (Q 0 V) (zI ((V 87 1) < 400) (zGu (0 ≤ (V 87 1) ∧ (V 87 1) < 400) (∀ W401, W401 = z_up V 88 (V 87 1).toNat (z_and (z_shr l1 l2) 255) → ∀ W402, W402 = z_up W401 87 1 (z_add (W401 87 1) 1) → z_Ex (z_MS d) 71 Q true 3 [some (.inr (.inr 87)), some (.inl l1), some (.inl (z_add l2 (-8)))] [] 0 0 W402)) (Q 0 V))) :
    z_Ex (z_MS d) 71 Q true 3 [some (.inr (.inr 87)), some (.inl l1), some (.inl l2)] [] 0 0 V := by
  refine ze_iload_n (pc := 3) zr_71_3 rfl ?_
  refine zq_if_lt (pc := 4) (t := 49) zr_71_4 (by decide) (z_toif h) (fun h => ?_) (fun h => ?_)
  · exact ze_vret (pc := 49) zr_71_49 rfl h
  · refine ze_aload_n (pc := 7) zr_71_7 rfl ?_
    refine ze_getfield (pc := 8) (v := .inl (V 87 1)) zr_71_8 rfl rfl ?_
    refine ze_sipush (pc := 11) zr_71_11 (by decide) ?_
    refine zq_icmp_ge (pc := 14) (t := 49) zr_71_14 (by decide) (z_toif h) (fun h => ?_) (fun h => ?_)
    · refine ze_aload_n (pc := 17) zr_71_17 rfl ?_
      refine ze_getfield (pc := 18) (v := .inr (.inr 88)) zr_71_18 rfl rfl ?_
      refine ze_aload_n (pc := 21) zr_71_21 rfl ?_
      refine ze_getfield (pc := 22) (v := .inl (V 87 1)) zr_71_22 rfl rfl ?_
      refine ze_iload_n (pc := 25) zr_71_25 rfl ?_
      refine ze_iload_n (pc := 26) zr_71_26 rfl ?_
      refine ze_ishr (pc := 27) zr_71_27 ?_
      refine ze_sipush (pc := 28) zr_71_28 (by decide) ?_
      refine ze_iand (pc := 31) zr_71_31 ?_
      refine z_gk h (fun g32 h => ?_)
      refine zq_iastore (pc := 32) zr_71_32 (by decide) rfl g32 rfl h (fun W401 h => ?_)
      refine ze_aload_n (pc := 33) zr_71_33 rfl ?_
      refine ze_dup (pc := 34) zr_71_34 rfl ?_
      refine ze_getfield (pc := 35) (v := .inl (W401 87 1)) zr_71_35 rfl rfl ?_
      refine ze_iconst (pc := 38) zr_71_38 (by decide) ?_
      refine ze_iadd (pc := 39) zr_71_39 ?_
      refine zq_putI (pc := 40) zr_71_40 (by decide) rfl h (fun W402 h => ?_)
      refine zq_iinc (pc := 43) (ls2 := [some (.inr (.inr 87)), some (.inl l1), some (.inl (z_add l2 (-8)))]) zr_71_43 rfl rfl rfl ?_
      refine ze_goto (pc := 46) (t := 3) zr_71_46 (by decide) ?_
      exact h
    · exact ze_vret (pc := 49) zr_71_49 rfl h
theorem zb73_37_54 {d : Nat} {Q : Int → z_M → Prop}  {V : z_M}
    (h : z_MS d 74 true [.inr (.inr 55), .inr (.inr 38)] V (fun z1 V1 => z_MS d 74 true [.inr (.inr 60), .inr (.inr 43)] V1 (fun z2 V2 => z_MS d 74 true [.inr (.inr 65), .inr (.inr 48)] V2 (fun z3 V3 => zGu (0 ≤ (2 : Int) ∧ 0 ≤ (0 : Int) ∧ 0 ≤ (0 : Int) ∧ (0 : Int) + (2 : Int) ≤ 2 ∧ (0 : Int) + (2 : Int) ≤ 2) (∀ W1, W1 = z_cpy V3 63 0 46 0 2 → zGu (0 ≤ (8 : Int) ∧ 0 ≤ (0 : Int) ∧ 0 ≤ (0 : Int) ∧ (0 : Int) + (8 : Int) ≤ 8 ∧ (0 : Int) + (8 : Int) ≤ 8) (∀ W2, W2 = z_cpy W1 68 0 51 0 8 → z_Ex (z_MS d) 73 Q true 71 [some (.inr (.inr 37)), some (.inr (.inr 54)), some (.inl 0)] [] 0 0 W2)))))) :
    z_MS (d + 1) 73 true [.inr (.inr 37), .inr (.inr 54)] V Q := by
  show z_Ex (z_MS d) 73 Q true 0 [some (.inr (.inr 37)), some (.inr (.inr 54)), none] [] 0 0 V
  refine ze_aload_n (pc := 0) zr_73_0 rfl ?_
  refine ze_getfield (pc := 1) (v := .inr (.inr 55)) zr_73_1 rfl rfl ?_
  refine ze_aload_n (pc := 4) zr_73_4 rfl ?_
  refine ze_getfield (pc := 5) (v := .inr (.inr 38)) zr_73_5 rfl rfl ?_
  refine zq_callS0 (pc := 8) (as := [.inr (.inr 55), .inr (.inr 38)]) (r := []) (kc2 := 0) (ks2 := 0) zr_73_8 rfl rfl rfl rfl ⟨rfl, rfl⟩ rfl h (fun z1 V1 h => ?_)
  refine ze_aload_n (pc := 11) zr_73_11 rfl ?_
  refine ze_getfield (pc := 12) (v := .inr (.inr 60)) zr_73_12 rfl rfl ?_
  refine ze_aload_n (pc := 15) zr_73_15 rfl ?_
  refine ze_getfield (pc := 16) (v := .inr (.inr 43)) zr_73_16 rfl rfl ?_
  refine zq_callS0 (pc := 19) (as := [.inr (.inr 60), .inr (.inr 43)]) (r := []) (kc2 := 0) (ks2 := 0) zr_73_19 rfl rfl rfl rfl ⟨rfl, rfl⟩ rfl h (fun z2 V2 h => ?_)
  refine ze_aload_n (pc := 22) zr_73_22 rfl ?_
  refine ze_getfield (pc := 23) (v := .inr (.inr 65)) zr_73_23 rfl rfl ?_
  refine ze_aload_n (pc := 26) zr_73_26 rfl ?_
  refine ze_getfield (pc := 27) (v := .inr (.inr 48)) zr_73_27 rfl rfl ?_
  refine zq_callS0 (pc := 30) (as := [.inr (.inr 65), .inr (.inr 48)]) (r := []) (kc2 := 0) (ks2 := 0) zr_73_30 rfl rfl rfl rfl ⟨rfl, rfl⟩ rfl h (fun z3 V3 h => ?_)
  refine ze_aload_n (pc := 33) zr_73_33 rfl ?_
  refine ze_getfield (pc := 34) (v := .inr (.inr 63)) zr_73_34 rfl rfl ?_
  refine ze_iconst (pc := 37) zr_73_37 (by decide) ?_
  refine ze_aload_n (pc := 38) zr_73_38 rfl ?_
  refine ze_getfield (pc := 39) (v := .inr (.inr 46)) zr_73_39 rfl rfl ?_
  refine ze_iconst (pc := 42) zr_73_42 (by decide) ?_
  refine ze_aload_n (pc := 43) zr_73_43 rfl ?_
  refine ze_getfield (pc := 44) (v := .inr (.inr 46)) zr_73_44 rfl rfl ?_
  refine ze_length (pc := 47) (z := 2) zr_73_47 (by decide) rfl ?_
  refine z_gk h (fun g48 h => ?_)
  refine zq_acopy (pc := 48) zr_73_48 ⟨rfl, rfl, by decide, Nat.le_of_ble_eq_true rfl⟩ rfl rfl g48 rfl rfl rfl h (fun W1 h => ?_)
  refine ze_aload_n (pc := 51) zr_73_51 rfl ?_
  refine ze_getfield (pc := 52) (v := .inr (.inr 68)) zr_73_52 rfl rfl ?_
  refine ze_iconst (pc := 55) zr_73_55 (by decide) ?_
  refine ze_aload_n (pc := 56) zr_73_56 rfl ?_
  refine ze_getfield (pc := 57) (v := .inr (.inr 51)) zr_73_57 rfl rfl ?_
  refine ze_iconst (pc := 60) zr_73_60 (by decide) ?_
  refine ze_aload_n (pc := 61) zr_73_61 rfl ?_
  refine ze_getfield (pc := 62) (v := .inr (.inr 51)) zr_73_62 rfl rfl ?_
  refine ze_length (pc := 65) (z := 8) zr_73_65 (by decide) rfl ?_
  refine z_gk h (fun g66 h => ?_)
  refine zq_acopy (pc := 66) zr_73_66 ⟨rfl, rfl, by decide, Nat.le_of_ble_eq_true rfl⟩ rfl rfl g66 rfl rfl rfl h (fun W2 h => ?_)
  refine ze_iconst (pc := 69) zr_73_69 (by decide) ?_
  refine zq_istore_n (pc := 70) (ls2 := [some (.inr (.inr 37)), some (.inr (.inr 54)), some (.inl 0)]) zr_73_70 rfl rfl ?_
  exact h
theorem zb73_37_54_p71 {d : Nat} {Q : Int → z_M → Prop} (l2 : Int) {V : z_M}
    (h : zI (l2 < 6) (zGu (0 ≤ l2 ∧ l2 < 6) (∀ x87 : Nat, x87 = z_rr true V 64 l2.toNat → zGu (x87 = 0 ∨ (36 ≤ x87 ∧ z_kd x87 = 5)) (zGu (true = true → z_rf 47 l2.toNat = 0) (zGu (0 ≤ l2 ∧ l2 < 6) (∀ W7207, W7207 = z_up V 47 l2.toNat (x87 : Nat) → z_Ex (z_MS d) 73 Q true 71 [some (.inr (.inr 37)), some (.inr (.inr 54)), some (.inl (z_add l2 1))] [] 0 0 W7207))))) (∀ W7201, W7201 = z_up V 37 7 (V 54 7) → ∀ W7202, W7202 = z_up W7201 37 8 (W7201 54 8) → ∀ W7203, W7203 = z_up W7202 37 9 (W7202 54 9) → ∀ W7204, W7204 = z_up W7203 37 10 (W7203 54 10) → ∀ W7205, W7205 = z_up W7204 37 11 (W7204 54 11) → ∀ W7206, W7206 = z_up W7205 37 12 (W7205 54 12) → Q 0 W7206)) :
    z_Ex (z_MS d) 73 Q true 71 [some (.inr (.inr 37)), some (.inr (.inr 54)), some (.inl l2)] [] 0 0 V := by
  refine ze_iload_n (pc := 71) zr_73_71 rfl ?_
  refine ze_bipush (pc := 72) zr_73_72 (by decide) ?_
  refine zq_icmp_ge (pc := 74) (t := 95) zr_73_74 (by decide) (z_toif h) (fun h => ?_) (fun h => ?_)
  · refine ze_aload_n (pc := 77) zr_73_77 rfl ?_
    refine ze_getfield (pc := 78) (v := .inr (.inr 47)) zr_73_78 rfl rfl ?_
    refine ze_iload_n (pc := 81) zr_73_81 rfl ?_
    refine ze_aload_n (pc := 82) zr_73_82 rfl ?_
    refine ze_getfield (pc := 83) (v := .inr (.inr 64)) zr_73_83 rfl rfl ?_
    refine ze_iload_n (pc := 86) zr_73_86 rfl ?_
    refine z_gk h (fun g87 h => ?_)
    refine zl_aaload (pc := 87) zr_73_87 (by decide) rfl g87 h (fun x87 h => ?_)
    refine z_gk h (fun e88 h => ?_)
    refine z_gk h (fun x88 h => ?_)
    refine z_gk h (fun g88 h => ?_)
    refine zq_aastore (pc := 88) zr_73_88 (by decide) e88 x88 rfl g88 rfl h (fun W7207 h => ?_)
    refine zq_iinc (pc := 89) (ls2 := [some (.inr (.inr 37)), some (.inr (.inr 54)), some (.inl (z_add l2 1))]) zr_73_89 rfl rfl rfl ?_
    refine ze_goto (pc := 92) (t := 71) zr_73_92 (by decide) ?_
    exact h
  · refine ze_aload_n (pc := 95) zr_73_95 rfl ?_
    refine ze_aload_n (pc := 96) zr_73_96 rfl ?_
    refine ze_getfield (pc := 97) (v := .inl (V 54 7)) zr_73_97 rfl rfl ?_
    refine zq_putI (pc := 100) zr_73_100 (by decide) rfl h (fun W7201 h => ?_)
    refine ze_aload_n (pc := 103) zr_73_103 rfl ?_
    refine ze_aload_n (pc := 104) zr_73_104 rfl ?_
    refine ze_getfield (pc := 105) (v := .inl (W7201 54 8)) zr_73_105 rfl rfl ?_
    refine zq_putI (pc := 108) zr_73_108 (by decide) rfl h (fun W7202 h => ?_)
    refine ze_aload_n (pc := 111) zr_73_111 rfl ?_
    refine ze_aload_n (pc := 112) zr_73_112 rfl ?_
    refine ze_getfield (pc := 113) (v := .inl (W7202 54 9)) zr_73_113 rfl rfl ?_
    refine zq_putI (pc := 116) zr_73_116 (by decide) rfl h (fun W7203 h => ?_)
    refine ze_aload_n (pc := 119) zr_73_119 rfl ?_
    refine ze_aload_n (pc := 120) zr_73_120 rfl ?_
    refine ze_getfield (pc := 121) (v := .inl (W7203 54 10)) zr_73_121 rfl rfl ?_
    refine zq_putI (pc := 124) zr_73_124 (by decide) rfl h (fun W7204 h => ?_)
    refine ze_aload_n (pc := 127) zr_73_127 rfl ?_
    refine ze_aload_n (pc := 128) zr_73_128 rfl ?_
    refine ze_getfield (pc := 129) (v := .inl (W7204 54 11)) zr_73_129 rfl rfl ?_
    refine zq_putI (pc := 132) zr_73_132 (by decide) rfl h (fun W7205 h => ?_)
    refine ze_aload_n (pc := 135) zr_73_135 rfl ?_
    refine ze_aload_n (pc := 136) zr_73_136 rfl ?_
    refine ze_getfield (pc := 137) (v := .inl (W7205 54 12)) zr_73_137 rfl rfl ?_
    refine zq_putI (pc := 140) zr_73_140 (by decide) rfl h (fun W7206 h => ?_)
    exact ze_vret (pc := 143) zr_73_143 rfl h
theorem zb73_37_70 {d : Nat} {Q : Int → z_M → Prop}  {V : z_M}
    (h : z_MS d 74 true [.inr (.inr 71), .inr (.inr 38)] V (fun z1 V1 => z_MS d 74 true [.inr (.inr 76), .inr (.inr 43)] V1 (fun z2 V2 => z_MS d 74 true [.inr (.inr 81), .inr (.inr 48)] V2 (fun z3 V3 => zGu (0 ≤ (2 : Int) ∧ 0 ≤ (0 : Int) ∧ 0 ≤ (0 : Int) ∧ (0 : Int) + (2 : Int) ≤ 2 ∧ (0 : Int) + (2 : Int) ≤ 2) (∀ W1, W1 = z_cpy V3 79 0 46 0 2 → zGu (0 ≤ (8 : Int) ∧ 0 ≤ (0 : Int) ∧ 0 ≤ (0 : Int) ∧ (0 : Int) + (8 : Int) ≤ 8 ∧ (0 : Int) + (8 : Int) ≤ 8) (∀ W2, W2 = z_cpy W1 84 0 51 0 8 → z_Ex (z_MS d) 73 Q true 71 [some (.inr (.inr 37)), some (.inr (.inr 70)), some (.inl 0)] [] 0 0 W2)))))) :
    z_MS (d + 1) 73 true [.inr (.inr 37), .inr (.inr 70)] V Q := by
  show z_Ex (z_MS d) 73 Q true 0 [some (.inr (.inr 37)), some (.inr (.inr 70)), none] [] 0 0 V
  refine ze_aload_n (pc := 0) zr_73_0 rfl ?_
  refine ze_getfield (pc := 1) (v := .inr (.inr 71)) zr_73_1 rfl rfl ?_
  refine ze_aload_n (pc := 4) zr_73_4 rfl ?_
  refine ze_getfield (pc := 5) (v := .inr (.inr 38)) zr_73_5 rfl rfl ?_
  refine zq_callS0 (pc := 8) (as := [.inr (.inr 71), .inr (.inr 38)]) (r := []) (kc2 := 0) (ks2 := 0) zr_73_8 rfl rfl rfl rfl ⟨rfl, rfl⟩ rfl h (fun z1 V1 h => ?_)
  refine ze_aload_n (pc := 11) zr_73_11 rfl ?_
  refine ze_getfield (pc := 12) (v := .inr (.inr 76)) zr_73_12 rfl rfl ?_
  refine ze_aload_n (pc := 15) zr_73_15 rfl ?_
  refine ze_getfield (pc := 16) (v := .inr (.inr 43)) zr_73_16 rfl rfl ?_
  refine zq_callS0 (pc := 19) (as := [.inr (.inr 76), .inr (.inr 43)]) (r := []) (kc2 := 0) (ks2 := 0) zr_73_19 rfl rfl rfl rfl ⟨rfl, rfl⟩ rfl h (fun z2 V2 h => ?_)
  refine ze_aload_n (pc := 22) zr_73_22 rfl ?_
  refine ze_getfield (pc := 23) (v := .inr (.inr 81)) zr_73_23 rfl rfl ?_
  refine ze_aload_n (pc := 26) zr_73_26 rfl ?_
  refine ze_getfield (pc := 27) (v := .inr (.inr 48)) zr_73_27 rfl rfl ?_
  refine zq_callS0 (pc := 30) (as := [.inr (.inr 81), .inr (.inr 48)]) (r := []) (kc2 := 0) (ks2 := 0) zr_73_30 rfl rfl rfl rfl ⟨rfl, rfl⟩ rfl h (fun z3 V3 h => ?_)
  refine ze_aload_n (pc := 33) zr_73_33 rfl ?_
  refine ze_getfield (pc := 34) (v := .inr (.inr 79)) zr_73_34 rfl rfl ?_
  refine ze_iconst (pc := 37) zr_73_37 (by decide) ?_
  refine ze_aload_n (pc := 38) zr_73_38 rfl ?_
  refine ze_getfield (pc := 39) (v := .inr (.inr 46)) zr_73_39 rfl rfl ?_
  refine ze_iconst (pc := 42) zr_73_42 (by decide) ?_
  refine ze_aload_n (pc := 43) zr_73_43 rfl ?_
  refine ze_getfield (pc := 44) (v := .inr (.inr 46)) zr_73_44 rfl rfl ?_
  refine ze_length (pc := 47) (z := 2) zr_73_47 (by decide) rfl ?_
  refine z_gk h (fun g48 h => ?_)
  refine zq_acopy (pc := 48) zr_73_48 ⟨rfl, rfl, by decide, Nat.le_of_ble_eq_true rfl⟩ rfl rfl g48 rfl rfl rfl h (fun W1 h => ?_)
  refine ze_aload_n (pc := 51) zr_73_51 rfl ?_
  refine ze_getfield (pc := 52) (v := .inr (.inr 84)) zr_73_52 rfl rfl ?_
  refine ze_iconst (pc := 55) zr_73_55 (by decide) ?_
  refine ze_aload_n (pc := 56) zr_73_56 rfl ?_
  refine ze_getfield (pc := 57) (v := .inr (.inr 51)) zr_73_57 rfl rfl ?_
  refine ze_iconst (pc := 60) zr_73_60 (by decide) ?_
  refine ze_aload_n (pc := 61) zr_73_61 rfl ?_
  refine ze_getfield (pc := 62) (v := .inr (.inr 51)) zr_73_62 rfl rfl ?_
  refine ze_length (pc := 65) (z := 8) zr_73_65 (by decide) rfl ?_
  refine z_gk h (fun g66 h => ?_)
  refine zq_acopy (pc := 66) zr_73_66 ⟨rfl, rfl, by decide, Nat.le_of_ble_eq_true rfl⟩ rfl rfl g66 rfl rfl rfl h (fun W2 h => ?_)
  refine ze_iconst (pc := 69) zr_73_69 (by decide) ?_
  refine zq_istore_n (pc := 70) (ls2 := [some (.inr (.inr 37)), some (.inr (.inr 70)), some (.inl 0)]) zr_73_70 rfl rfl ?_
  exact h
theorem zb73_37_70_p71 {d : Nat} {Q : Int → z_M → Prop} (l2 : Int) {V : z_M}
    (h : zI (l2 < 6) (zGu (0 ≤ l2 ∧ l2 < 6) (∀ x87 : Nat, x87 = z_rr true V 80 l2.toNat → zGu (x87 = 0 ∨ (36 ≤ x87 ∧ z_kd x87 = 5)) (zGu (true = true → z_rf 47 l2.toNat = 0) (zGu (0 ≤ l2 ∧ l2 < 6) (∀ W7207, W7207 = z_up V 47 l2.toNat (x87 : Nat) → z_Ex (z_MS d) 73 Q true 71 [some (.inr (.inr 37)), some (.inr (.inr 70)), some (.inl (z_add l2 1))] [] 0 0 W7207))))) (∀ W7201, W7201 = z_up V 37 7 (V 70 7) → ∀ W7202, W7202 = z_up W7201 37 8 (W7201 70 8) → ∀ W7203, W7203 = z_up W7202 37 9 (W7202 70 9) → ∀ W7204, W7204 = z_up W7203 37 10 (W7203 70 10) → ∀ W7205, W7205 = z_up W7204 37 11 (W7204 70 11) → ∀ W7206, W7206 = z_up W7205 37 12 (W7205 70 12) → Q 0 W7206)) :
    z_Ex (z_MS d) 73 Q true 71 [some (.inr (.inr 37)), some (.inr (.inr 70)), some (.inl l2)] [] 0 0 V := by
  refine ze_iload_n (pc := 71) zr_73_71 rfl ?_
  refine ze_bipush (pc := 72) zr_73_72 (by decide) ?_
  refine zq_icmp_ge (pc := 74) (t := 95) zr_73_74 (by decide) (z_toif h) (fun h => ?_) (fun h => ?_)
  · refine ze_aload_n (pc := 77) zr_73_77 rfl ?_
    refine ze_getfield (pc := 78) (v := .inr (.inr 47)) zr_73_78 rfl rfl ?_
    refine ze_iload_n (pc := 81) zr_73_81 rfl ?_
    refine ze_aload_n (pc := 82) zr_73_82 rfl ?_
    refine ze_getfield (pc := 83) (v := .inr (.inr 80)) zr_73_83 rfl rfl ?_
    refine ze_iload_n (pc := 86) zr_73_86 rfl ?_
    refine z_gk h (fun g87 h => ?_)
    refine zl_aaload (pc := 87) zr_73_87 (by decide) rfl g87 h (fun x87 h => ?_)
    refine z_gk h (fun e88 h => ?_)
    refine z_gk h (fun x88 h => ?_)
    refine z_gk h (fun g88 h => ?_)
    refine zq_aastore (pc := 88) zr_73_88 (by decide) e88 x88 rfl g88 rfl h (fun W7207 h => ?_)
    refine zq_iinc (pc := 89) (ls2 := [some (.inr (.inr 37)), some (.inr (.inr 70)), some (.inl (z_add l2 1))]) zr_73_89 rfl rfl rfl ?_
    refine ze_goto (pc := 92) (t := 71) zr_73_92 (by decide) ?_
    exact h
  · refine ze_aload_n (pc := 95) zr_73_95 rfl ?_
    refine ze_aload_n (pc := 96) zr_73_96 rfl ?_
    refine ze_getfield (pc := 97) (v := .inl (V 70 7)) zr_73_97 rfl rfl ?_
    refine zq_putI (pc := 100) zr_73_100 (by decide) rfl h (fun W7201 h => ?_)
    refine ze_aload_n (pc := 103) zr_73_103 rfl ?_
    refine ze_aload_n (pc := 104) zr_73_104 rfl ?_
    refine ze_getfield (pc := 105) (v := .inl (W7201 70 8)) zr_73_105 rfl rfl ?_
    refine zq_putI (pc := 108) zr_73_108 (by decide) rfl h (fun W7202 h => ?_)
    refine ze_aload_n (pc := 111) zr_73_111 rfl ?_
    refine ze_aload_n (pc := 112) zr_73_112 rfl ?_
    refine ze_getfield (pc := 113) (v := .inl (W7202 70 9)) zr_73_113 rfl rfl ?_
    refine zq_putI (pc := 116) zr_73_116 (by decide) rfl h (fun W7203 h => ?_)
    refine ze_aload_n (pc := 119) zr_73_119 rfl ?_
    refine ze_aload_n (pc := 120) zr_73_120 rfl ?_
    refine ze_getfield (pc := 121) (v := .inl (W7203 70 10)) zr_73_121 rfl rfl ?_
    refine zq_putI (pc := 124) zr_73_124 (by decide) rfl h (fun W7204 h => ?_)
    refine ze_aload_n (pc := 127) zr_73_127 rfl ?_
    refine ze_aload_n (pc := 128) zr_73_128 rfl ?_
    refine ze_getfield (pc := 129) (v := .inl (W7204 70 11)) zr_73_129 rfl rfl ?_
    refine zq_putI (pc := 132) zr_73_132 (by decide) rfl h (fun W7205 h => ?_)
    refine ze_aload_n (pc := 135) zr_73_135 rfl ?_
    refine ze_aload_n (pc := 136) zr_73_136 rfl ?_
    refine ze_getfield (pc := 137) (v := .inl (W7205 70 12)) zr_73_137 rfl rfl ?_
    refine zq_putI (pc := 140) zr_73_140 (by decide) rfl h (fun W7206 h => ?_)
    exact ze_vret (pc := 143) zr_73_143 rfl h
theorem zb73_54_37 {d : Nat} {Q : Int → z_M → Prop}  {V : z_M}
    (h : z_MS d 74 true [.inr (.inr 38), .inr (.inr 55)] V (fun z1 V1 => z_MS d 74 true [.inr (.inr 43), .inr (.inr 60)] V1 (fun z2 V2 => z_MS d 74 true [.inr (.inr 48), .inr (.inr 65)] V2 (fun z3 V3 => zGu (0 ≤ (2 : Int) ∧ 0 ≤ (0 : Int) ∧ 0 ≤ (0 : Int) ∧ (0 : Int) + (2 : Int) ≤ 2 ∧ (0 : Int) + (2 : Int) ≤ 2) (∀ W1, W1 = z_cpy V3 46 0 63 0 2 → zGu (0 ≤ (8 : Int) ∧ 0 ≤ (0 : Int) ∧ 0 ≤ (0 : Int) ∧ (0 : Int) + (8 : Int) ≤ 8 ∧ (0 : Int) + (8 : Int) ≤ 8) (∀ W2, W2 = z_cpy W1 51 0 68 0 8 → z_Ex (z_MS d) 73 Q true 71 [some (.inr (.inr 54)), some (.inr (.inr 37)), some (.inl 0)] [] 0 0 W2)))))) :
    z_MS (d + 1) 73 true [.inr (.inr 54), .inr (.inr 37)] V Q := by
  show z_Ex (z_MS d) 73 Q true 0 [some (.inr (.inr 54)), some (.inr (.inr 37)), none] [] 0 0 V
  refine ze_aload_n (pc := 0) zr_73_0 rfl ?_
  refine ze_getfield (pc := 1) (v := .inr (.inr 38)) zr_73_1 rfl rfl ?_
  refine ze_aload_n (pc := 4) zr_73_4 rfl ?_
  refine ze_getfield (pc := 5) (v := .inr (.inr 55)) zr_73_5 rfl rfl ?_
  refine zq_callS0 (pc := 8) (as := [.inr (.inr 38), .inr (.inr 55)]) (r := []) (kc2 := 0) (ks2 := 0) zr_73_8 rfl rfl rfl rfl ⟨rfl, rfl⟩ rfl h (fun z1 V1 h => ?_)
  refine ze_aload_n (pc := 11) zr_73_11 rfl ?_
  refine ze_getfield (pc := 12) (v := .inr (.inr 43)) zr_73_12 rfl rfl ?_
  refine ze_aload_n (pc := 15) zr_73_15 rfl ?_
  refine ze_getfield (pc := 16) (v := .inr (.inr 60)) zr_73_16 rfl rfl ?_
  refine zq_callS0 (pc := 19) (as := [.inr (.inr 43), .inr (.inr 60)]) (r := []) (kc2 := 0) (ks2 := 0) zr_73_19 rfl rfl rfl rfl ⟨rfl, rfl⟩ rfl h (fun z2 V2 h => ?_)
  refine ze_aload_n (pc := 22) zr_73_22 rfl ?_
  refine ze_getfield (pc := 23) (v := .inr (.inr 48)) zr_73_23 rfl rfl ?_
  refine ze_aload_n (pc := 26) zr_73_26 rfl ?_
  refine ze_getfield (pc := 27) (v := .inr (.inr 65)) zr_73_27 rfl rfl ?_
  refine zq_callS0 (pc := 30) (as := [.inr (.inr 48), .inr (.inr 65)]) (r := []) (kc2 := 0) (ks2 := 0) zr_73_30 rfl rfl rfl rfl ⟨rfl, rfl⟩ rfl h (fun z3 V3 h => ?_)
  refine ze_aload_n (pc := 33) zr_73_33 rfl ?_
  refine ze_getfield (pc := 34) (v := .inr (.inr 46)) zr_73_34 rfl rfl ?_
  refine ze_iconst (pc := 37) zr_73_37 (by decide) ?_
  refine ze_aload_n (pc := 38) zr_73_38 rfl ?_
  refine ze_getfield (pc := 39) (v := .inr (.inr 63)) zr_73_39 rfl rfl ?_
  refine ze_iconst (pc := 42) zr_73_42 (by decide) ?_
  refine ze_aload_n (pc := 43) zr_73_43 rfl ?_
  refine ze_getfield (pc := 44) (v := .inr (.inr 63)) zr_73_44 rfl rfl ?_
  refine ze_length (pc := 47) (z := 2) zr_73_47 (by decide) rfl ?_
  refine z_gk h (fun g48 h => ?_)
  refine zq_acopy (pc := 48) zr_73_48 ⟨rfl, rfl, by decide, Nat.le_of_ble_eq_true rfl⟩ rfl rfl g48 rfl rfl rfl h (fun W1 h => ?_)
  refine ze_aload_n (pc := 51) zr_73_51 rfl ?_
  refine ze_getfield (pc := 52) (v := .inr (.inr 51)) zr_73_52 rfl rfl ?_
  refine ze_iconst (pc := 55) zr_73_55 (by decide) ?_
  refine ze_aload_n (pc := 56) zr_73_56 rfl ?_
  refine ze_getfield (pc := 57) (v := .inr (.inr 68)) zr_73_57 rfl rfl ?_
  refine ze_iconst (pc := 60) zr_73_60 (by decide) ?_
  refine ze_aload_n (pc := 61) zr_73_61 rfl ?_
  refine ze_getfield (pc := 62) (v := .inr (.inr 68)) zr_73_62 rfl rfl ?_
  refine ze_length (pc := 65) (z := 8) zr_73_65 (by decide) rfl ?_
  refine z_gk h (fun g66 h => ?_)
  refine zq_acopy (pc := 66) zr_73_66 ⟨rfl, rfl, by decide, Nat.le_of_ble_eq_true rfl⟩ rfl rfl g66 rfl rfl rfl h (fun W2 h => ?_)
  refine ze_iconst (pc := 69) zr_73_69 (by decide) ?_
  refine zq_istore_n (pc := 70) (ls2 := [some (.inr (.inr 54)), some (.inr (.inr 37)), some (.inl 0)]) zr_73_70 rfl rfl ?_
  exact h
theorem zb73_54_37_p71 {d : Nat} {Q : Int → z_M → Prop} (l2 : Int) {V : z_M}
    (h : zI (l2 < 6) (zGu (0 ≤ l2 ∧ l2 < 6) (∀ x87 : Nat, x87 = z_rr true V 47 l2.toNat → zGu (x87 = 0 ∨ (36 ≤ x87 ∧ z_kd x87 = 5)) (zGu (true = true → z_rf 64 l2.toNat = 0) (zGu (0 ≤ l2 ∧ l2 < 6) (∀ W7207, W7207 = z_up V 64 l2.toNat (x87 : Nat) → z_Ex (z_MS d) 73 Q true 71 [some (.inr (.inr 54)), some (.inr (.inr 37)), some (.inl (z_add l2 1))] [] 0 0 W7207))))) (∀ W7201, W7201 = z_up V 54 7 (V 37 7) → ∀ W7202, W7202 = z_up W7201 54 8 (W7201 37 8) → ∀ W7203, W7203 = z_up W7202 54 9 (W7202 37 9) → ∀ W7204, W7204 = z_up W7203 54 10 (W7203 37 10) → ∀ W7205, W7205 = z_up W7204 54 11 (W7204 37 11) → ∀ W7206, W7206 = z_up W7205 54 12 (W7205 37 12) → Q 0 W7206)) :
    z_Ex (z_MS d) 73 Q true 71 [some (.inr (.inr 54)), some (.inr (.inr 37)), some (.inl l2)] [] 0 0 V := by
  refine ze_iload_n (pc := 71) zr_73_71 rfl ?_
  refine ze_bipush (pc := 72) zr_73_72 (by decide) ?_
  refine zq_icmp_ge (pc := 74) (t := 95) zr_73_74 (by decide) (z_toif h) (fun h => ?_) (fun h => ?_)
  · refine ze_aload_n (pc := 77) zr_73_77 rfl ?_
    refine ze_getfield (pc := 78) (v := .inr (.inr 64)) zr_73_78 rfl rfl ?_
    refine ze_iload_n (pc := 81) zr_73_81 rfl ?_
    refine ze_aload_n (pc := 82) zr_73_82 rfl ?_
    refine ze_getfield (pc := 83) (v := .inr (.inr 47)) zr_73_83 rfl rfl ?_
    refine ze_iload_n (pc := 86) zr_73_86 rfl ?_
    refine z_gk h (fun g87 h => ?_)
    refine zl_aaload (pc := 87) zr_73_87 (by decide) rfl g87 h (fun x87 h => ?_)
    refine z_gk h (fun e88 h => ?_)
    refine z_gk h (fun x88 h => ?_)
    refine z_gk h (fun g88 h => ?_)
    refine zq_aastore (pc := 88) zr_73_88 (by decide) e88 x88 rfl g88 rfl h (fun W7207 h => ?_)
    refine zq_iinc (pc := 89) (ls2 := [some (.inr (.inr 54)), some (.inr (.inr 37)), some (.inl (z_add l2 1))]) zr_73_89 rfl rfl rfl ?_
    refine ze_goto (pc := 92) (t := 71) zr_73_92 (by decide) ?_
    exact h
  · refine ze_aload_n (pc := 95) zr_73_95 rfl ?_
    refine ze_aload_n (pc := 96) zr_73_96 rfl ?_
    refine ze_getfield (pc := 97) (v := .inl (V 37 7)) zr_73_97 rfl rfl ?_
    refine zq_putI (pc := 100) zr_73_100 (by decide) rfl h (fun W7201 h => ?_)
    refine ze_aload_n (pc := 103) zr_73_103 rfl ?_
    refine ze_aload_n (pc := 104) zr_73_104 rfl ?_
    refine ze_getfield (pc := 105) (v := .inl (W7201 37 8)) zr_73_105 rfl rfl ?_
    refine zq_putI (pc := 108) zr_73_108 (by decide) rfl h (fun W7202 h => ?_)
    refine ze_aload_n (pc := 111) zr_73_111 rfl ?_
    refine ze_aload_n (pc := 112) zr_73_112 rfl ?_
    refine ze_getfield (pc := 113) (v := .inl (W7202 37 9)) zr_73_113 rfl rfl ?_
    refine zq_putI (pc := 116) zr_73_116 (by decide) rfl h (fun W7203 h => ?_)
    refine ze_aload_n (pc := 119) zr_73_119 rfl ?_
    refine ze_aload_n (pc := 120) zr_73_120 rfl ?_
    refine ze_getfield (pc := 121) (v := .inl (W7203 37 10)) zr_73_121 rfl rfl ?_
    refine zq_putI (pc := 124) zr_73_124 (by decide) rfl h (fun W7204 h => ?_)
    refine ze_aload_n (pc := 127) zr_73_127 rfl ?_
    refine ze_aload_n (pc := 128) zr_73_128 rfl ?_
    refine ze_getfield (pc := 129) (v := .inl (W7204 37 11)) zr_73_129 rfl rfl ?_
    refine zq_putI (pc := 132) zr_73_132 (by decide) rfl h (fun W7205 h => ?_)
    refine ze_aload_n (pc := 135) zr_73_135 rfl ?_
    refine ze_aload_n (pc := 136) zr_73_136 rfl ?_
    refine ze_getfield (pc := 137) (v := .inl (W7205 37 12)) zr_73_137 rfl rfl ?_
    refine zq_putI (pc := 140) zr_73_140 (by decide) rfl h (fun W7206 h => ?_)
    exact ze_vret (pc := 143) zr_73_143 rfl h
