/-! blocks of rows: printed by a program (blk2.py) -/
theorem zb87_37_139 {d : Nat} {Q : Int → z_M → Prop}  {V : z_M}
    (h : zI (12 < (V 37 7)) (Q 0 V) (z_Ex (z_MS d) 87 Q true 12 [some (.inr (.inr 37)), some (.inr (.inr 139)), some (.inl 0), none] [] 0 0 V)) :
    z_MS (d + 1) 87 true [.inr (.inr 37), .inr (.inr 139)] V Q := by
  show z_Ex (z_MS d) 87 Q true 0 [some (.inr (.inr 37)), some (.inr (.inr 139)), none, none] [] 0 0 V
  refine ze_aload_n (pc := 0) zr_87_0 rfl ?_
  refine ze_length (pc := 1) (z := 12) zr_87_1 (by decide) rfl ?_
  refine ze_aload_n (pc := 2) zr_87_2 rfl ?_
  refine ze_getfield (pc := 3) (v := .inl (V 37 7)) zr_87_3 rfl rfl ?_
  refine zq_icmp_ge (pc := 6) (t := 10) zr_87_6 (by decide) (z_toif h) (fun h => ?_) (fun h => ?_)
  · exact ze_vret (pc := 9) zr_87_9 rfl h
  · refine ze_iconst (pc := 10) zr_87_10 (by decide) ?_
    refine zq_istore_n (pc := 11) (ls2 := [some (.inr (.inr 37)), some (.inr (.inr 139)), some (.inl 0), none]) zr_87_11 rfl rfl ?_
    exact h
theorem zb87_37_139_p12 {d : Nat} {Q : Int → z_M → Prop} (l2 : Int) (o3 : Option z_V) {V : z_M}
    (h : zI (3 < l2) (z_Ex (z_MS d) 87 Q true 86 [some (.inr (.inr 37)), some (.inr (.inr 139)), some (.inl 0), o3] [] 0 0 V) (zGu (0 ≤ l2 ∧ l2 < 4) (∀ x22 : Nat, x22 = z_rr true V 38 l2.toNat → zGu (z_kd x22 = 101 ∧ z_kd 52 = 101 ∧ 36 ≤ 52 ∧ z_sum [] ≤ 8) (zGu (0 ≤ (V 37 7) ∧ 0 ≤ (0 : Int) ∧ 0 ≤ (0 : Int) ∧ (0 : Int) + (V 37 7) ≤ z_len' V x22 ∧ (0 : Int) + (V 37 7) ≤ 12) (∀ W1301, W1301 = z_cpy V x22 0 52 0 (V 37 7).toNat → z_Ex (z_MS d) 87 Q true 38 [some (.inr (.inr 37)), some (.inr (.inr 139)), some (.inl l2), some (.inl 0)] [] 0 0 W1301))))) :
    z_Ex (z_MS d) 87 Q true 12 [some (.inr (.inr 37)), some (.inr (.inr 139)), some (.inl l2), o3] [] 0 0 V := by
  refine ze_iload_n (pc := 12) zr_87_12 rfl ?_
  refine ze_iconst (pc := 13) zr_87_13 (by decide) ?_
  refine zq_icmp_gt (pc := 14) (t := 84) zr_87_14 (by decide) (z_toif h) (fun h => ?_) (fun h => ?_)
  · refine ze_iconst (pc := 84) zr_87_84 (by decide) ?_
    refine zq_istore_n (pc := 85) (ls2 := [some (.inr (.inr 37)), some (.inr (.inr 139)), some (.inl 0), o3]) zr_87_85 rfl rfl ?_
    exact h
  · refine ze_aload_n (pc := 17) zr_87_17 rfl ?_
    refine ze_getfield (pc := 18) (v := .inr (.inr 38)) zr_87_18 rfl rfl ?_
    refine ze_iload_n (pc := 21) zr_87_21 rfl ?_
    refine z_gk h (fun g22 h => ?_)
    refine zl_aaload (pc := 22) zr_87_22 (by decide) rfl g22 h (fun x22 h => ?_)
    refine ze_iconst (pc := 23) zr_87_23 (by decide) ?_
    refine ze_aload_n (pc := 24) zr_87_24 rfl ?_
    refine ze_getfield (pc := 25) (v := .inr (.inr 52)) zr_87_25 rfl rfl ?_
    refine ze_iconst (pc := 28) zr_87_28 (by decide) ?_
    refine ze_aload_n (pc := 29) zr_87_29 rfl ?_
    refine ze_getfield (pc := 30) (v := .inl (V 37 7)) zr_87_30 rfl rfl ?_
    refine z_gk h (fun k33 h => ?_)
    refine z_gk h (fun g33 h => ?_)
    refine zq_acopyv (pc := 33) zr_87_33 k33 g33 rfl rfl rfl h (fun W1301 h => ?_)
    refine ze_iconst (pc := 36) zr_87_36 (by decide) ?_
    refine zq_istore_n (pc := 37) (ls2 := [some (.inr (.inr 37)), some (.inr (.inr 139)), some (.inl l2), some (.inl 0)]) zr_87_37 rfl rfl ?_
    exact h
theorem zb87_37_139_p38 {d : Nat} {Q : Int → z_M → Prop} (l2 : Int) (l3 : Int) {V : z_M}
    (h : zI (l3 < (V 37 7)) (zGu (0 ≤ l3 ∧ l3 < 12) (∀ x49 : Int, x49 = V 139 l3.toNat → z_MS d 75 true [.inr (.inr 37), .inl x49] V (fun z3901 V3901 => zI (z3901 = 0) (z_Ex (z_MS d) 87 Q true 38 [some (.inr (.inr 37)), some (.inr (.inr 139)), some (.inl l2), some (.inl (z_add l3 1))] [] 0 0 V3901) (zGu (0 ≤ l2 ∧ l2 < 4) (∀ x61 : Nat, x61 = z_rr true V3901 38 l2.toNat → zGu (0 ≤ l3 ∧ l3 < 12) (∀ x69 : Int, x69 = V3901 139 l3.toNat → zGu (0 ≤ x69 ∧ x69 < 12) (∀ x70 : Int, x70 = V3901 52 x69.toNat → zGu (z_kd x61 = 101 ∧ 36 ≤ x61) (zGu (0 ≤ l3 ∧ l3 < z_len' V3901 x61) (∀ W3901, W3901 = z_up V3901 x61 l3.toNat x70 → z_Ex (z_MS d) 87 Q true 38 [some (.inr (.inr 37)), some (.inr (.inr 139)), some (.inl l2), some (.inl (z_add l3 1))] [] 0 0 W3901))))))))) (z_Ex (z_MS d) 87 Q true 12 [some (.inr (.inr 37)), some (.inr (.inr 139)), some (.inl (z_add l2 1)), some (.inl l3)] [] 0 0 V)) :
    z_Ex (z_MS d) 87 Q true 38 [some (.inr (.inr 37)), some (.inr (.inr 139)), some (.inl l2), some (.inl l3)] [] 0 0 V := by
  refine ze_iload_n (pc := 38) zr_87_38 rfl ?_
  refine ze_aload_n (pc := 39) zr_87_39 rfl ?_
  refine ze_getfield (pc := 40) (v := .inl (V 37 7)) zr_87_40 rfl rfl ?_
  refine zq_icmp_ge (pc := 43) (t := 78) zr_87_43 (by decide) (z_toif h) (fun h => ?_) (fun h => ?_)
  · refine ze_aload_n (pc := 46) zr_87_46 rfl ?_
    refine ze_aload_n (pc := 47) zr_87_47 rfl ?_
    refine ze_iload_n (pc := 48) zr_87_48 rfl ?_
    refine z_gk h (fun g49 h => ?_)
    refine zl_iaload (pc := 49) zr_87_49 rfl rfl g49 h (fun x49 h => ?_)
    refine zq_callV1 (pc := 50) (as := [.inr (.inr 37), .inl x49]) (r := []) (kc2 := 0) (ks2 := 0) zr_87_50 rfl (by decide) rfl rfl rfl rfl ⟨rfl, rfl⟩ ⟨rfl, rfl, rfl⟩ h (fun z3901 V3901 h => ?_)
    refine zq_if_eq (pc := 53) (t := 72) zr_87_53 (by decide) (z_toif h) (fun h => ?_) (fun h => ?_)
    · refine zq_iinc (pc := 72) (ls2 := [some (.inr (.inr 37)), some (.inr (.inr 139)), some (.inl l2), some (.inl (z_add l3 1))]) zr_87_72 rfl rfl rfl ?_
      refine ze_goto (pc := 75) (t := 38) zr_87_75 (by decide) ?_
      exact h
    · refine ze_aload_n (pc := 56) zr_87_56 rfl ?_
      refine ze_getfield (pc := 57) (v := .inr (.inr 38)) zr_87_57 rfl rfl ?_
      refine ze_iload_n (pc := 60) zr_87_60 rfl ?_
      refine z_gk h (fun g61 h => ?_)
      refine zl_aaload (pc := 61) zr_87_61 (by decide) rfl g61 h (fun x61 h => ?_)
      refine ze_iload_n (pc := 62) zr_87_62 rfl ?_
      refine ze_aload_n (pc := 63) zr_87_63 rfl ?_
      refine ze_getfield (pc := 64) (v := .inr (.inr 52)) zr_87_64 rfl rfl ?_
      refine ze_aload_n (pc := 67) zr_87_67 rfl ?_
      refine ze_iload_n (pc := 68) zr_87_68 rfl ?_
      refine z_gk h (fun g69 h => ?_)
      refine zl_iaload (pc := 69) zr_87_69 rfl rfl g69 h (fun x69 h => ?_)
      refine z_gk h (fun g70 h => ?_)
      refine zl_iaload (pc := 70) zr_87_70 rfl rfl g70 h (fun x70 h => ?_)
      refine z_gk h (fun k71 h => ?_)
      refine z_gk h (fun g71 h => ?_)
      refine zq_iastorev (pc := 71) zr_87_71 k71 g71 rfl h (fun W3901 h => ?_)
      refine zq_iinc (pc := 72) (ls2 := [some (.inr (.inr 37)), some (.inr (.inr 139)), some (.inl l2), some (.inl (z_add l3 1))]) zr_87_72 rfl rfl rfl ?_
      refine ze_goto (pc := 75) (t := 38) zr_87_75 (by decide) ?_
      exact h
  · refine zq_iinc (pc := 78) (ls2 := [some (.inr (.inr 37)), some (.inr (.inr 139)), some (.inl (z_add l2 1)), some (.inl l3)]) zr_87_78 rfl rfl rfl ?_
    refine ze_goto (pc := 81) (t := 12) zr_87_81 (by decide) ?_
    exact h
theorem zb87_37_139_p86 {d : Nat} {Q : Int → z_M → Prop} (l2 : Int) (o3 : Option z_V) {V : z_M}
    (h : zI (l2 < (V 37 11)) (zGu (0 ≤ l2 ∧ l2 < 7) (∀ x110 : Int, x110 = V 50 l2.toNat → z_MS d 88 true [.inr (.inr 37), .inr (.inr 139), .inl x110] V (fun z8701 V8701 => zGu (0 ≤ l2 ∧ l2 < 7) (∀ W8701, W8701 = z_up V8701 50 l2.toNat z8701 → z_Ex (z_MS d) 87 Q true 86 [some (.inr (.inr 37)), some (.inr (.inr 139)), some (.inl (z_add l2 1)), o3] [] 0 0 W8701)))) (Q 0 V)) :
    z_Ex (z_MS d) 87 Q true 86 [some (.inr (.inr 37)), some (.inr (.inr 139)), some (.inl l2), o3] [] 0 0 V := by
  refine ze_iload_n (pc := 86) zr_87_86 rfl ?_
  refine ze_aload_n (pc := 87) zr_87_87 rfl ?_
  refine ze_getfield (pc := 88) (v := .inl (V 37 11)) zr_87_88 rfl rfl ?_
  refine zq_icmp_ge (pc := 91) (t := 121) zr_87_91 (by decide) (z_toif h) (fun h => ?_) (fun h => ?_)
  · refine ze_aload_n (pc := 94) zr_87_94 rfl ?_
    refine ze_getfield (pc := 95) (v := .inr (.inr 48)) zr_87_95 rfl rfl ?_
    refine ze_iconst (pc := 98) zr_87_98 (by decide) ?_
    refine zq_aaload (pc := 99) (v := .inr (.inr 50)) zr_87_99 (by decide) rfl (by decide) rfl ?_
    refine ze_iload_n (pc := 100) zr_87_100 rfl ?_
    refine ze_aload_n (pc := 101) zr_87_101 rfl ?_
    refine ze_aload_n (pc := 102) zr_87_102 rfl ?_
    refine ze_aload_n (pc := 103) zr_87_103 rfl ?_
    refine ze_getfield (pc := 104) (v := .inr (.inr 48)) zr_87_104 rfl rfl ?_
    refine ze_iconst (pc := 107) zr_87_107 (by decide) ?_
    refine zq_aaload (pc := 108) (v := .inr (.inr 50)) zr_87_108 (by decide) rfl (by decide) rfl ?_
    refine ze_iload_n (pc := 109) zr_87_109 rfl ?_
    refine z_gk h (fun g110 h => ?_)
    refine zl_iaload (pc := 110) zr_87_110 rfl rfl g110 h (fun x110 h => ?_)
    refine zq_callV1 (pc := 111) (as := [.inr (.inr 37), .inr (.inr 139), .inl x110]) (r := [.inl l2, .inr (.inr 50)]) (kc2 := 0) (ks2 := 0) zr_87_111 rfl (by decide) rfl rfl rfl rfl ⟨rfl, rfl⟩ ⟨rfl, rfl, rfl⟩ h (fun z8701 V8701 h => ?_)
    refine z_gk h (fun g114 h => ?_)
    refine zq_iastore (pc := 114) zr_87_114 (by decide) rfl g114 rfl h (fun W8701 h => ?_)
    refine zq_iinc (pc := 115) (ls2 := [some (.inr (.inr 37)), some (.inr (.inr 139)), some (.inl (z_add l2 1)), o3]) zr_87_115 rfl rfl rfl ?_
    refine ze_goto (pc := 118) (t := 86) zr_87_118 (by decide) ?_
    exact h
  · exact ze_vret (pc := 121) zr_87_121 rfl h
theorem zb88_37_124 {d : Nat} {Q : Int → z_M → Prop} (a1 : Int) {V : z_M}
    (h : z_Ex (z_MS d) 88 Q true 2 [some (.inr (.inr 37)), some (.inr (.inr 124)), some (.inl a1), some (.inl 0)] [] 0 0 V) :
    z_MS (d + 1) 88 true [.inr (.inr 37), .inr (.inr 124), .inl a1] V Q := by
  show z_Ex (z_MS d) 88 Q true 0 [some (.inr (.inr 37)), some (.inr (.inr 124)), some (.inl a1), none] [] 0 0 V
  refine ze_iconst (pc := 0) zr_88_0 (by decide) ?_
  refine zq_istore_n (pc := 1) (ls2 := [some (.inr (.inr 37)), some (.inr (.inr 124)), some (.inl a1), some (.inl 0)]) zr_88_1 rfl rfl ?_
  exact h
theorem zb88_37_124_p2 {d : Nat} {Q : Int → z_M → Prop} (l2 : Int) (l3 : Int) {V : z_M}
    (h : zI (l3 < (V 37 7)) (zI (l3 < 7) (zGu (0 ≤ l3 ∧ l3 < 7) (∀ x18 : Int, x18 = V 124 l3.toNat → zI (x18 = l2) (Q l3 V) (z_Ex (z_MS d) 88 Q true 2 [some (.inr (.inr 37)), some (.inr (.inr 124)), some (.inl l2), some (.inl (z_add l3 1))] [] 0 0 V))) (Q l2 V)) (Q l2 V)) :
    z_Ex (z_MS d) 88 Q true 2 [some (.inr (.inr 37)), some (.inr (.inr 124)), some (.inl l2), some (.inl l3)] [] 0 0 V := by
  refine ze_iload_n (pc := 2) zr_88_2 rfl ?_
  refine ze_aload_n (pc := 3) zr_88_3 rfl ?_
  refine ze_getfield (pc := 4) (v := .inl (V 37 7)) zr_88_4 rfl rfl ?_
  refine zq_icmp_ge (pc := 7) (t := 31) zr_88_7 (by decide) (z_toif h) (fun h => ?_) (fun h => ?_)
  · refine ze_iload_n (pc := 10) zr_88_10 rfl ?_
    refine ze_aload_n (pc := 11) zr_88_11 rfl ?_
    refine ze_length (pc := 12) (z := 7) zr_88_12 (by decide) rfl ?_
    refine zq_icmp_ge (pc := 13) (t := 31) zr_88_13 (by decide) (z_toif h) (fun h => ?_) (fun h => ?_)
    · refine ze_aload_n (pc := 16) zr_88_16 rfl ?_
      refine ze_iload_n (pc := 17) zr_88_17 rfl ?_
      refine z_gk h (fun g18 h => ?_)
      refine zl_iaload (pc := 18) zr_88_18 rfl rfl g18 h (fun x18 h => ?_)
      refine ze_iload_n (pc := 19) zr_88_19 rfl ?_
      refine zq_icmp_ne (pc := 20) (t := 25) zr_88_20 (by decide) (z_toif h) (fun h => ?_) (fun h => ?_)
      · refine ze_iload_n (pc := 23) zr_88_23 rfl ?_
        exact zq_ret1 (pc := 24) zr_88_24 rfl h
      · refine zq_iinc (pc := 25) (ls2 := [some (.inr (.inr 37)), some (.inr (.inr 124)), some (.inl l2), some (.inl (z_add l3 1))]) zr_88_25 rfl rfl rfl ?_
        refine ze_goto (pc := 28) (t := 2) zr_88_28 (by decide) ?_
        exact h
    · refine ze_iload_n (pc := 31) zr_88_31 rfl ?_
      exact zq_ret1 (pc := 32) zr_88_32 rfl h
  · refine ze_iload_n (pc := 31) zr_88_31 rfl ?_
    exact zq_ret1 (pc := 32) zr_88_32 rfl h
theorem zb88_37_139 {d : Nat} {Q : Int → z_M → Prop} (a1 : Int) {V : z_M}
    (h : z_Ex (z_MS d) 88 Q true 2 [some (.inr (.inr 37)), some (.inr (.inr 139)), some (.inl a1), some (.inl 0)] [] 0 0 V) :
    z_MS (d + 1) 88 true [.inr (.inr 37), .inr (.inr 139), .inl a1] V Q := by
  show z_Ex (z_MS d) 88 Q true 0 [some (.inr (.inr 37)), some (.inr (.inr 139)), some (.inl a1), none] [] 0 0 V
  refine ze_iconst (pc := 0) zr_88_0 (by decide) ?_
  refine zq_istore_n (pc := 1) (ls2 := [some (.inr (.inr 37)), some (.inr (.inr 139)), some (.inl a1), some (.inl 0)]) zr_88_1 rfl rfl ?_
  exact h
theorem zb88_37_139_p2 {d : Nat} {Q : Int → z_M → Prop} (l2 : Int) (l3 : Int) {V : z_M}
    (h : zI (l3 < (V 37 7)) (zI (l3 < 12) (zGu (0 ≤ l3 ∧ l3 < 12) (∀ x18 : Int, x18 = V 139 l3.toNat → zI (x18 = l2) (Q l3 V) (z_Ex (z_MS d) 88 Q true 2 [some (.inr (.inr 37)), some (.inr (.inr 139)), some (.inl l2), some (.inl (z_add l3 1))] [] 0 0 V))) (Q l2 V)) (Q l2 V)) :
    z_Ex (z_MS d) 88 Q true 2 [some (.inr (.inr 37)), some (.inr (.inr 139)), some (.inl l2), some (.inl l3)] [] 0 0 V := by
  refine ze_iload_n (pc := 2) zr_88_2 rfl ?_
  refine ze_aload_n (pc := 3) zr_88_3 rfl ?_
  refine ze_getfield (pc := 4) (v := .inl (V 37 7)) zr_88_4 rfl rfl ?_
  refine zq_icmp_ge (pc := 7) (t := 31) zr_88_7 (by decide) (z_toif h) (fun h => ?_) (fun h => ?_)
  · refine ze_iload_n (pc := 10) zr_88_10 rfl ?_
    refine ze_aload_n (pc := 11) zr_88_11 rfl ?_
    refine ze_length (pc := 12) (z := 12) zr_88_12 (by decide) rfl ?_
    refine zq_icmp_ge (pc := 13) (t := 31) zr_88_13 (by decide) (z_toif h) (fun h => ?_) (fun h => ?_)
    · refine ze_aload_n (pc := 16) zr_88_16 rfl ?_
      refine ze_iload_n (pc := 17) zr_88_17 rfl ?_
      refine z_gk h (fun g18 h => ?_)
      refine zl_iaload (pc := 18) zr_88_18 rfl rfl g18 h (fun x18 h => ?_)
      refine ze_iload_n (pc := 19) zr_88_19 rfl ?_
      refine zq_icmp_ne (pc := 20) (t := 25) zr_88_20 (by decide) (z_toif h) (fun h => ?_) (fun h => ?_)
      · refine ze_iload_n (pc := 23) zr_88_23 rfl ?_
        exact zq_ret1 (pc := 24) zr_88_24 rfl h
      · refine zq_iinc (pc := 25) (ls2 := [some (.inr (.inr 37)), some (.inr (.inr 139)), some (.inl l2), some (.inl (z_add l3 1))]) zr_88_25 rfl rfl rfl ?_
        refine ze_goto (pc := 28) (t := 2) zr_88_28 (by decide) ?_
        exact h
    · refine ze_iload_n (pc := 31) zr_88_31 rfl ?_
      exact zq_ret1 (pc := 32) zr_88_32 rfl h
  · refine ze_iload_n (pc := 31) zr_88_31 rfl ?_
    exact zq_ret1 (pc := 32) zr_88_32 rfl h
theorem zb89_37 {d : Nat} {Q : Int → z_M → Prop} (a0 : Int) (a1 : Int) {V : z_M}
    (h : z_MS d 75 true [.inr (.inr 37), .inl a0] V (fun z1 V1 => zI (z1 = 0) (Q 0 V1) (z_MS d 75 true [.inr (.inr 37), .inl a1] V1 (fun z2 V2 => zI (z2 = 0) (Q 0 V2) (zGu (0 ≤ a1 ∧ a1 < 12) (∀ x23 : Int, x23 = V2 39 a1.toNat → zGu (0 ≤ a0 ∧ a0 < 12) (∀ x31 : Int, x31 = V2 39 a0.toNat → Q (if x31 < x23 then 0 else 1) V2))))))) :
    z_MS (d + 1) 89 true [.inr (.inr 37), .inl a0, .inl a1] V Q := by
  show z_Ex (z_MS d) 89 Q true 0 [some (.inr (.inr 37)), some (.inl a0), some (.inl a1)] [] 0 0 V
  refine ze_aload_n (pc := 0) zr_89_0 rfl ?_
  refine ze_iload_n (pc := 1) zr_89_1 rfl ?_
  refine zq_callV1 (pc := 2) (as := [.inr (.inr 37), .inl a0]) (r := []) (kc2 := 0) (ks2 := 0) zr_89_2 rfl (by decide) rfl rfl rfl rfl ⟨rfl, rfl⟩ ⟨rfl, rfl, rfl⟩ h (fun z1 V1 h => ?_)
  refine zq_if_eq (pc := 5) (t := 39) zr_89_5 (by decide) (z_toif h) (fun h => ?_) (fun h => ?_)
  · refine ze_iconst (pc := 39) zr_89_39 (by decide) ?_
    exact zq_ret4 (pc := 40) zr_89_40 rfl (by decide) h
  · refine ze_aload_n (pc := 8) zr_89_8 rfl ?_
    refine ze_iload_n (pc := 9) zr_89_9 rfl ?_
    refine zq_callV1 (pc := 10) (as := [.inr (.inr 37), .inl a1]) (r := []) (kc2 := 0) (ks2 := 0) zr_89_10 rfl (by decide) rfl rfl rfl rfl ⟨rfl, rfl⟩ ⟨rfl, rfl, rfl⟩ h (fun z2 V2 h => ?_)
    refine zq_if_eq (pc := 13) (t := 39) zr_89_13 (by decide) (z_toif h) (fun h => ?_) (fun h => ?_)
    · refine ze_iconst (pc := 39) zr_89_39 (by decide) ?_
      exact zq_ret4 (pc := 40) zr_89_40 rfl (by decide) h
    · refine ze_aload_n (pc := 16) zr_89_16 rfl ?_
      refine ze_getfield (pc := 17) (v := .inr (.inr 38)) zr_89_17 rfl rfl ?_
      refine ze_iconst (pc := 20) zr_89_20 (by decide) ?_
      refine zq_aaload (pc := 21) (v := .inr (.inr 39)) zr_89_21 (by decide) rfl (by decide) rfl ?_
      refine ze_iload_n (pc := 22) zr_89_22 rfl ?_
      refine z_gk h (fun g23 h => ?_)
      refine zl_iaload (pc := 23) zr_89_23 rfl rfl g23 h (fun x23 h => ?_)
      refine ze_aload_n (pc := 24) zr_89_24 rfl ?_
      refine ze_getfield (pc := 25) (v := .inr (.inr 38)) zr_89_25 rfl rfl ?_
      refine ze_iconst (pc := 28) zr_89_28 (by decide) ?_
      refine zq_aaload (pc := 29) (v := .inr (.inr 39)) zr_89_29 (by decide) rfl (by decide) rfl ?_
      refine ze_iload_n (pc := 30) zr_89_30 rfl ?_
      refine z_gk h (fun g31 h => ?_)
      refine zl_iaload (pc := 31) zr_89_31 rfl rfl g31 h (fun x31 h => ?_)
      have j32 : z_Ex (z_MS d) 89 Q true 40 [some (.inr (.inr 37)), some (.inl a0), some (.inl a1)] [.inl (if x31 < x23 then 0 else 1)] 0 0 V2 := by
        exact zq_ret4 (pc := 40) zr_89_40 rfl (by (repeat' split) <;> decide) h
      refine ze_icmp_gt (pc := 32) (t := 39) zr_89_32 (by decide) (fun hc => ?_) (fun hc => ?_)
      · rw [if_pos (show x31 < x23 from hc)] at j32
        refine ze_iconst (pc := 39) zr_89_39 (by decide) ?_
        exact j32
      · rw [if_neg (show ¬ (x31 < x23) from hc)] at j32
        refine ze_iconst (pc := 35) zr_89_35 (by decide) ?_
        refine ze_goto (pc := 36) (t := 40) zr_89_36 (by decide) ?_
        exact j32
theorem zb90_37 {d : Nat} {Q : Int → z_M → Prop} (a0 : Int) (a1 : Int) {V : z_M}
    (h : zI (a0 < 0) (Q 0 V) (zI ((V 37 7) < (z_add a0 (V 37 12))) (Q 0 V) (z_Ex (z_MS d) 90 Q true 21 [some (.inr (.inr 37)), some (.inl a0), some (.inl a1), some (.inl 0)] [] 0 0 V))) :
    z_MS (d + 1) 90 true [.inr (.inr 37), .inl a0, .inl a1] V Q := by
  show z_Ex (z_MS d) 90 Q true 0 [some (.inr (.inr 37)), some (.inl a0), some (.inl a1), none] [] 0 0 V
  refine ze_iload_n (pc := 0) zr_90_0 rfl ?_
  refine zq_if_lt (pc := 1) (t := 17) zr_90_1 (by decide) (z_toif h) (fun h => ?_) (fun h => ?_)
  · refine ze_iconst (pc := 17) zr_90_17 (by decide) ?_
    exact zq_ret4 (pc := 18) zr_90_18 rfl (by decide) h
  · refine ze_iload_n (pc := 4) zr_90_4 rfl ?_
    refine ze_aload_n (pc := 5) zr_90_5 rfl ?_
    refine ze_getfield (pc := 6) (v := .inl (V 37 12)) zr_90_6 rfl rfl ?_
    refine ze_iadd (pc := 9) zr_90_9 ?_
    refine ze_aload_n (pc := 10) zr_90_10 rfl ?_
    refine ze_getfield (pc := 11) (v := .inl (V 37 7)) zr_90_11 rfl rfl ?_
    refine zq_icmp_le (pc := 14) (t := 19) zr_90_14 (by decide) (z_toif h) (fun h => ?_) (fun h => ?_)
    · refine ze_iconst (pc := 17) zr_90_17 (by decide) ?_
      exact zq_ret4 (pc := 18) zr_90_18 rfl (by decide) h
    · refine ze_iconst (pc := 19) zr_90_19 (by decide) ?_
      refine zq_istore_n (pc := 20) (ls2 := [some (.inr (.inr 37)), some (.inl a0), some (.inl a1), some (.inl 0)]) zr_90_20 rfl rfl ?_
      exact h
theorem zb90_37_p21 {d : Nat} {Q : Int → z_M → Prop} (l1 : Int) (l2 : Int) (l3 : Int) {V : z_M}
    (h : zI (l3 < (V 37 12)) (zGu (0 ≤ (z_add l1 l3) ∧ (z_add l1 l3) < 12) (∀ x38 : Int, x38 = V 39 (z_add l1 l3).toNat → zGu (0 ≤ l3 ∧ l3 < 8) (∀ x44 : Int, x44 = V 51 l3.toNat → zI (l2 < (z_abs (z_sub x38 x44))) (Q 0 V) (z_Ex (z_MS d) 90 Q true 21 [some (.inr (.inr 37)), some (.inl l1), some (.inl l2), some (.inl (z_add l3 1))] [] 0 0 V)))) (Q 1 V)) :
    z_Ex (z_MS d) 90 Q true 21 [some (.inr (.inr 37)), some (.inl l1), some (.inl l2), some (.inl l3)] [] 0 0 V := by
  refine ze_iload_n (pc := 21) zr_90_21 rfl ?_
  refine ze_aload_n (pc := 22) zr_90_22 rfl ?_
  refine ze_getfield (pc := 23) (v := .inl (V 37 12)) zr_90_23 rfl rfl ?_
  refine zq_icmp_ge (pc := 26) (t := 61) zr_90_26 (by decide) (z_toif h) (fun h => ?_) (fun h => ?_)
  · refine ze_aload_n (pc := 29) zr_90_29 rfl ?_
    refine ze_getfield (pc := 30) (v := .inr (.inr 38)) zr_90_30 rfl rfl ?_
    refine ze_iconst (pc := 33) zr_90_33 (by decide) ?_
    refine zq_aaload (pc := 34) (v := .inr (.inr 39)) zr_90_34 (by decide) rfl (by decide) rfl ?_
    refine ze_iload_n (pc := 35) zr_90_35 rfl ?_
    refine ze_iload_n (pc := 36) zr_90_36 rfl ?_
    refine ze_iadd (pc := 37) zr_90_37 ?_
    refine z_gk h (fun g38 h => ?_)
    refine zl_iaload (pc := 38) zr_90_38 rfl rfl g38 h (fun x38 h => ?_)
    refine ze_aload_n (pc := 39) zr_90_39 rfl ?_
    refine ze_getfield (pc := 40) (v := .inr (.inr 51)) zr_90_40 rfl rfl ?_
    refine ze_iload_n (pc := 43) zr_90_43 rfl ?_
    refine z_gk h (fun g44 h => ?_)
    refine zl_iaload (pc := 44) zr_90_44 rfl rfl g44 h (fun x44 h => ?_)
    refine ze_isub (pc := 45) zr_90_45 ?_
    refine zq_abs (pc := 46) zr_90_46 (Nat.le_of_ble_eq_true rfl) ?_
    refine ze_iload_n (pc := 49) zr_90_49 rfl ?_
    refine zq_icmp_le (pc := 50) (t := 55) zr_90_50 (by decide) (z_toif h) (fun h => ?_) (fun h => ?_)
    · refine ze_iconst (pc := 53) zr_90_53 (by decide) ?_
      exact zq_ret4 (pc := 54) zr_90_54 rfl (by decide) h
    · refine zq_iinc (pc := 55) (ls2 := [some (.inr (.inr 37)), some (.inl l1), some (.inl l2), some (.inl (z_add l3 1))]) zr_90_55 rfl rfl rfl ?_
      refine ze_goto (pc := 58) (t := 21) zr_90_58 (by decide) ?_
      exact h
  · refine ze_iconst (pc := 61) zr_90_61 (by decide) ?_
    exact zq_ret4 (pc := 62) zr_90_62 rfl (by decide) h
theorem zb92_36 {d : Nat} {Q : Int → z_M → Prop} (a0 : Int) (a1 : Int) {V : z_M}
    (h : z_MS d 134 true [.inl 0, .inl a0] V (fun z1 V1 => zI (z1 = 0) (z_MS d 130 true [.inr (.inr 36), .inl (-1)] V1 (fun z2 V2 => Q z2 V2)) (z_MS d 134 true [.inl 1, .inl a1] V1 (fun z3 V3 => zI (z3 = 0) (z_MS d 130 true [.inr (.inr 36), .inl (-1)] V3 (fun z6 V6 => Q z6 V6)) (z_MS d 77 true [.inr (.inr 37), .inl a0, .inl a1, .inl 0] V3 (fun z4 V4 => z_MS d 132 true [.inr (.inr 36), .inl z4] V4 (fun z5 V5 => Q z5 V5))))))) :
    z_MS (d + 1) 92 true [.inr (.inr 36), .inl a0, .inl a1] V Q := by
  show z_Ex (z_MS d) 92 Q true 0 [some (.inr (.inr 36)), some (.inl a0), some (.inl a1)] [] 0 0 V
  refine ze_iconst (pc := 0) zr_92_0 (by decide) ?_
  refine ze_iload_n (pc := 1) zr_92_1 rfl ?_
  refine zq_callS1 (pc := 2) (as := [.inl 0, .inl a0]) (r := []) (kc2 := 0) (ks2 := 0) zr_92_2 rfl rfl rfl rfl ⟨rfl, rfl⟩ ⟨rfl, rfl, rfl⟩ h (fun z1 V1 h => ?_)
  refine zq_if_eq (pc := 5) (t := 16) zr_92_5 (by decide) (z_toif h) (fun h => ?_) (fun h => ?_)
  · refine ze_aload_n (pc := 16) zr_92_16 rfl ?_
    refine ze_iconst (pc := 17) zr_92_17 (by decide) ?_
    refine zq_callV1 (pc := 18) (as := [.inr (.inr 36), .inl (-1)]) (r := []) (kc2 := 0) (ks2 := 0) zr_92_18 rfl (by decide) rfl rfl rfl rfl ⟨rfl, rfl⟩ ⟨rfl, rfl, rfl⟩ h (fun z2 V2 h => ?_)
    exact zq_ret1 (pc := 21) zr_92_21 rfl h
  · refine ze_iconst (pc := 8) zr_92_8 (by decide) ?_
    refine ze_iload_n (pc := 9) zr_92_9 rfl ?_
    refine zq_callS1 (pc := 10) (as := [.inl 1, .inl a1]) (r := []) (kc2 := 0) (ks2 := 0) zr_92_10 rfl rfl rfl rfl ⟨rfl, rfl⟩ ⟨rfl, rfl, rfl⟩ h (fun z3 V3 h => ?_)
    refine zq_if_ne (pc := 13) (t := 22) zr_92_13 (by decide) (z_toif h) (fun h => ?_) (fun h => ?_)
    · refine ze_aload_n (pc := 16) zr_92_16 rfl ?_
      refine ze_iconst (pc := 17) zr_92_17 (by decide) ?_
      refine zq_callV1 (pc := 18) (as := [.inr (.inr 36), .inl (-1)]) (r := []) (kc2 := 0) (ks2 := 0) zr_92_18 rfl (by decide) rfl rfl rfl rfl ⟨rfl, rfl⟩ ⟨rfl, rfl, rfl⟩ h (fun z6 V6 h => ?_)
      exact zq_ret1 (pc := 21) zr_92_21 rfl h
    · refine ze_aload_n (pc := 22) zr_92_22 rfl ?_
      refine ze_aload_n (pc := 23) zr_92_23 rfl ?_
      refine ze_getfield (pc := 24) (v := .inr (.inr 37)) zr_92_24 rfl rfl ?_
      refine ze_iload_n (pc := 27) zr_92_27 rfl ?_
      refine ze_iload_n (pc := 28) zr_92_28 rfl ?_
      refine ze_iconst (pc := 29) zr_92_29 (by decide) ?_
      refine zq_callV1 (pc := 30) (as := [.inr (.inr 37), .inl a0, .inl a1, .inl 0]) (r := [.inr (.inr 36)]) (kc2 := 0) (ks2 := 0) zr_92_30 rfl (by decide) rfl rfl rfl rfl ⟨rfl, rfl⟩ ⟨rfl, rfl, rfl⟩ h (fun z4 V4 h => ?_)
      refine zq_callV1 (pc := 33) (as := [.inr (.inr 36), .inl z4]) (r := []) (kc2 := 0) (ks2 := 0) zr_92_33 rfl (by decide) rfl rfl rfl rfl ⟨rfl, rfl⟩ ⟨rfl, rfl, rfl⟩ h (fun z5 V5 h => ?_)
      exact zq_ret1 (pc := 36) zr_92_36 rfl h
theorem zb93_36 {d : Nat} {Q : Int → z_M → Prop} (a0 : Int) (a1 : Int) (a2 : Int) {V : z_M}
    (h : z_MS d 134 true [.inl a1, .inl a2] V (fun z1 V1 => zI (z1 = 0) (z_MS d 130 true [.inr (.inr 36), .inl (-1)] V1 (fun z6 V6 => Q z6 V6)) (z_MS d 75 true [.inr (.inr 37), .inl a0] V1 (fun z2 V2 => zI (z2 = 0) (z_MS d 130 true [.inr (.inr 36), .inl (-2)] V2 (fun z5 V5 => Q z5 V5)) (zGu (0 ≤ a1 ∧ a1 < 4) (∀ x41 : Nat, x41 = z_rr true V2 38 a1.toNat → z_MS d 136 true [.inr (.inr x41), .inl a0, .inl a2] V2 (fun z3 V3 => z_MS d 131 true [.inr (.inr 36), .inl z3] V3 (fun z4 V4 => Q z4 V4)))))))) :
    z_MS (d + 1) 93 true [.inr (.inr 36), .inl a0, .inl a1, .inl a2] V Q := by
  show z_Ex (z_MS d) 93 Q true 0 [some (.inr (.inr 36)), some (.inl a0), some (.inl a1), some (.inl a2)] [] 0 0 V
  refine ze_iload_n (pc := 0) zr_93_0 rfl ?_
  refine ze_iload_n (pc := 1) zr_93_1 rfl ?_
  refine zq_callS1 (pc := 2) (as := [.inl a1, .inl a2]) (r := []) (kc2 := 0) (ks2 := 0) zr_93_2 rfl rfl rfl rfl ⟨rfl, rfl⟩ ⟨rfl, rfl, rfl⟩ h (fun z1 V1 h => ?_)
  refine zq_if_ne (pc := 5) (t := 14) zr_93_5 (by decide) (z_toif h) (fun h => ?_) (fun h => ?_)
  · refine ze_aload_n (pc := 8) zr_93_8 rfl ?_
    refine ze_iconst (pc := 9) zr_93_9 (by decide) ?_
    refine zq_callV1 (pc := 10) (as := [.inr (.inr 36), .inl (-1)]) (r := []) (kc2 := 0) (ks2 := 0) zr_93_10 rfl (by decide) rfl rfl rfl rfl ⟨rfl, rfl⟩ ⟨rfl, rfl, rfl⟩ h (fun z6 V6 h => ?_)
    exact zq_ret1 (pc := 13) zr_93_13 rfl h
  · refine ze_aload_n (pc := 14) zr_93_14 rfl ?_
    refine ze_getfield (pc := 15) (v := .inr (.inr 37)) zr_93_15 rfl rfl ?_
    refine ze_iload_n (pc := 18) zr_93_18 rfl ?_
    refine zq_callV1 (pc := 19) (as := [.inr (.inr 37), .inl a0]) (r := []) (kc2 := 0) (ks2 := 0) zr_93_19 rfl (by decide) rfl rfl rfl rfl ⟨rfl, rfl⟩ ⟨rfl, rfl, rfl⟩ h (fun z2 V2 h => ?_)
    refine zq_if_ne (pc := 22) (t := 32) zr_93_22 (by decide) (z_toif h) (fun h => ?_) (fun h => ?_)
    · refine ze_aload_n (pc := 25) zr_93_25 rfl ?_
      refine ze_bipush (pc := 26) zr_93_26 (by decide) ?_
      refine zq_callV1 (pc := 28) (as := [.inr (.inr 36), .inl (-2)]) (r := []) (kc2 := 0) (ks2 := 0) zr_93_28 rfl (by decide) rfl rfl rfl rfl ⟨rfl, rfl⟩ ⟨rfl, rfl, rfl⟩ h (fun z5 V5 h => ?_)
      exact zq_ret1 (pc := 31) zr_93_31 rfl h
    · refine ze_aload_n (pc := 32) zr_93_32 rfl ?_
      refine ze_aload_n (pc := 33) zr_93_33 rfl ?_
      refine ze_getfield (pc := 34) (v := .inr (.inr 37)) zr_93_34 rfl rfl ?_
      refine ze_getfield (pc := 37) (v := .inr (.inr 38)) zr_93_37 rfl rfl ?_
      refine ze_iload_n (pc := 40) zr_93_40 rfl ?_
      refine z_gk h (fun g41 h => ?_)
      refine zl_aaload (pc := 41) zr_93_41 (by decide) rfl g41 h (fun x41 h => ?_)
      refine ze_iload_n (pc := 42) zr_93_42 rfl ?_
      refine ze_iload_n (pc := 43) zr_93_43 rfl ?_
      refine zq_callS1 (pc := 44) (as := [.inr (.inr x41), .inl a0, .inl a2]) (r := [.inr (.inr 36)]) (kc2 := 0) (ks2 := 0) zr_93_44 rfl rfl rfl rfl ⟨rfl, rfl⟩ ⟨rfl, rfl, rfl⟩ h (fun z3 V3 h => ?_)
      refine zq_callV1 (pc := 47) (as := [.inr (.inr 36), .inl z3]) (r := []) (kc2 := 0) (ks2 := 0) zr_93_47 rfl (by decide) rfl rfl rfl rfl ⟨rfl, rfl⟩ ⟨rfl, rfl, rfl⟩ h (fun z4 V4 h => ?_)
      exact zq_ret1 (pc := 50) zr_93_50 rfl h
theorem zb94_36 {d : Nat} {Q : Int → z_M → Prop} (a0 : Int) (a1 : Int) {V : z_M}
    (h : z_MS d 75 true [.inr (.inr 37), .inl a0] V (fun z1 V1 => zI (z1 = 0) (Q (-1) V1) (z_MS d 133 true [.inl a1, .inl 0, .inl 4] V1 (fun z2 V2 => zI (z2 = 0) (Q (-1) V2) (zI (a1 = 4) (z_MS d 83 true [.inr (.inr 37), .inl a0] V2 (fun z3 V3 => Q z3 V3)) (zGu (0 ≤ a1 ∧ a1 < 4) (∀ x46 : Nat, x46 = z_rr true V2 38 a1.toNat → zGu (z_kd x46 = 101) (zGu (0 ≤ a0 ∧ a0 < z_len' V2 x46) (∀ x48 : Int, x48 = V2 x46 a0.toNat → Q x48 V2))))))))) :
    z_MS (d + 1) 94 true [.inr (.inr 36), .inl a0, .inl a1] V Q := by
  show z_Ex (z_MS d) 94 Q true 0 [some (.inr (.inr 36)), some (.inl a0), some (.inl a1)] [] 0 0 V
  refine ze_aload_n (pc := 0) zr_94_0 rfl ?_
  refine ze_getfield (pc := 1) (v := .inr (.inr 37)) zr_94_1 rfl rfl ?_
  refine ze_iload_n (pc := 4) zr_94_4 rfl ?_
  refine zq_callV1 (pc := 5) (as := [.inr (.inr 37), .inl a0]) (r := []) (kc2 := 0) (ks2 := 0) zr_94_5 rfl (by decide) rfl rfl rfl rfl ⟨rfl, rfl⟩ ⟨rfl, rfl, rfl⟩ h (fun z1 V1 h => ?_)
  refine zq_if_eq (pc := 8) (t := 20) zr_94_8 (by decide) (z_toif h) (fun h => ?_) (fun h => ?_)
  · refine ze_iconst (pc := 20) zr_94_20 (by decide) ?_
    exact zq_ret1 (pc := 21) zr_94_21 rfl h
  · refine ze_iload_n (pc := 11) zr_94_11 rfl ?_
    refine ze_iconst (pc := 12) zr_94_12 (by decide) ?_
    refine ze_iconst (pc := 13) zr_94_13 (by decide) ?_
    refine zq_callS1 (pc := 14) (as := [.inl a1, .inl 0, .inl 4]) (r := []) (kc2 := 0) (ks2 := 0) zr_94_14 rfl rfl rfl rfl ⟨rfl, rfl⟩ ⟨rfl, rfl, rfl⟩ h (fun z2 V2 h => ?_)
    refine zq_if_ne (pc := 17) (t := 22) zr_94_17 (by decide) (z_toif h) (fun h => ?_) (fun h => ?_)
    · refine ze_iconst (pc := 20) zr_94_20 (by decide) ?_
      exact zq_ret1 (pc := 21) zr_94_21 rfl h
    · refine ze_iload_n (pc := 22) zr_94_22 rfl ?_
      refine ze_iconst (pc := 23) zr_94_23 (by decide) ?_
      refine zq_icmp_ne (pc := 24) (t := 38) zr_94_24 (by decide) (z_toif h) (fun h => ?_) (fun h => ?_)
      · refine ze_aload_n (pc := 27) zr_94_27 rfl ?_
        refine ze_getfield (pc := 28) (v := .inr (.inr 37)) zr_94_28 rfl rfl ?_
        refine ze_iload_n (pc := 31) zr_94_31 rfl ?_
        refine zq_callV1 (pc := 32) (as := [.inr (.inr 37), .inl a0]) (r := []) (kc2 := 0) (ks2 := 0) zr_94_32 rfl (by decide) rfl rfl rfl rfl ⟨rfl, rfl⟩ ⟨rfl, rfl, rfl⟩ h (fun z3 V3 h => ?_)
        refine ze_goto (pc := 35) (t := 49) zr_94_35 (by decide) ?_
        exact zq_ret1 (pc := 49) zr_94_49 rfl h
      · refine ze_aload_n (pc := 38) zr_94_38 rfl ?_
        refine ze_getfield (pc := 39) (v := .inr (.inr 37)) zr_94_39 rfl rfl ?_
        refine ze_getfield (pc := 42) (v := .inr (.inr 38)) zr_94_42 rfl rfl ?_
        refine ze_iload_n (pc := 45) zr_94_45 rfl ?_
        refine z_gk h (fun g46 h => ?_)
        refine zl_aaload (pc := 46) zr_94_46 (by decide) rfl g46 h (fun x46 h => ?_)
        refine ze_iload_n (pc := 47) zr_94_47 rfl ?_
        refine z_gk h (fun k48 h => ?_)
        refine z_gk h (fun g48 h => ?_)
        refine zl_ialoadv (pc := 48) zr_94_48 k48 g48 h (fun x48 h => ?_)
        exact zq_ret1 (pc := 49) zr_94_49 rfl h
theorem zb95_36 {d : Nat} {Q : Int → z_M → Prop} (a0 : Int) (a1 : Int) {V : z_M}
    (h : z_MS d 135 true [.inl 0, .inl a0] V (fun z1 V1 => zI (z1 = 0) (z_MS d 130 true [.inr (.inr 36), .inl (-1)] V1 (fun z2 V2 => Q z2 V2)) (z_MS d 135 true [.inl 1, .inl a1] V1 (fun z3 V3 => zI (z3 = 0) (z_MS d 130 true [.inr (.inr 36), .inl (-1)] V3 (fun z6 V6 => Q z6 V6)) (z_MS d 78 true [.inr (.inr 37), .inl a0, .inl a1] V3 (fun z4 V4 => z_MS d 132 true [.inr (.inr 36), .inl z4] V4 (fun z5 V5 => Q z5 V5))))))) :
    z_MS (d + 1) 95 true [.inr (.inr 36), .inl a0, .inl a1] V Q := by
  show z_Ex (z_MS d) 95 Q true 0 [some (.inr (.inr 36)), some (.inl a0), some (.inl a1)] [] 0 0 V
  refine ze_iconst (pc := 0) zr_95_0 (by decide) ?_
  refine ze_iload_n (pc := 1) zr_95_1 rfl ?_
  refine zq_callS1 (pc := 2) (as := [.inl 0, .inl a0]) (r := []) (kc2 := 0) (ks2 := 0) zr_95_2 rfl rfl rfl rfl ⟨rfl, rfl⟩ ⟨rfl, rfl, rfl⟩ h (fun z1 V1 h => ?_)
  refine zq_if_eq (pc := 5) (t := 16) zr_95_5 (by decide) (z_toif h) (fun h => ?_) (fun h => ?_)
  · refine ze_aload_n (pc := 16) zr_95_16 rfl ?_
    refine ze_iconst (pc := 17) zr_95_17 (by decide) ?_
    refine zq_callV1 (pc := 18) (as := [.inr (.inr 36), .inl (-1)]) (r := []) (kc2 := 0) (ks2 := 0) zr_95_18 rfl (by decide) rfl rfl rfl rfl ⟨rfl, rfl⟩ ⟨rfl, rfl, rfl⟩ h (fun z2 V2 h => ?_)
    exact zq_ret1 (pc := 21) zr_95_21 rfl h
  · refine ze_iconst (pc := 8) zr_95_8 (by decide) ?_
    refine ze_iload_n (pc := 9) zr_95_9 rfl ?_
    refine zq_callS1 (pc := 10) (as := [.inl 1, .inl a1]) (r := []) (kc2 := 0) (ks2 := 0) zr_95_10 rfl rfl rfl rfl ⟨rfl, rfl⟩ ⟨rfl, rfl, rfl⟩ h (fun z3 V3 h => ?_)
    refine zq_if_ne (pc := 13) (t := 22) zr_95_13 (by decide) (z_toif h) (fun h => ?_) (fun h => ?_)
    · refine ze_aload_n (pc := 16) zr_95_16 rfl ?_
      refine ze_iconst (pc := 17) zr_95_17 (by decide) ?_
      refine zq_callV1 (pc := 18) (as := [.inr (.inr 36), .inl (-1)]) (r := []) (kc2 := 0) (ks2 := 0) zr_95_18 rfl (by decide) rfl rfl rfl rfl ⟨rfl, rfl⟩ ⟨rfl, rfl, rfl⟩ h (fun z6 V6 h => ?_)
      exact zq_ret1 (pc := 21) zr_95_21 rfl h
    · refine ze_aload_n (pc := 22) zr_95_22 rfl ?_
      refine ze_aload_n (pc := 23) zr_95_23 rfl ?_
      refine ze_getfield (pc := 24) (v := .inr (.inr 37)) zr_95_24 rfl rfl ?_
      refine ze_iload_n (pc := 27) zr_95_27 rfl ?_
      refine ze_iload_n (pc := 28) zr_95_28 rfl ?_
      refine zq_callV1 (pc := 29) (as := [.inr (.inr 37), .inl a0, .inl a1]) (r := [.inr (.inr 36)]) (kc2 := 0) (ks2 := 0) zr_95_29 rfl (by decide) rfl rfl rfl rfl ⟨rfl, rfl⟩ ⟨rfl, rfl, rfl⟩ h (fun z4 V4 h => ?_)
      refine zq_callV1 (pc := 32) (as := [.inr (.inr 36), .inl z4]) (r := []) (kc2 := 0) (ks2 := 0) zr_95_32 rfl (by decide) rfl rfl rfl rfl ⟨rfl, rfl⟩ ⟨rfl, rfl, rfl⟩ h (fun z5 V5 h => ?_)
      exact zq_ret1 (pc := 35) zr_95_35 rfl h
theorem zb96_36 {d : Nat} {Q : Int → z_M → Prop} (a0 : Int) (a1 : Int) (a2 : Int) {V : z_M}
    (h : z_MS d 135 true [.inl a1, .inl a2] V (fun z1 V1 => zI (z1 = 0) (z_MS d 130 true [.inr (.inr 36), .inl (-1)] V1 (fun z6 V6 => Q z6 V6)) (z_MS d 76 true [.inr (.inr 37), .inl a0] V1 (fun z2 V2 => zI (z2 = 0) (z_MS d 130 true [.inr (.inr 36), .inl (-2)] V2 (fun z5 V5 => Q z5 V5)) (zGu (0 ≤ a1 ∧ a1 < 2) (∀ x41 : Nat, x41 = z_rr true V2 43 a1.toNat → z_MS d 136 true [.inr (.inr x41), .inl a0, .inl a2] V2 (fun z3 V3 => z_MS d 131 true [.inr (.inr 36), .inl z3] V3 (fun z4 V4 => Q z4 V4)))))))) :
    z_MS (d + 1) 96 true [.inr (.inr 36), .inl a0, .inl a1, .inl a2] V Q := by
  show z_Ex (z_MS d) 96 Q true 0 [some (.inr (.inr 36)), some (.inl a0), some (.inl a1), some (.inl a2)] [] 0 0 V
  refine ze_iload_n (pc := 0) zr_96_0 rfl ?_
  refine ze_iload_n (pc := 1) zr_96_1 rfl ?_
  refine zq_callS1 (pc := 2) (as := [.inl a1, .inl a2]) (r := []) (kc2 := 0) (ks2 := 0) zr_96_2 rfl rfl rfl rfl ⟨rfl, rfl⟩ ⟨rfl, rfl, rfl⟩ h (fun z1 V1 h => ?_)
  refine zq_if_ne (pc := 5) (t := 14) zr_96_5 (by decide) (z_toif h) (fun h => ?_) (fun h => ?_)
  · refine ze_aload_n (pc := 8) zr_96_8 rfl ?_
    refine ze_iconst (pc := 9) zr_96_9 (by decide) ?_
    refine zq_callV1 (pc := 10) (as := [.inr (.inr 36), .inl (-1)]) (r := []) (kc2 := 0) (ks2 := 0) zr_96_10 rfl (by decide) rfl rfl rfl rfl ⟨rfl, rfl⟩ ⟨rfl, rfl, rfl⟩ h (fun z6 V6 h => ?_)
    exact zq_ret1 (pc := 13) zr_96_13 rfl h
  · refine ze_aload_n (pc := 14) zr_96_14 rfl ?_
    refine ze_getfield (pc := 15) (v := .inr (.inr 37)) zr_96_15 rfl rfl ?_
    refine ze_iload_n (pc := 18) zr_96_18 rfl ?_
    refine zq_callV1 (pc := 19) (as := [.inr (.inr 37), .inl a0]) (r := []) (kc2 := 0) (ks2 := 0) zr_96_19 rfl (by decide) rfl rfl rfl rfl ⟨rfl, rfl⟩ ⟨rfl, rfl, rfl⟩ h (fun z2 V2 h => ?_)
    refine zq_if_ne (pc := 22) (t := 32) zr_96_22 (by decide) (z_toif h) (fun h => ?_) (fun h => ?_)
    · refine ze_aload_n (pc := 25) zr_96_25 rfl ?_
      refine ze_bipush (pc := 26) zr_96_26 (by decide) ?_
      refine zq_callV1 (pc := 28) (as := [.inr (.inr 36), .inl (-2)]) (r := []) (kc2 := 0) (ks2 := 0) zr_96_28 rfl (by decide) rfl rfl rfl rfl ⟨rfl, rfl⟩ ⟨rfl, rfl, rfl⟩ h (fun z5 V5 h => ?_)
      exact zq_ret1 (pc := 31) zr_96_31 rfl h
    · refine ze_aload_n (pc := 32) zr_96_32 rfl ?_
      refine ze_aload_n (pc := 33) zr_96_33 rfl ?_
      refine ze_getfield (pc := 34) (v := .inr (.inr 37)) zr_96_34 rfl rfl ?_
      refine ze_getfield (pc := 37) (v := .inr (.inr 43)) zr_96_37 rfl rfl ?_
      refine ze_iload_n (pc := 40) zr_96_40 rfl ?_
      refine z_gk h (fun g41 h => ?_)
      refine zl_aaload (pc := 41) zr_96_41 (by decide) rfl g41 h (fun x41 h => ?_)
      refine ze_iload_n (pc := 42) zr_96_42 rfl ?_
      refine ze_iload_n (pc := 43) zr_96_43 rfl ?_
      refine zq_callS1 (pc := 44) (as := [.inr (.inr x41), .inl a0, .inl a2]) (r := [.inr (.inr 36)]) (kc2 := 0) (ks2 := 0) zr_96_44 rfl rfl rfl rfl ⟨rfl, rfl⟩ ⟨rfl, rfl, rfl⟩ h (fun z3 V3 h => ?_)
      refine zq_callV1 (pc := 47) (as := [.inr (.inr 36), .inl z3]) (r := []) (kc2 := 0) (ks2 := 0) zr_96_47 rfl (by decide) rfl rfl rfl rfl ⟨rfl, rfl⟩ ⟨rfl, rfl, rfl⟩ h (fun z4 V4 h => ?_)
      exact zq_ret1 (pc := 50) zr_96_50 rfl h
theorem zb97_36 {d : Nat} {Q : Int → z_M → Prop} (a0 : Int) (a1 : Int) {V : z_M}
    (h : z_MS d 133 true [.inl a0, .inl 0, .inl 1] V (fun z1 V1 => zI (z1 = 0) (z_MS d 130 true [.inr (.inr 36), .inl (-1)] V1 (fun z2 V2 => Q z2 V2)) (zGu (0 ≤ a0 ∧ a0 < 2) (∀ x15 : Int, x15 = V1 5 a0.toNat → z_MS d 133 true [.inl a1, .inl 0, .inl x15] V1 (fun z3 V3 => zI (z3 = 0) (z_MS d 130 true [.inr (.inr 36), .inl (-1)] V3 (fun z6 V6 => Q z6 V6)) (z_MS d 136 true [.inr (.inr 46), .inl a0, .inl a1] V3 (fun z4 V4 => z_MS d 131 true [.inr (.inr 36), .inl z4] V4 (fun z5 V5 => Q z5 V5)))))))) :
    z_MS (d + 1) 97 true [.inr (.inr 36), .inl a0, .inl a1] V Q := by
  show z_Ex (z_MS d) 97 Q true 0 [some (.inr (.inr 36)), some (.inl a0), some (.inl a1)] [] 0 0 V
  refine ze_iload_n (pc := 0) zr_97_0 rfl ?_
  refine ze_iconst (pc := 1) zr_97_1 (by decide) ?_
  refine ze_iconst (pc := 2) zr_97_2 (by decide) ?_
  refine zq_callS1 (pc := 3) (as := [.inl a0, .inl 0, .inl 1]) (r := []) (kc2 := 0) (ks2 := 0) zr_97_3 rfl rfl rfl rfl ⟨rfl, rfl⟩ ⟨rfl, rfl, rfl⟩ h (fun z1 V1 h => ?_)
  refine zq_if_eq (pc := 6) (t := 22) zr_97_6 (by decide) (z_toif h) (fun h => ?_) (fun h => ?_)
  · refine ze_aload_n (pc := 22) zr_97_22 rfl ?_
    refine ze_iconst (pc := 23) zr_97_23 (by decide) ?_
    refine zq_callV1 (pc := 24) (as := [.inr (.inr 36), .inl (-1)]) (r := []) (kc2 := 0) (ks2 := 0) zr_97_24 rfl (by decide) rfl rfl rfl rfl ⟨rfl, rfl⟩ ⟨rfl, rfl, rfl⟩ h (fun z2 V2 h => ?_)
    exact zq_ret1 (pc := 27) zr_97_27 rfl h
  · refine ze_iload_n (pc := 9) zr_97_9 rfl ?_
    refine ze_iconst (pc := 10) zr_97_10 (by decide) ?_
    refine ze_static (pc := 11) zr_97_11 rfl (by decide) ?_
    refine ze_iload_n (pc := 14) zr_97_14 rfl ?_
    refine z_gk h (fun g15 h => ?_)
    refine zl_iaload (pc := 15) zr_97_15 rfl rfl g15 h (fun x15 h => ?_)
    refine zq_callS1 (pc := 16) (as := [.inl a1, .inl 0, .inl x15]) (r := []) (kc2 := 0) (ks2 := 0) zr_97_16 rfl rfl rfl rfl ⟨rfl, rfl⟩ ⟨rfl, rfl, rfl⟩ h (fun z3 V3 h => ?_)
    refine zq_if_ne (pc := 19) (t := 28) zr_97_19 (by decide) (z_toif h) (fun h => ?_) (fun h => ?_)
    · refine ze_aload_n (pc := 22) zr_97_22 rfl ?_
      refine ze_iconst (pc := 23) zr_97_23 (by decide) ?_
      refine zq_callV1 (pc := 24) (as := [.inr (.inr 36), .inl (-1)]) (r := []) (kc2 := 0) (ks2 := 0) zr_97_24 rfl (by decide) rfl rfl rfl rfl ⟨rfl, rfl⟩ ⟨rfl, rfl, rfl⟩ h (fun z6 V6 h => ?_)
      exact zq_ret1 (pc := 27) zr_97_27 rfl h
    · refine ze_aload_n (pc := 28) zr_97_28 rfl ?_
      refine ze_aload_n (pc := 29) zr_97_29 rfl ?_
      refine ze_getfield (pc := 30) (v := .inr (.inr 37)) zr_97_30 rfl rfl ?_
      refine ze_getfield (pc := 33) (v := .inr (.inr 46)) zr_97_33 rfl rfl ?_
      refine ze_iload_n (pc := 36) zr_97_36 rfl ?_
      refine ze_iload_n (pc := 37) zr_97_37 rfl ?_
      refine zq_callS1 (pc := 38) (as := [.inr (.inr 46), .inl a0, .inl a1]) (r := [.inr (.inr 36)]) (kc2 := 0) (ks2 := 0) zr_97_38 rfl rfl rfl rfl ⟨rfl, rfl⟩ ⟨rfl, rfl, rfl⟩ h (fun z4 V4 h => ?_)
      refine zq_callV1 (pc := 41) (as := [.inr (.inr 36), .inl z4]) (r := []) (kc2 := 0) (ks2 := 0) zr_97_41 rfl (by decide) rfl rfl rfl rfl ⟨rfl, rfl⟩ ⟨rfl, rfl, rfl⟩ h (fun z5 V5 h => ?_)
      exact zq_ret1 (pc := 44) zr_97_44 rfl h
theorem zb98_36 {d : Nat} {Q : Int → z_M → Prop} (a0 : Int) (a1 : Int) (a2 : Int) (a3 : Int) (a4 : Int) {V : z_M}
    (h : zI (400 < (z_add (V 87 1) 20)) (Q (-1) V) (z_MS d 71 true [.inr (.inr 87), .inl a0] V (fun z1 V1 => z_MS d 71 true [.inr (.inr 87), .inl a1] V1 (fun z2 V2 => z_MS d 71 true [.inr (.inr 87), .inl a2] V2 (fun z3 V3 => z_MS d 71 true [.inr (.inr 87), .inl a3] V3 (fun z4 V4 => z_MS d 71 true [.inr (.inr 87), .inl a4] V4 (fun z5 V5 => Q (V5 87 1) V5))))))) :
    z_MS (d + 1) 98 true [.inr (.inr 36), .inl a0, .inl a1, .inl a2, .inl a3, .inl a4] V Q := by
  show z_Ex (z_MS d) 98 Q true 0 [some (.inr (.inr 36)), some (.inl a0), some (.inl a1), some (.inl a2), some (.inl a3), some (.inl a4)] [] 0 0 V
  refine ze_aload_n (pc := 0) zr_98_0 rfl ?_
  refine ze_getfield (pc := 1) (v := .inr (.inr 87)) zr_98_1 rfl rfl ?_
  refine ze_getfield (pc := 4) (v := .inl (V 87 1)) zr_98_4 rfl rfl ?_
  refine ze_bipush (pc := 7) zr_98_7 (by decide) ?_
  refine ze_iadd (pc := 9) zr_98_9 ?_
  refine ze_sipush (pc := 10) zr_98_10 (by decide) ?_
  refine zq_icmp_le (pc := 13) (t := 18) zr_98_13 (by decide) (z_toif h) (fun h => ?_) (fun h => ?_)
  · refine ze_iconst (pc := 16) zr_98_16 (by decide) ?_
    exact zq_ret1 (pc := 17) zr_98_17 rfl h
  · refine ze_aload_n (pc := 18) zr_98_18 rfl ?_
    refine ze_getfield (pc := 19) (v := .inr (.inr 87)) zr_98_19 rfl rfl ?_
    refine ze_iload_n (pc := 22) zr_98_22 rfl ?_
    refine zq_callV0 (pc := 23) (as := [.inr (.inr 87), .inl a0]) (r := []) (kc2 := 0) (ks2 := 0) zr_98_23 rfl (by decide) rfl rfl rfl rfl ⟨rfl, rfl⟩ rfl h (fun z1 V1 h => ?_)
    refine ze_aload_n (pc := 26) zr_98_26 rfl ?_
    refine ze_getfield (pc := 27) (v := .inr (.inr 87)) zr_98_27 rfl rfl ?_
    refine ze_iload_n (pc := 30) zr_98_30 rfl ?_
    refine zq_callV0 (pc := 31) (as := [.inr (.inr 87), .inl a1]) (r := []) (kc2 := 0) (ks2 := 0) zr_98_31 rfl (by decide) rfl rfl rfl rfl ⟨rfl, rfl⟩ rfl h (fun z2 V2 h => ?_)
    refine ze_aload_n (pc := 34) zr_98_34 rfl ?_
    refine ze_getfield (pc := 35) (v := .inr (.inr 87)) zr_98_35 rfl rfl ?_
    refine ze_iload_n (pc := 38) zr_98_38 rfl ?_
    refine zq_callV0 (pc := 39) (as := [.inr (.inr 87), .inl a2]) (r := []) (kc2 := 0) (ks2 := 0) zr_98_39 rfl (by decide) rfl rfl rfl rfl ⟨rfl, rfl⟩ rfl h (fun z3 V3 h => ?_)
    refine ze_aload_n (pc := 42) zr_98_42 rfl ?_
    refine ze_getfield (pc := 43) (v := .inr (.inr 87)) zr_98_43 rfl rfl ?_
    refine ze_iload (pc := 46) zr_98_46 rfl ?_
    refine zq_callV0 (pc := 48) (as := [.inr (.inr 87), .inl a3]) (r := []) (kc2 := 0) (ks2 := 0) zr_98_48 rfl (by decide) rfl rfl rfl rfl ⟨rfl, rfl⟩ rfl h (fun z4 V4 h => ?_)
    refine ze_aload_n (pc := 51) zr_98_51 rfl ?_
    refine ze_getfield (pc := 52) (v := .inr (.inr 87)) zr_98_52 rfl rfl ?_
    refine ze_iload (pc := 55) zr_98_55 rfl ?_
    refine zq_callV0 (pc := 57) (as := [.inr (.inr 87), .inl a4]) (r := []) (kc2 := 0) (ks2 := 0) zr_98_57 rfl (by decide) rfl rfl rfl rfl ⟨rfl, rfl⟩ rfl h (fun z5 V5 h => ?_)
    refine ze_aload_n (pc := 60) zr_98_60 rfl ?_
    refine ze_getfield (pc := 61) (v := .inr (.inr 87)) zr_98_61 rfl rfl ?_
    refine ze_getfield (pc := 64) (v := .inl (V5 87 1)) zr_98_64 rfl rfl ?_
    exact zq_ret1 (pc := 67) zr_98_67 rfl h
theorem zb99_36 {d : Nat} {Q : Int → z_M → Prop} (a0 : Int) {V : z_M}
    (h : z_MS d 133 true [.inl a0, .inl 0, .inl (V 87 1)] V (fun z1 V1 => zI (z1 = 0) (Q (-1) V1) (∀ W1, W1 = z_up V1 87 1 a0 → Q a0 W1))) :
    z_MS (d + 1) 99 true [.inr (.inr 36), .inl a0] V Q := by
  show z_Ex (z_MS d) 99 Q true 0 [some (.inr (.inr 36)), some (.inl a0)] [] 0 0 V
  refine ze_iload_n (pc := 0) zr_99_0 rfl ?_
  refine ze_iconst (pc := 1) zr_99_1 (by decide) ?_
  refine ze_aload_n (pc := 2) zr_99_2 rfl ?_
  refine ze_getfield (pc := 3) (v := .inr (.inr 87)) zr_99_3 rfl rfl ?_
  refine ze_getfield (pc := 6) (v := .inl (V 87 1)) zr_99_6 rfl rfl ?_
  refine zq_callS1 (pc := 9) (as := [.inl a0, .inl 0, .inl (V 87 1)]) (r := []) (kc2 := 0) (ks2 := 0) zr_99_9 rfl rfl rfl rfl ⟨rfl, rfl⟩ ⟨rfl, rfl, rfl⟩ h (fun z1 V1 h => ?_)
  refine zq_if_ne (pc := 12) (t := 17) zr_99_12 (by decide) (z_toif h) (fun h => ?_) (fun h => ?_)
  · refine ze_iconst (pc := 15) zr_99_15 (by decide) ?_
    exact zq_ret1 (pc := 16) zr_99_16 rfl h
  · refine ze_aload_n (pc := 17) zr_99_17 rfl ?_
    refine ze_getfield (pc := 18) (v := .inr (.inr 87)) zr_99_18 rfl rfl ?_
    refine ze_iload_n (pc := 21) zr_99_21 rfl ?_
    refine zq_putI (pc := 22) zr_99_22 (by decide) rfl h (fun W1 h => ?_)
    refine ze_iload_n (pc := 25) zr_99_25 rfl ?_
    exact zq_ret1 (pc := 26) zr_99_26 rfl h
theorem zb100_36 {d : Nat} {Q : Int → z_M → Prop}  {V : z_M}
    (h : zI ((V 87 1) = 0) (z_MS d 130 true [.inr (.inr 36), .inl (-6)] V (fun z1 V1 => Q z1 V1)) (∀ W1, W1 = z_up V 36 13 0 → z_Ex (z_MS d) 100 Q true 26 [some (.inr (.inr 36)), some (.inl 0), some (.inl 0)] [] 0 0 W1)) :
    z_MS (d + 1) 100 true [.inr (.inr 36)] V Q := by
  show z_Ex (z_MS d) 100 Q true 0 [some (.inr (.inr 36)), none, none] [] 0 0 V
  refine ze_aload_n (pc := 0) zr_100_0 rfl ?_
  refine ze_getfield (pc := 1) (v := .inr (.inr 87)) zr_100_1 rfl rfl ?_
  refine ze_getfield (pc := 4) (v := .inl (V 87 1)) zr_100_4 rfl rfl ?_
  refine zq_if_ne (pc := 7) (t := 17) zr_100_7 (by decide) (z_toif h) (fun h => ?_) (fun h => ?_)
  · refine ze_aload_n (pc := 10) zr_100_10 rfl ?_
    refine ze_bipush (pc := 11) zr_100_11 (by decide) ?_
    refine zq_callV1 (pc := 13) (as := [.inr (.inr 36), .inl (-6)]) (r := []) (kc2 := 0) (ks2 := 0) zr_100_13 rfl (by decide) rfl rfl rfl rfl ⟨rfl, rfl⟩ ⟨rfl, rfl, rfl⟩ h (fun z1 V1 h => ?_)
    exact zq_ret1 (pc := 16) zr_100_16 rfl h
  · refine ze_iconst (pc := 17) zr_100_17 (by decide) ?_
    refine zq_istore_n (pc := 18) (ls2 := [some (.inr (.inr 36)), some (.inl 0), none]) zr_100_18 rfl rfl ?_
    refine ze_aload_n (pc := 19) zr_100_19 rfl ?_
    refine ze_iconst (pc := 20) zr_100_20 (by decide) ?_
    refine zq_putI (pc := 21) zr_100_21 (by decide) rfl h (fun W1 h => ?_)
    refine ze_iconst (pc := 24) zr_100_24 (by decide) ?_
    refine zq_istore_n (pc := 25) (ls2 := [some (.inr (.inr 36)), some (.inl 0), some (.inl 0)]) zr_100_25 rfl rfl ?_
    exact h
theorem zb100_36_p26 {d : Nat} {Q : Int → z_M → Prop} (l1 : Int) (l2 : Int) {V : z_M}
    (h : zI (l2 < (V 87 1)) (z_MS d 137 true [.inr (.inr 36), .inl l2] V (fun z2702 V2702 => zI (z2702 = 0) (∀ W2702, W2702 = z_up V2702 36 13 (z_add (V2702 36 13) 1) → z_Ex (z_MS d) 100 Q true 26 [some (.inr (.inr 36)), some (.inl l1), some (.inl (z_add l2 3))] [] 0 0 W2702) (z_Ex (z_MS d) 100 Q true 26 [some (.inr (.inr 36)), some (.inl (z_add l1 1)), some (.inl (z_add l2 3))] [] 0 0 V2702))) (∀ W2701, W2701 = z_up V 87 1 0 → z_MS d 131 true [.inr (.inr 36), .inl l1] W2701 (fun z2701 V2701 => Q z2701 V2701))) :
    z_Ex (z_MS d) 100 Q true 26 [some (.inr (.inr 36)), some (.inl l1), some (.inl l2)] [] 0 0 V := by
  refine ze_iload_n (pc := 26) zr_100_26 rfl ?_
  refine ze_aload_n (pc := 27) zr_100_27 rfl ?_
  refine ze_getfield (pc := 28) (v := .inr (.inr 87)) zr_100_28 rfl rfl ?_
  refine ze_getfield (pc := 31) (v := .inl (V 87 1)) zr_100_31 rfl rfl ?_
  refine zq_icmp_ge (pc := 34) (t := 67) zr_100_34 (by decide) (z_toif h) (fun h => ?_) (fun h => ?_)
  · refine ze_aload_n (pc := 37) zr_100_37 rfl ?_
    refine ze_iload_n (pc := 38) zr_100_38 rfl ?_
    refine zq_callV1 (pc := 39) (as := [.inr (.inr 36), .inl l2]) (r := []) (kc2 := 0) (ks2 := 0) zr_100_39 rfl (by decide) rfl rfl rfl rfl ⟨rfl, rfl⟩ ⟨rfl, rfl, rfl⟩ h (fun z2702 V2702 h => ?_)
    refine zq_if_eq (pc := 42) (t := 51) zr_100_42 (by decide) (z_toif h) (fun h => ?_) (fun h => ?_)
    · refine ze_aload_n (pc := 51) zr_100_51 rfl ?_
      refine ze_dup (pc := 52) zr_100_52 rfl ?_
      refine ze_getfield (pc := 53) (v := .inl (V2702 36 13)) zr_100_53 rfl rfl ?_
      refine ze_iconst (pc := 56) zr_100_56 (by decide) ?_
      refine ze_iadd (pc := 57) zr_100_57 ?_
      refine zq_putI (pc := 58) zr_100_58 (by decide) rfl h (fun W2702 h => ?_)
      refine zq_iinc (pc := 61) (ls2 := [some (.inr (.inr 36)), some (.inl l1), some (.inl (z_add l2 3))]) zr_100_61 rfl rfl rfl ?_
      refine ze_goto (pc := 64) (t := 26) zr_100_64 (by decide) ?_
      exact h
    · refine zq_iinc (pc := 45) (ls2 := [some (.inr (.inr 36)), some (.inl (z_add l1 1)), some (.inl l2)]) zr_100_45 rfl rfl rfl ?_
      refine ze_goto (pc := 48) (t := 61) zr_100_48 (by decide) ?_
      refine zq_iinc (pc := 61) (ls2 := [some (.inr (.inr 36)), some (.inl (z_add l1 1)), some (.inl (z_add l2 3))]) zr_100_61 rfl rfl rfl ?_
      refine ze_goto (pc := 64) (t := 26) zr_100_64 (by decide) ?_
      exact h
  · refine ze_aload_n (pc := 67) zr_100_67 rfl ?_
    refine ze_getfield (pc := 68) (v := .inr (.inr 87)) zr_100_68 rfl rfl ?_
    refine ze_iconst (pc := 71) zr_100_71 (by decide) ?_
    refine zq_putI (pc := 72) zr_100_72 (by decide) rfl h (fun W2701 h => ?_)
    refine ze_aload_n (pc := 75) zr_100_75 rfl ?_
    refine ze_iload_n (pc := 76) zr_100_76 rfl ?_
    refine zq_callV1 (pc := 77) (as := [.inr (.inr 36), .inl l1]) (r := []) (kc2 := 0) (ks2 := 0) zr_100_77 rfl (by decide) rfl rfl rfl rfl ⟨rfl, rfl⟩ ⟨rfl, rfl, rfl⟩ h (fun z2701 V2701 h => ?_)
    exact zq_ret1 (pc := 80) zr_100_80 rfl h
theorem zb101_36 {d : Nat} {Q : Int → z_M → Prop}  {V : z_M}
    (h : Q (V 36 13) V) :
    z_MS (d + 1) 101 true [.inr (.inr 36)] V Q := by
  show z_Ex (z_MS d) 101 Q true 0 [some (.inr (.inr 36))] [] 0 0 V
  refine ze_aload_n (pc := 0) zr_101_0 rfl ?_
  refine ze_getfield (pc := 1) (v := .inl (V 36 13)) zr_101_1 rfl rfl ?_
  exact zq_ret1 (pc := 4) zr_101_4 rfl h
theorem zb102_36 {d : Nat} {Q : Int → z_M → Prop}  {V : z_M}
    (h : zI ((V 37 9) < 6) (z_MS d 25 true [.inr (.inr 89), .inr (.inr 87)] V (fun z1 V1 => ∀ W1, W1 = z_up V1 36 14 (V1 89 9) → ∀ W2, W2 = z_up W1 87 1 0 → zGu (¬ (z1.toNat) = 7) (zI ((z1.toNat) = 0) (z_MS d 130 true [.inr (.inr 36), .inl (-6)] W2 (fun z4 V4 => Q z4 V4)) (z_MS d 79 true [.inr (.inr 37), .inr (.inr (z1.toNat))] W2 (fun z2 V2 => z_MS d 132 true [.inr (.inr 36), .inl z2] V2 (fun z3 V3 => Q z3 V3)))))) (∀ W3, W3 = z_up V 87 1 0 → z_MS d 130 true [.inr (.inr 36), .inl (-5)] W3 (fun z5 V5 => Q z5 V5))) :
    z_MS (d + 1) 102 true [.inr (.inr 36)] V Q := by
  show z_Ex (z_MS d) 102 Q true 0 [some (.inr (.inr 36)), none] [] 0 0 V
  refine ze_aload_n (pc := 0) zr_102_0 rfl ?_
  refine ze_getfield (pc := 1) (v := .inr (.inr 37)) zr_102_1 rfl rfl ?_
  refine ze_getfield (pc := 4) (v := .inl (V 37 9)) zr_102_4 rfl rfl ?_
  refine ze_bipush (pc := 7) zr_102_7 (by decide) ?_
  refine zq_icmp_lt (pc := 9) (t := 27) zr_102_9 (by decide) (z_toif h) (fun h => ?_) (fun h => ?_)
  · refine ze_aload_n (pc := 27) zr_102_27 rfl ?_
    refine ze_getfield (pc := 28) (v := .inr (.inr 89)) zr_102_28 rfl rfl ?_
    refine ze_aload_n (pc := 31) zr_102_31 rfl ?_
    refine ze_getfield (pc := 32) (v := .inr (.inr 87)) zr_102_32 rfl rfl ?_
    refine zq_callV3 (pc := 35) (as := [.inr (.inr 89), .inr (.inr 87)]) (r := []) (kc2 := 4) (ks2 := 1203) zr_102_35 rfl (by decide) rfl rfl rfl rfl ⟨rfl, rfl⟩ ⟨rfl, rfl, rfl⟩ h (fun z1 V1 h => ?_)
    refine zq_astore_n (pc := 38) (ls2 := [some (.inr (.inr 36)), some (.inr (.inr (z1.toNat)))]) zr_102_38 rfl rfl ?_
    refine ze_aload_n (pc := 39) zr_102_39 rfl ?_
    refine ze_aload_n (pc := 40) zr_102_40 rfl ?_
    refine ze_getfield (pc := 41) (v := .inr (.inr 89)) zr_102_41 rfl rfl ?_
    refine ze_getfield (pc := 44) (v := .inl (V1 89 9)) zr_102_44 rfl rfl ?_
    refine zq_putI (pc := 47) zr_102_47 (by decide) rfl h (fun W1 h => ?_)
    refine ze_aload_n (pc := 50) zr_102_50 rfl ?_
    refine ze_getfield (pc := 51) (v := .inr (.inr 87)) zr_102_51 rfl rfl ?_
    refine ze_iconst (pc := 54) zr_102_54 (by decide) ?_
    refine zq_putI (pc := 55) zr_102_55 (by decide) rfl h (fun W2 h => ?_)
    refine ze_aload_n (pc := 58) zr_102_58 rfl ?_
    refine z_gk h (fun g59 h => ?_)
    refine zq_ifnonnull (pc := 59) (t := 69) zr_102_59 (by decide) g59 (z_toif h) (fun h => ?_) (fun h => ?_)
    · refine ze_aload_n (pc := 62) zr_102_62 rfl ?_
      refine ze_bipush (pc := 63) zr_102_63 (by decide) ?_
      refine zq_callV1 (pc := 65) (as := [.inr (.inr 36), .inl (-6)]) (r := []) (kc2 := 4) (ks2 := 1203) zr_102_65 rfl (by decide) rfl rfl rfl rfl ⟨rfl, rfl⟩ ⟨rfl, rfl, rfl⟩ h (fun z4 V4 h => ?_)
      exact zq_ret1 (pc := 68) zr_102_68 rfl h
    · refine ze_aload_n (pc := 69) zr_102_69 rfl ?_
      refine ze_aload_n (pc := 70) zr_102_70 rfl ?_
      refine ze_getfield (pc := 71) (v := .inr (.inr 37)) zr_102_71 rfl rfl ?_
      refine ze_aload_n (pc := 74) zr_102_74 rfl ?_
      refine zq_callV1 (pc := 75) (as := [.inr (.inr 37), .inr (.inr (z1.toNat))]) (r := [.inr (.inr 36)]) (kc2 := 4) (ks2 := 1203) zr_102_75 rfl (by decide) rfl rfl rfl rfl ⟨rfl, rfl⟩ ⟨rfl, rfl, rfl⟩ h (fun z2 V2 h => ?_)
      refine zq_callV1 (pc := 78) (as := [.inr (.inr 36), .inl z2]) (r := []) (kc2 := 4) (ks2 := 1203) zr_102_78 rfl (by decide) rfl rfl rfl rfl ⟨rfl, rfl⟩ ⟨rfl, rfl, rfl⟩ h (fun z3 V3 h => ?_)
      exact zq_ret1 (pc := 81) zr_102_81 rfl h
  · refine ze_aload_n (pc := 12) zr_102_12 rfl ?_
    refine ze_getfield (pc := 13) (v := .inr (.inr 87)) zr_102_13 rfl rfl ?_
    refine ze_iconst (pc := 16) zr_102_16 (by decide) ?_
    refine zq_putI (pc := 17) zr_102_17 (by decide) rfl h (fun W3 h => ?_)
    refine ze_aload_n (pc := 20) zr_102_20 rfl ?_
    refine ze_bipush (pc := 21) zr_102_21 (by decide) ?_
    refine zq_callV1 (pc := 23) (as := [.inr (.inr 36), .inl (-5)]) (r := []) (kc2 := 0) (ks2 := 0) zr_102_23 rfl (by decide) rfl rfl rfl rfl ⟨rfl, rfl⟩ ⟨rfl, rfl, rfl⟩ h (fun z5 V5 h => ?_)
    exact zq_ret1 (pc := 26) zr_102_26 rfl h
theorem zb103_36 {d : Nat} {Q : Int → z_M → Prop}  {V : z_M}
    (h : Q (V 36 14) V) :
    z_MS (d + 1) 103 true [.inr (.inr 36)] V Q := by
  show z_Ex (z_MS d) 103 Q true 0 [some (.inr (.inr 36))] [] 0 0 V
  refine ze_aload_n (pc := 0) zr_103_0 rfl ?_
  refine ze_getfield (pc := 1) (v := .inl (V 36 14)) zr_103_1 rfl rfl ?_
  exact zq_ret1 (pc := 4) zr_103_4 rfl h
theorem zb104_36 {d : Nat} {Q : Int → z_M → Prop} (a0 : Int) {V : z_M}
    (h : zI (a0 = (-1)) (∀ W1, W1 = z_up V 37 10 a0 → z_MS d 131 true [.inr (.inr 36), .inl (V 37 10)] W1 (fun z1 V1 => Q z1 V1)) (z_MS d 133 true [.inl a0, .inl 0, .inl (z_sub (V 37 9) 1)] V (fun z2 V2 => zI (z2 = 0) (z_MS d 130 true [.inr (.inr 36), .inl (-2)] V2 (fun z4 V4 => Q z4 V4)) (∀ W2, W2 = z_up V2 37 10 a0 → z_MS d 131 true [.inr (.inr 36), .inl (V2 37 10)] W2 (fun z3 V3 => Q z3 V3))))) :
    z_MS (d + 1) 104 true [.inr (.inr 36), .inl a0] V Q := by
  show z_Ex (z_MS d) 104 Q true 0 [some (.inr (.inr 36)), some (.inl a0), none] [] 0 0 V
  refine ze_iload_n (pc := 0) zr_104_0 rfl ?_
  refine ze_iconst (pc := 1) zr_104_1 (by decide) ?_
  refine zq_icmp_eq (pc := 2) (t := 29) zr_104_2 (by decide) (z_toif h) (fun h => ?_) (fun h => ?_)
  · refine ze_aload_n (pc := 29) zr_104_29 rfl ?_
    refine ze_getfield (pc := 30) (v := .inr (.inr 37)) zr_104_30 rfl rfl ?_
    refine ze_getfield (pc := 33) (v := .inl (V 37 10)) zr_104_33 rfl rfl ?_
    refine zq_istore_n (pc := 36) (ls2 := [some (.inr (.inr 36)), some (.inl a0), some (.inl (V 37 10))]) zr_104_36 rfl rfl ?_
    refine ze_aload_n (pc := 37) zr_104_37 rfl ?_
    refine ze_getfield (pc := 38) (v := .inr (.inr 37)) zr_104_38 rfl rfl ?_
    refine ze_iload_n (pc := 41) zr_104_41 rfl ?_
    refine zq_putI (pc := 42) zr_104_42 (by decide) rfl h (fun W1 h => ?_)
    refine ze_aload_n (pc := 45) zr_104_45 rfl ?_
    refine ze_iload_n (pc := 46) zr_104_46 rfl ?_
    refine zq_callV1 (pc := 47) (as := [.inr (.inr 36), .inl (V 37 10)]) (r := []) (kc2 := 0) (ks2 := 0) zr_104_47 rfl (by decide) rfl rfl rfl rfl ⟨rfl, rfl⟩ ⟨rfl, rfl, rfl⟩ h (fun z1 V1 h => ?_)
    exact zq_ret1 (pc := 50) zr_104_50 rfl h
  · refine ze_iload_n (pc := 5) zr_104_5 rfl ?_
    refine ze_iconst (pc := 6) zr_104_6 (by decide) ?_
    refine ze_aload_n (pc := 7) zr_104_7 rfl ?_
    refine ze_getfield (pc := 8) (v := .inr (.inr 37)) zr_104_8 rfl rfl ?_
    refine ze_getfield (pc := 11) (v := .inl (V 37 9)) zr_104_11 rfl rfl ?_
    refine ze_iconst (pc := 14) zr_104_14 (by decide) ?_
    refine ze_isub (pc := 15) zr_104_15 ?_
    refine zq_callS1 (pc := 16) (as := [.inl a0, .inl 0, .inl (z_sub (V 37 9) 1)]) (r := []) (kc2 := 0) (ks2 := 0) zr_104_16 rfl rfl rfl rfl ⟨rfl, rfl⟩ ⟨rfl, rfl, rfl⟩ h (fun z2 V2 h => ?_)
    refine zq_if_ne (pc := 19) (t := 29) zr_104_19 (by decide) (z_toif h) (fun h => ?_) (fun h => ?_)
    · refine ze_aload_n (pc := 22) zr_104_22 rfl ?_
      refine ze_bipush (pc := 23) zr_104_23 (by decide) ?_
      refine zq_callV1 (pc := 25) (as := [.inr (.inr 36), .inl (-2)]) (r := []) (kc2 := 0) (ks2 := 0) zr_104_25 rfl (by decide) rfl rfl rfl rfl ⟨rfl, rfl⟩ ⟨rfl, rfl, rfl⟩ h (fun z4 V4 h => ?_)
      exact zq_ret1 (pc := 28) zr_104_28 rfl h
    · refine ze_aload_n (pc := 29) zr_104_29 rfl ?_
      refine ze_getfield (pc := 30) (v := .inr (.inr 37)) zr_104_30 rfl rfl ?_
      refine ze_getfield (pc := 33) (v := .inl (V2 37 10)) zr_104_33 rfl rfl ?_
      refine zq_istore_n (pc := 36) (ls2 := [some (.inr (.inr 36)), some (.inl a0), some (.inl (V2 37 10))]) zr_104_36 rfl rfl ?_
      refine ze_aload_n (pc := 37) zr_104_37 rfl ?_
      refine ze_getfield (pc := 38) (v := .inr (.inr 37)) zr_104_38 rfl rfl ?_
      refine ze_iload_n (pc := 41) zr_104_41 rfl ?_
      refine zq_putI (pc := 42) zr_104_42 (by decide) rfl h (fun W2 h => ?_)
      refine ze_aload_n (pc := 45) zr_104_45 rfl ?_
      refine ze_iload_n (pc := 46) zr_104_46 rfl ?_
      refine zq_callV1 (pc := 47) (as := [.inr (.inr 36), .inl (V2 37 10)]) (r := []) (kc2 := 0) (ks2 := 0) zr_104_47 rfl (by decide) rfl rfl rfl rfl ⟨rfl, rfl⟩ ⟨rfl, rfl, rfl⟩ h (fun z3 V3 h => ?_)
      exact zq_ret1 (pc := 50) zr_104_50 rfl h
theorem zb105_36 {d : Nat} {Q : Int → z_M → Prop} (a0 : Int) (a1 : Int) {V : z_M}
    (h : z_MS d 75 true [.inr (.inr 37), .inl a0] V (fun z1 V1 => zI (z1 = 0) (Q (-1) V1) (z_MS d 76 true [.inr (.inr 37), .inl a1] V1 (fun z2 V2 => zI (z2 = 0) (Q (-1) V2) (z_MS d 83 true [.inr (.inr 37), .inl a0] V2 (fun z3 V3 => z_MS d 16 true [.inr (.inr 94), .inr (.inr 37), .inl a1, .inl a0, .inl a0, .inl z3] V3 (fun z4 V4 => Q (if z4 = 0 then 0 else 1) V4))))))) :
    z_MS (d + 1) 105 true [.inr (.inr 36), .inl a0, .inl a1] V Q := by
  show z_Ex (z_MS d) 105 Q true 0 [some (.inr (.inr 36)), some (.inl a0), some (.inl a1)] [] 0 0 V
  refine ze_aload_n (pc := 0) zr_105_0 rfl ?_
  refine ze_getfield (pc := 1) (v := .inr (.inr 37)) zr_105_1 rfl rfl ?_
  refine ze_iload_n (pc := 4) zr_105_4 rfl ?_
  refine zq_callV1 (pc := 5) (as := [.inr (.inr 37), .inl a0]) (r := []) (kc2 := 0) (ks2 := 0) zr_105_5 rfl (by decide) rfl rfl rfl rfl ⟨rfl, rfl⟩ ⟨rfl, rfl, rfl⟩ h (fun z1 V1 h => ?_)
  refine zq_if_eq (pc := 8) (t := 22) zr_105_8 (by decide) (z_toif h) (fun h => ?_) (fun h => ?_)
  · refine ze_iconst (pc := 22) zr_105_22 (by decide) ?_
    exact zq_ret1 (pc := 23) zr_105_23 rfl h
  · refine ze_aload_n (pc := 11) zr_105_11 rfl ?_
    refine ze_getfield (pc := 12) (v := .inr (.inr 37)) zr_105_12 rfl rfl ?_
    refine ze_iload_n (pc := 15) zr_105_15 rfl ?_
    refine zq_callV1 (pc := 16) (as := [.inr (.inr 37), .inl a1]) (r := []) (kc2 := 0) (ks2 := 0) zr_105_16 rfl (by decide) rfl rfl rfl rfl ⟨rfl, rfl⟩ ⟨rfl, rfl, rfl⟩ h (fun z2 V2 h => ?_)
    refine zq_if_ne (pc := 19) (t := 24) zr_105_19 (by decide) (z_toif h) (fun h => ?_) (fun h => ?_)
    · refine ze_iconst (pc := 22) zr_105_22 (by decide) ?_
      exact zq_ret1 (pc := 23) zr_105_23 rfl h
    · refine ze_aload_n (pc := 24) zr_105_24 rfl ?_
      refine ze_getfield (pc := 25) (v := .inr (.inr 94)) zr_105_25 rfl rfl ?_
      refine ze_aload_n (pc := 28) zr_105_28 rfl ?_
      refine ze_getfield (pc := 29) (v := .inr (.inr 37)) zr_105_29 rfl rfl ?_
      refine ze_iload_n (pc := 32) zr_105_32 rfl ?_
      refine ze_iload_n (pc := 33) zr_105_33 rfl ?_
      refine ze_iload_n (pc := 34) zr_105_34 rfl ?_
      refine ze_aload_n (pc := 35) zr_105_35 rfl ?_
      refine ze_getfield (pc := 36) (v := .inr (.inr 37)) zr_105_36 rfl rfl ?_
      refine ze_iload_n (pc := 39) zr_105_39 rfl ?_
      refine zq_callV1 (pc := 40) (as := [.inr (.inr 37), .inl a0]) (r := [.inl a0, .inl a0, .inl a1, .inr (.inr 37), .inr (.inr 94)]) (kc2 := 0) (ks2 := 0) zr_105_40 rfl (by decide) rfl rfl rfl rfl ⟨rfl, rfl⟩ ⟨rfl, rfl, rfl⟩ h (fun z3 V3 h => ?_)
      refine zq_callV1 (pc := 43) (as := [.inr (.inr 94), .inr (.inr 37), .inl a1, .inl a0, .inl a0, .inl z3]) (r := []) (kc2 := 0) (ks2 := 0) zr_105_43 rfl (by decide) rfl rfl rfl rfl ⟨rfl, rfl⟩ ⟨rfl, rfl, rfl⟩ h (fun z4 V4 h => ?_)
      have j46 : z_Ex (z_MS d) 105 Q true 54 [some (.inr (.inr 36)), some (.inl a0), some (.inl a1)] [.inl (if z4 = 0 then 0 else 1)] 0 0 V4 := by
        exact zq_ret1 (pc := 54) zr_105_54 rfl h
      refine ze_if_eq (pc := 46) (t := 53) zr_105_46 (by decide) (fun hc => ?_) (fun hc => ?_)
      · rw [if_pos (show z4 = 0 from hc)] at j46
        refine ze_iconst (pc := 53) zr_105_53 (by decide) ?_
        exact j46
      · rw [if_neg (show ¬ (z4 = 0) from hc)] at j46
        refine ze_iconst (pc := 49) zr_105_49 (by decide) ?_
        refine ze_goto (pc := 50) (t := 54) zr_105_50 (by decide) ?_
        exact j46
theorem zb106_36 {d : Nat} {Q : Int → z_M → Prop} (a0 : Int) {V : z_M}
    (h : z_MS d 76 true [.inr (.inr 37), .inl a0] V (fun z1 V1 => zI (z1 = 0) (Q (-1) V1) (z_MS d 138 true [.inr (.inr 36), .inl a0] V1 (fun z2 V2 => z_MS d 53 true [.inr (.inr 97), .inl a0] V2 (fun z3 V3 => Q (z_shr z3 1) V3))))) :
    z_MS (d + 1) 106 true [.inr (.inr 36), .inl a0] V Q := by
  show z_Ex (z_MS d) 106 Q true 0 [some (.inr (.inr 36)), some (.inl a0)] [] 0 0 V
  refine ze_aload_n (pc := 0) zr_106_0 rfl ?_
  refine ze_getfield (pc := 1) (v := .inr (.inr 37)) zr_106_1 rfl rfl ?_
  refine ze_iload_n (pc := 4) zr_106_4 rfl ?_
  refine zq_callV1 (pc := 5) (as := [.inr (.inr 37), .inl a0]) (r := []) (kc2 := 0) (ks2 := 0) zr_106_5 rfl (by decide) rfl rfl rfl rfl ⟨rfl, rfl⟩ ⟨rfl, rfl, rfl⟩ h (fun z1 V1 h => ?_)
  refine zq_if_ne (pc := 8) (t := 13) zr_106_8 (by decide) (z_toif h) (fun h => ?_) (fun h => ?_)
  · refine ze_iconst (pc := 11) zr_106_11 (by decide) ?_
    exact zq_ret1 (pc := 12) zr_106_12 rfl h
  · refine ze_aload_n (pc := 13) zr_106_13 rfl ?_
    refine ze_iload_n (pc := 14) zr_106_14 rfl ?_
    refine zq_callV0 (pc := 15) (as := [.inr (.inr 36), .inl a0]) (r := []) (kc2 := 0) (ks2 := 0) zr_106_15 rfl (by decide) rfl rfl rfl rfl ⟨rfl, rfl⟩ rfl h (fun z2 V2 h => ?_)
    refine ze_aload_n (pc := 18) zr_106_18 rfl ?_
    refine ze_getfield (pc := 19) (v := .inr (.inr 97)) zr_106_19 rfl rfl ?_
    refine ze_iload_n (pc := 22) zr_106_22 rfl ?_
    refine zq_callV1 (pc := 23) (as := [.inr (.inr 97), .inl a0]) (r := []) (kc2 := 0) (ks2 := 0) zr_106_23 rfl (by decide) rfl rfl rfl rfl ⟨rfl, rfl⟩ ⟨rfl, rfl, rfl⟩ h (fun z3 V3 h => ?_)
    refine ze_iconst (pc := 26) zr_106_26 (by decide) ?_
    refine ze_ishr (pc := 27) zr_106_27 ?_
    exact zq_ret1 (pc := 28) zr_106_28 rfl h
theorem zb107_36 {d : Nat} {Q : Int → z_M → Prop} (a0 : Int) (a1 : Int) (a2 : Int) {V : z_M}
    (h : z_MS d 76 true [.inr (.inr 37), .inl a0] V (fun z1 V1 => zI (z1 = 0) (Q (-1) V1) (z_MS d 75 true [.inr (.inr 37), .inl a1] V1 (fun z2 V2 => zI (z2 = 0) (Q (-1) V2) (z_MS d 138 true [.inr (.inr 36), .inl a0] V2 (fun z3 V3 => z_MS d 56 true [.inr (.inr 97), .inl a0, .inl (z_add a1 1)] V3 (fun z4 V4 => zI (a2 = (-1)) (Q z4 V4) (z_MS d 133 true [.inl a2, .inl 0, .inl (z_sub z4 1)] V4 (fun z5 V5 => zI (z5 = 0) (Q (-1) V5) (zGu (0 ≤ a2 ∧ a2 < 12) (∀ x70 : Int, x70 = V5 116 a2.toNat → Q x70 V5))))))))))) :
    z_MS (d + 1) 107 true [.inr (.inr 36), .inl a0, .inl a1, .inl a2] V Q := by
  show z_Ex (z_MS d) 107 Q true 0 [some (.inr (.inr 36)), some (.inl a0), some (.inl a1), some (.inl a2), none] [] 0 0 V
  refine ze_aload_n (pc := 0) zr_107_0 rfl ?_
  refine ze_getfield (pc := 1) (v := .inr (.inr 37)) zr_107_1 rfl rfl ?_
  refine ze_iload_n (pc := 4) zr_107_4 rfl ?_
  refine zq_callV1 (pc := 5) (as := [.inr (.inr 37), .inl a0]) (r := []) (kc2 := 0) (ks2 := 0) zr_107_5 rfl (by decide) rfl rfl rfl rfl ⟨rfl, rfl⟩ ⟨rfl, rfl, rfl⟩ h (fun z1 V1 h => ?_)
  refine zq_if_eq (pc := 8) (t := 22) zr_107_8 (by decide) (z_toif h) (fun h => ?_) (fun h => ?_)
  · refine ze_iconst (pc := 22) zr_107_22 (by decide) ?_
    exact zq_ret1 (pc := 23) zr_107_23 rfl h
  · refine ze_aload_n (pc := 11) zr_107_11 rfl ?_
    refine ze_getfield (pc := 12) (v := .inr (.inr 37)) zr_107_12 rfl rfl ?_
    refine ze_iload_n (pc := 15) zr_107_15 rfl ?_
    refine zq_callV1 (pc := 16) (as := [.inr (.inr 37), .inl a1]) (r := []) (kc2 := 0) (ks2 := 0) zr_107_16 rfl (by decide) rfl rfl rfl rfl ⟨rfl, rfl⟩ ⟨rfl, rfl, rfl⟩ h (fun z2 V2 h => ?_)
    refine zq_if_ne (pc := 19) (t := 24) zr_107_19 (by decide) (z_toif h) (fun h => ?_) (fun h => ?_)
    · refine ze_iconst (pc := 22) zr_107_22 (by decide) ?_
      exact zq_ret1 (pc := 23) zr_107_23 rfl h
    · refine ze_aload_n (pc := 24) zr_107_24 rfl ?_
      refine ze_iload_n (pc := 25) zr_107_25 rfl ?_
      refine zq_callV0 (pc := 26) (as := [.inr (.inr 36), .inl a0]) (r := []) (kc2 := 0) (ks2 := 0) zr_107_26 rfl (by decide) rfl rfl rfl rfl ⟨rfl, rfl⟩ rfl h (fun z3 V3 h => ?_)
      refine ze_aload_n (pc := 29) zr_107_29 rfl ?_
      refine ze_getfield (pc := 30) (v := .inr (.inr 97)) zr_107_30 rfl rfl ?_
      refine ze_iload_n (pc := 33) zr_107_33 rfl ?_
      refine ze_iload_n (pc := 34) zr_107_34 rfl ?_
      refine ze_iconst (pc := 35) zr_107_35 (by decide) ?_
      refine ze_iadd (pc := 36) zr_107_36 ?_
      refine zq_callV1 (pc := 37) (as := [.inr (.inr 97), .inl a0, .inl (z_add a1 1)]) (r := []) (kc2 := 0) (ks2 := 0) zr_107_37 rfl (by decide) rfl rfl rfl rfl ⟨rfl, rfl⟩ ⟨rfl, rfl, rfl⟩ h (fun z4 V4 h => ?_)
      refine zq_istore (pc := 40) (ls2 := [some (.inr (.inr 36)), some (.inl a0), some (.inl a1), some (.inl a2), some (.inl z4)]) zr_107_40 rfl rfl ?_
      refine ze_iload_n (pc := 42) zr_107_42 rfl ?_
      refine ze_iconst (pc := 43) zr_107_43 (by decide) ?_
      refine zq_icmp_ne (pc := 44) (t := 50) zr_107_44 (by decide) (z_toif h) (fun h => ?_) (fun h => ?_)
      · refine ze_iload (pc := 47) zr_107_47 rfl ?_
        exact zq_ret1 (pc := 49) zr_107_49 rfl h
      · refine ze_iload_n (pc := 50) zr_107_50 rfl ?_
        refine ze_iconst (pc := 51) zr_107_51 (by decide) ?_
        refine ze_iload (pc := 52) zr_107_52 rfl ?_
        refine ze_iconst (pc := 54) zr_107_54 (by decide) ?_
        refine ze_isub (pc := 55) zr_107_55 ?_
        refine zq_callS1 (pc := 56) (as := [.inl a2, .inl 0, .inl (z_sub z4 1)]) (r := []) (kc2 := 0) (ks2 := 0) zr_107_56 rfl rfl rfl rfl ⟨rfl, rfl⟩ ⟨rfl, rfl, rfl⟩ h (fun z5 V5 h => ?_)
        refine zq_if_eq (pc := 59) (t := 74) zr_107_59 (by decide) (z_toif h) (fun h => ?_) (fun h => ?_)
        · refine ze_iconst (pc := 74) zr_107_74 (by decide) ?_
          exact zq_ret1 (pc := 75) zr_107_75 rfl h
        · refine ze_aload_n (pc := 62) zr_107_62 rfl ?_
          refine ze_getfield (pc := 63) (v := .inr (.inr 97)) zr_107_63 rfl rfl ?_
          refine ze_getfield (pc := 66) (v := .inr (.inr 116)) zr_107_66 rfl rfl ?_
          refine ze_iload_n (pc := 69) zr_107_69 rfl ?_
          refine z_gk h (fun g70 h => ?_)
          refine zl_iaload (pc := 70) zr_107_70 rfl rfl g70 h (fun x70 h => ?_)
          refine ze_goto (pc := 71) (t := 75) zr_107_71 (by decide) ?_
          exact zq_ret1 (pc := 75) zr_107_75 rfl h
theorem zb108_36 {d : Nat} {Q : Int → z_M → Prop} (a0 : Int) (a1 : Int) {V : z_M}
    (h : z_MS d 133 true [.inl a1, .inl 0, .inl 3] V (fun z1 V1 => zI (z1 = 0) (Q (-1) V1) (z_MS d 141 true [.inr (.inr 36), .inl 0, .inl a0, .inl a1] V1 (fun z2 V2 => Q z2 V2)))) :
    z_MS (d + 1) 108 true [.inr (.inr 36), .inl a0, .inl a1] V Q := by
  show z_Ex (z_MS d) 108 Q true 0 [some (.inr (.inr 36)), some (.inl a0), some (.inl a1)] [] 0 0 V
  refine ze_iload_n (pc := 0) zr_108_0 rfl ?_
  refine ze_iconst (pc := 1) zr_108_1 (by decide) ?_
  refine ze_iconst (pc := 2) zr_108_2 (by decide) ?_
  refine zq_callS1 (pc := 3) (as := [.inl a1, .inl 0, .inl 3]) (r := []) (kc2 := 0) (ks2 := 0) zr_108_3 rfl rfl rfl rfl ⟨rfl, rfl⟩ ⟨rfl, rfl, rfl⟩ h (fun z1 V1 h => ?_)
  refine zq_if_eq (pc := 6) (t := 19) zr_108_6 (by decide) (z_toif h) (fun h => ?_) (fun h => ?_)
  · refine ze_iconst (pc := 19) zr_108_19 (by decide) ?_
    exact zq_ret1 (pc := 20) zr_108_20 rfl h
  · refine ze_aload_n (pc := 9) zr_108_9 rfl ?_
    refine ze_iconst (pc := 10) zr_108_10 (by decide) ?_
    refine ze_iload_n (pc := 11) zr_108_11 rfl ?_
    refine ze_iload_n (pc := 12) zr_108_12 rfl ?_
    refine zq_callV1 (pc := 13) (as := [.inr (.inr 36), .inl 0, .inl a0, .inl a1]) (r := []) (kc2 := 0) (ks2 := 0) zr_108_13 rfl (by decide) rfl rfl rfl rfl ⟨rfl, rfl⟩ ⟨rfl, rfl, rfl⟩ h (fun z2 V2 h => ?_)
    refine ze_goto (pc := 16) (t := 20) zr_108_16 (by decide) ?_
    exact zq_ret1 (pc := 20) zr_108_20 rfl h
theorem zb109_36 {d : Nat} {Q : Int → z_M → Prop} (a0 : Int) (a1 : Int) {V : z_M}
    (h : z_MS d 133 true [.inl a1, .inl 0, .inl 2] V (fun z1 V1 => zI (z1 = 0) (Q (-1) V1) (z_MS d 141 true [.inr (.inr 36), .inl 1, .inl a0, .inl a1] V1 (fun z2 V2 => Q z2 V2)))) :
    z_MS (d + 1) 109 true [.inr (.inr 36), .inl a0, .inl a1] V Q := by
  show z_Ex (z_MS d) 109 Q true 0 [some (.inr (.inr 36)), some (.inl a0), some (.inl a1)] [] 0 0 V
  refine ze_iload_n (pc := 0) zr_109_0 rfl ?_
  refine ze_iconst (pc := 1) zr_109_1 (by decide) ?_
  refine ze_iconst (pc := 2) zr_109_2 (by decide) ?_
  refine zq_callS1 (pc := 3) (as := [.inl a1, .inl 0, .inl 2]) (r := []) (kc2 := 0) (ks2 := 0) zr_109_3 rfl rfl rfl rfl ⟨rfl, rfl⟩ ⟨rfl, rfl, rfl⟩ h (fun z1 V1 h => ?_)
  refine zq_if_eq (pc := 6) (t := 19) zr_109_6 (by decide) (z_toif h) (fun h => ?_) (fun h => ?_)
  · refine ze_iconst (pc := 19) zr_109_19 (by decide) ?_
    exact zq_ret1 (pc := 20) zr_109_20 rfl h
  · refine ze_aload_n (pc := 9) zr_109_9 rfl ?_
    refine ze_iconst (pc := 10) zr_109_10 (by decide) ?_
    refine ze_iload_n (pc := 11) zr_109_11 rfl ?_
    refine ze_iload_n (pc := 12) zr_109_12 rfl ?_
    refine zq_callV1 (pc := 13) (as := [.inr (.inr 36), .inl 1, .inl a0, .inl a1]) (r := []) (kc2 := 0) (ks2 := 0) zr_109_13 rfl (by decide) rfl rfl rfl rfl ⟨rfl, rfl⟩ ⟨rfl, rfl, rfl⟩ h (fun z2 V2 h => ?_)
    refine ze_goto (pc := 16) (t := 20) zr_109_16 (by decide) ?_
    exact zq_ret1 (pc := 20) zr_109_20 rfl h
theorem zb110_36 {d : Nat} {Q : Int → z_M → Prop} (a0 : Int) (a1 : Int) {V : z_M}
    (h : z_MS d 133 true [.inl a1, .inl 0, .inl 2] V (fun z1 V1 => zI (z1 = 0) (Q (-1) V1) (z_MS d 141 true [.inr (.inr 36), .inl 2, .inl a0, .inl a1] V1 (fun z2 V2 => Q z2 V2)))) :
    z_MS (d + 1) 110 true [.inr (.inr 36), .inl a0, .inl a1] V Q := by
  show z_Ex (z_MS d) 110 Q true 0 [some (.inr (.inr 36)), some (.inl a0), some (.inl a1)] [] 0 0 V
  refine ze_iload_n (pc := 0) zr_110_0 rfl ?_
  refine ze_iconst (pc := 1) zr_110_1 (by decide) ?_
  refine ze_iconst (pc := 2) zr_110_2 (by decide) ?_
  refine zq_callS1 (pc := 3) (as := [.inl a1, .inl 0, .inl 2]) (r := []) (kc2 := 0) (ks2 := 0) zr_110_3 rfl rfl rfl rfl ⟨rfl, rfl⟩ ⟨rfl, rfl, rfl⟩ h (fun z1 V1 h => ?_)
  refine zq_if_eq (pc := 6) (t := 19) zr_110_6 (by decide) (z_toif h) (fun h => ?_) (fun h => ?_)
  · refine ze_iconst (pc := 19) zr_110_19 (by decide) ?_
    exact zq_ret1 (pc := 20) zr_110_20 rfl h
  · refine ze_aload_n (pc := 9) zr_110_9 rfl ?_
    refine ze_iconst (pc := 10) zr_110_10 (by decide) ?_
    refine ze_iload_n (pc := 11) zr_110_11 rfl ?_
    refine ze_iload_n (pc := 12) zr_110_12 rfl ?_
    refine zq_callV1 (pc := 13) (as := [.inr (.inr 36), .inl 2, .inl a0, .inl a1]) (r := []) (kc2 := 0) (ks2 := 0) zr_110_13 rfl (by decide) rfl rfl rfl rfl ⟨rfl, rfl⟩ ⟨rfl, rfl, rfl⟩ h (fun z2 V2 h => ?_)
    refine ze_goto (pc := 16) (t := 20) zr_110_16 (by decide) ?_
    exact zq_ret1 (pc := 20) zr_110_20 rfl h
theorem zb111_36 {d : Nat} {Q : Int → z_M → Prop} (a0 : Int) (a1 : Int) {V : z_M}
    (h : z_MS d 76 true [.inr (.inr 37), .inl a0] V (fun z1 V1 => zI (z1 = 0) (z_MS d 130 true [.inr (.inr 36), .inl (-2)] V1 (fun z2 V2 => Q z2 V2)) (z_MS d 75 true [.inr (.inr 37), .inl a1] V1 (fun z3 V3 => zI (z3 = 0) (z_MS d 130 true [.inr (.inr 36), .inl (-2)] V3 (fun z6 V6 => Q z6 V6)) (z_MS d 80 true [.inr (.inr 37), .inl a0, .inl a1] V3 (fun z4 V4 => z_MS d 132 true [.inr (.inr 36), .inl z4] V4 (fun z5 V5 => Q z5 V5))))))) :
    z_MS (d + 1) 111 true [.inr (.inr 36), .inl a0, .inl a1] V Q := by
  show z_Ex (z_MS d) 111 Q true 0 [some (.inr (.inr 36)), some (.inl a0), some (.inl a1)] [] 0 0 V
  refine ze_aload_n (pc := 0) zr_111_0 rfl ?_
  refine ze_getfield (pc := 1) (v := .inr (.inr 37)) zr_111_1 rfl rfl ?_
  refine ze_iload_n (pc := 4) zr_111_4 rfl ?_
  refine zq_callV1 (pc := 5) (as := [.inr (.inr 37), .inl a0]) (r := []) (kc2 := 0) (ks2 := 0) zr_111_5 rfl (by decide) rfl rfl rfl rfl ⟨rfl, rfl⟩ ⟨rfl, rfl, rfl⟩ h (fun z1 V1 h => ?_)
  refine zq_if_eq (pc := 8) (t := 22) zr_111_8 (by decide) (z_toif h) (fun h => ?_) (fun h => ?_)
  · refine ze_aload_n (pc := 22) zr_111_22 rfl ?_
    refine ze_bipush (pc := 23) zr_111_23 (by decide) ?_
    refine zq_callV1 (pc := 25) (as := [.inr (.inr 36), .inl (-2)]) (r := []) (kc2 := 0) (ks2 := 0) zr_111_25 rfl (by decide) rfl rfl rfl rfl ⟨rfl, rfl⟩ ⟨rfl, rfl, rfl⟩ h (fun z2 V2 h => ?_)
    exact zq_ret1 (pc := 28) zr_111_28 rfl h
  · refine ze_aload_n (pc := 11) zr_111_11 rfl ?_
    refine ze_getfield (pc := 12) (v := .inr (.inr 37)) zr_111_12 rfl rfl ?_
    refine ze_iload_n (pc := 15) zr_111_15 rfl ?_
    refine zq_callV1 (pc := 16) (as := [.inr (.inr 37), .inl a1]) (r := []) (kc2 := 0) (ks2 := 0) zr_111_16 rfl (by decide) rfl rfl rfl rfl ⟨rfl, rfl⟩ ⟨rfl, rfl, rfl⟩ h (fun z3 V3 h => ?_)
    refine zq_if_ne (pc := 19) (t := 29) zr_111_19 (by decide) (z_toif h) (fun h => ?_) (fun h => ?_)
    · refine ze_aload_n (pc := 22) zr_111_22 rfl ?_
      refine ze_bipush (pc := 23) zr_111_23 (by decide) ?_
      refine zq_callV1 (pc := 25) (as := [.inr (.inr 36), .inl (-2)]) (r := []) (kc2 := 0) (ks2 := 0) zr_111_25 rfl (by decide) rfl rfl rfl rfl ⟨rfl, rfl⟩ ⟨rfl, rfl, rfl⟩ h (fun z6 V6 h => ?_)
      exact zq_ret1 (pc := 28) zr_111_28 rfl h
    · refine ze_aload_n (pc := 29) zr_111_29 rfl ?_
      refine ze_aload_n (pc := 30) zr_111_30 rfl ?_
      refine ze_getfield (pc := 31) (v := .inr (.inr 37)) zr_111_31 rfl rfl ?_
      refine ze_iload_n (pc := 34) zr_111_34 rfl ?_
      refine ze_iload_n (pc := 35) zr_111_35 rfl ?_
      refine zq_callV1 (pc := 36) (as := [.inr (.inr 37), .inl a0, .inl a1]) (r := [.inr (.inr 36)]) (kc2 := 0) (ks2 := 0) zr_111_36 rfl (by decide) rfl rfl rfl rfl ⟨rfl, rfl⟩ ⟨rfl, rfl, rfl⟩ h (fun z4 V4 h => ?_)
      refine zq_callV1 (pc := 39) (as := [.inr (.inr 36), .inl z4]) (r := []) (kc2 := 0) (ks2 := 0) zr_111_39 rfl (by decide) rfl rfl rfl rfl ⟨rfl, rfl⟩ ⟨rfl, rfl, rfl⟩ h (fun z5 V5 h => ?_)
      exact zq_ret1 (pc := 42) zr_111_42 rfl h
theorem zb112_36 {d : Nat} {Q : Int → z_M → Prop} (a0 : Int) {V : z_M}
    (h : z_MS d 133 true [.inl a0, .inl 0, .inl (z_sub (V 37 11) 1)] V (fun z1 V1 => zI (z1 = 0) (z_MS d 130 true [.inr (.inr 36), .inl (-2)] V1 (fun z4 V4 => Q z4 V4)) (z_MS d 82 true [.inr (.inr 37), .inl a0] V1 (fun z2 V2 => z_MS d 131 true [.inr (.inr 36), .inl (V2 37 11)] V2 (fun z3 V3 => Q z3 V3))))) :
    z_MS (d + 1) 112 true [.inr (.inr 36), .inl a0] V Q := by
  show z_Ex (z_MS d) 112 Q true 0 [some (.inr (.inr 36)), some (.inl a0)] [] 0 0 V
  refine ze_iload_n (pc := 0) zr_112_0 rfl ?_
  refine ze_iconst (pc := 1) zr_112_1 (by decide) ?_
  refine ze_aload_n (pc := 2) zr_112_2 rfl ?_
  refine ze_getfield (pc := 3) (v := .inr (.inr 37)) zr_112_3 rfl rfl ?_
  refine ze_getfield (pc := 6) (v := .inl (V 37 11)) zr_112_6 rfl rfl ?_
  refine ze_iconst (pc := 9) zr_112_9 (by decide) ?_
  refine ze_isub (pc := 10) zr_112_10 ?_
  refine zq_callS1 (pc := 11) (as := [.inl a0, .inl 0, .inl (z_sub (V 37 11) 1)]) (r := []) (kc2 := 0) (ks2 := 0) zr_112_11 rfl rfl rfl rfl ⟨rfl, rfl⟩ ⟨rfl, rfl, rfl⟩ h (fun z1 V1 h => ?_)
  refine zq_if_ne (pc := 14) (t := 24) zr_112_14 (by decide) (z_toif h) (fun h => ?_) (fun h => ?_)
  · refine ze_aload_n (pc := 17) zr_112_17 rfl ?_
    refine ze_bipush (pc := 18) zr_112_18 (by decide) ?_
    refine zq_callV1 (pc := 20) (as := [.inr (.inr 36), .inl (-2)]) (r := []) (kc2 := 0) (ks2 := 0) zr_112_20 rfl (by decide) rfl rfl rfl rfl ⟨rfl, rfl⟩ ⟨rfl, rfl, rfl⟩ h (fun z4 V4 h => ?_)
    exact zq_ret1 (pc := 23) zr_112_23 rfl h
  · refine ze_aload_n (pc := 24) zr_112_24 rfl ?_
    refine ze_getfield (pc := 25) (v := .inr (.inr 37)) zr_112_25 rfl rfl ?_
    refine ze_iload_n (pc := 28) zr_112_28 rfl ?_
    refine zq_callV0 (pc := 29) (as := [.inr (.inr 37), .inl a0]) (r := []) (kc2 := 0) (ks2 := 0) zr_112_29 rfl (by decide) rfl rfl rfl rfl ⟨rfl, rfl⟩ rfl h (fun z2 V2 h => ?_)
    refine ze_aload_n (pc := 32) zr_112_32 rfl ?_
    refine ze_aload_n (pc := 33) zr_112_33 rfl ?_
    refine ze_getfield (pc := 34) (v := .inr (.inr 37)) zr_112_34 rfl rfl ?_
    refine ze_getfield (pc := 37) (v := .inl (V2 37 11)) zr_112_37 rfl rfl ?_
    refine zq_callV1 (pc := 40) (as := [.inr (.inr 36), .inl (V2 37 11)]) (r := []) (kc2 := 0) (ks2 := 0) zr_112_40 rfl (by decide) rfl rfl rfl rfl ⟨rfl, rfl⟩ ⟨rfl, rfl, rfl⟩ h (fun z3 V3 h => ?_)
    exact zq_ret1 (pc := 43) zr_112_43 rfl h
theorem zb113_36 {d : Nat} {Q : Int → z_M → Prop} (a0 : Int) {V : z_M}
    (h : z_MS d 133 true [.inl a0, .inl 0, .inl 2] V (fun z1 V1 => zI (z1 = 0) (Q (-1) V1) (z_MS d 140 true [.inr (.inr 36)] V1 (fun z2 V2 => zI (a0 = 0) (Q z2 V2) (zI (a0 = 1) (z_MS d 62 true [.inr (.inr 97)] V2 (fun z4 V4 => Q z4 V4)) (z_MS d 64 true [.inr (.inr 97)] V2 (fun z3 V3 => Q z3 V3))))))) :
    z_MS (d + 1) 113 true [.inr (.inr 36), .inl a0] V Q := by
  show z_Ex (z_MS d) 113 Q true 0 [some (.inr (.inr 36)), some (.inl a0), none] [] 0 0 V
  refine ze_iload_n (pc := 0) zr_113_0 rfl ?_
  refine ze_iconst (pc := 1) zr_113_1 (by decide) ?_
  refine ze_iconst (pc := 2) zr_113_2 (by decide) ?_
  refine zq_callS1 (pc := 3) (as := [.inl a0, .inl 0, .inl 2]) (r := []) (kc2 := 0) (ks2 := 0) zr_113_3 rfl rfl rfl rfl ⟨rfl, rfl⟩ ⟨rfl, rfl, rfl⟩ h (fun z1 V1 h => ?_)
  refine zq_if_ne (pc := 6) (t := 11) zr_113_6 (by decide) (z_toif h) (fun h => ?_) (fun h => ?_)
  · refine ze_iconst (pc := 9) zr_113_9 (by decide) ?_
    exact zq_ret1 (pc := 10) zr_113_10 rfl h
  · refine ze_aload_n (pc := 11) zr_113_11 rfl ?_
    refine zq_callV1 (pc := 12) (as := [.inr (.inr 36)]) (r := []) (kc2 := 0) (ks2 := 0) zr_113_12 rfl (by decide) rfl rfl rfl rfl ⟨rfl, rfl⟩ ⟨rfl, rfl, rfl⟩ h (fun z2 V2 h => ?_)
    refine zq_istore_n (pc := 15) (ls2 := [some (.inr (.inr 36)), some (.inl a0), some (.inl z2)]) zr_113_15 rfl rfl ?_
    refine ze_iload_n (pc := 16) zr_113_16 rfl ?_
    refine zq_if_ne (pc := 17) (t := 22) zr_113_17 (by decide) (z_toif h) (fun h => ?_) (fun h => ?_)
    · refine ze_iload_n (pc := 20) zr_113_20 rfl ?_
      exact zq_ret1 (pc := 21) zr_113_21 rfl h
    · refine ze_iload_n (pc := 22) zr_113_22 rfl ?_
      refine ze_iconst (pc := 23) zr_113_23 (by decide) ?_
      refine zq_icmp_ne (pc := 24) (t := 37) zr_113_24 (by decide) (z_toif h) (fun h => ?_) (fun h => ?_)
      · refine ze_aload_n (pc := 27) zr_113_27 rfl ?_
        refine ze_getfield (pc := 28) (v := .inr (.inr 97)) zr_113_28 rfl rfl ?_
        refine zq_callV1 (pc := 31) (as := [.inr (.inr 97)]) (r := []) (kc2 := 0) (ks2 := 0) zr_113_31 rfl (by decide) rfl rfl rfl rfl ⟨rfl, rfl⟩ ⟨rfl, rfl, rfl⟩ h (fun z4 V4 h => ?_)
        refine ze_goto (pc := 34) (t := 44) zr_113_34 (by decide) ?_
        exact zq_ret1 (pc := 44) zr_113_44 rfl h
      · refine ze_aload_n (pc := 37) zr_113_37 rfl ?_
        refine ze_getfield (pc := 38) (v := .inr (.inr 97)) zr_113_38 rfl rfl ?_
        refine zq_callV1 (pc := 41) (as := [.inr (.inr 97)]) (r := []) (kc2 := 0) (ks2 := 0) zr_113_41 rfl (by decide) rfl rfl rfl rfl ⟨rfl, rfl⟩ ⟨rfl, rfl, rfl⟩ h (fun z3 V3 h => ?_)
        exact zq_ret1 (pc := 44) zr_113_44 rfl h
theorem zb114_36 {d : Nat} {Q : Int → z_M → Prop} (a0 : Int) {V : z_M}
    (h : z_MS d 76 true [.inr (.inr 37), .inl a0] V (fun z1 V1 => zI (z1 = 0) (Q (-1) V1) (z_MS d 140 true [.inr (.inr 36)] V1 (fun z2 V2 => zGu (0 ≤ a0 ∧ a0 < 6) (∀ x26 : Int, x26 = V2 115 a0.toNat → Q (if x26 = 0 then 100 else z_sub x26 1) V2))))) :
    z_MS (d + 1) 114 true [.inr (.inr 36), .inl a0] V Q := by
  show z_Ex (z_MS d) 114 Q true 0 [some (.inr (.inr 36)), some (.inl a0), none] [] 0 0 V
  refine ze_aload_n (pc := 0) zr_114_0 rfl ?_
  refine ze_getfield (pc := 1) (v := .inr (.inr 37)) zr_114_1 rfl rfl ?_
  refine ze_iload_n (pc := 4) zr_114_4 rfl ?_
  refine zq_callV1 (pc := 5) (as := [.inr (.inr 37), .inl a0]) (r := []) (kc2 := 0) (ks2 := 0) zr_114_5 rfl (by decide) rfl rfl rfl rfl ⟨rfl, rfl⟩ ⟨rfl, rfl, rfl⟩ h (fun z1 V1 h => ?_)
  refine zq_if_ne (pc := 8) (t := 13) zr_114_8 (by decide) (z_toif h) (fun h => ?_) (fun h => ?_)
  · refine ze_iconst (pc := 11) zr_114_11 (by decide) ?_
    exact zq_ret1 (pc := 12) zr_114_12 rfl h
  · refine ze_aload_n (pc := 13) zr_114_13 rfl ?_
    refine zq_callV1 (pc := 14) (as := [.inr (.inr 36)]) (r := []) (kc2 := 0) (ks2 := 0) zr_114_14 rfl (by decide) rfl rfl rfl rfl ⟨rfl, rfl⟩ ⟨rfl, rfl, rfl⟩ h (fun z2 V2 h => ?_)
    refine ze_pop (pc := 17) zr_114_17 rfl ?_
    refine ze_aload_n (pc := 18) zr_114_18 rfl ?_
    refine ze_getfield (pc := 19) (v := .inr (.inr 97)) zr_114_19 rfl rfl ?_
    refine ze_getfield (pc := 22) (v := .inr (.inr 115)) zr_114_22 rfl rfl ?_
    refine ze_iload_n (pc := 25) zr_114_25 rfl ?_
    refine z_gk h (fun g26 h => ?_)
    refine zl_iaload (pc := 26) zr_114_26 rfl rfl g26 h (fun x26 h => ?_)
    refine zq_istore_n (pc := 27) (ls2 := [some (.inr (.inr 36)), some (.inl a0), some (.inl x26)]) zr_114_27 rfl rfl ?_
    refine ze_iload_n (pc := 28) zr_114_28 rfl ?_
    have j29 : z_Ex (z_MS d) 114 Q true 40 [some (.inr (.inr 36)), some (.inl a0), some (.inl x26)] [.inl (if x26 = 0 then 100 else z_sub x26 1)] 0 0 V2 := by
      exact zq_ret1 (pc := 40) zr_114_40 rfl h
    refine ze_if_ne (pc := 29) (t := 37) zr_114_29 (by decide) (fun hc => ?_) (fun hc => ?_)
    · rw [if_pos (show x26 = 0 from hc)] at j29
      refine ze_bipush (pc := 32) zr_114_32 (by decide) ?_
      refine ze_goto (pc := 34) (t := 40) zr_114_34 (by decide) ?_
      exact j29
    · rw [if_neg (show ¬ (x26 = 0) from hc)] at j29
      refine ze_iload_n (pc := 37) zr_114_37 rfl ?_
      refine ze_iconst (pc := 38) zr_114_38 (by decide) ?_
      refine ze_isub (pc := 39) zr_114_39 ?_
      exact j29
theorem zb115_36 {d : Nat} {Q : Int → z_M → Prop} (a0 : Int) {V : z_M}
    (h : zI ((V 119 1) = 0) (z_MS d 139 true [.inr (.inr 36)] V (fun z2 V2 => z_MS d 45 true [.inr (.inr 118), .inr (.inr 37), .inr (.inr 97)] V2 (fun z3 V3 => z_MS d 69 true [.inr (.inr 119), .inl a0, .inl (V3 37 11)] V3 (fun z4 V4 => Q z4 V4)))) (z_MS d 69 true [.inr (.inr 119), .inl a0, .inl (V 37 11)] V (fun z1 V1 => Q z1 V1))) :
    z_MS (d + 1) 115 true [.inr (.inr 36), .inl a0] V Q := by
  show z_Ex (z_MS d) 115 Q true 0 [some (.inr (.inr 36)), some (.inl a0)] [] 0 0 V
  refine ze_aload_n (pc := 0) zr_115_0 rfl ?_
  refine ze_getfield (pc := 1) (v := .inr (.inr 118)) zr_115_1 rfl rfl ?_
  refine ze_getfield (pc := 4) (v := .inr (.inr 119)) zr_115_4 rfl rfl ?_
  refine ze_getfield (pc := 7) (v := .inl (V 119 1)) zr_115_7 rfl rfl ?_
  refine zq_if_ne (pc := 10) (t := 32) zr_115_10 (by decide) (z_toif h) (fun h => ?_) (fun h => ?_)
  · refine ze_aload_n (pc := 13) zr_115_13 rfl ?_
    refine zq_callV0 (pc := 14) (as := [.inr (.inr 36)]) (r := []) (kc2 := 0) (ks2 := 0) zr_115_14 rfl (by decide) rfl rfl rfl rfl ⟨rfl, rfl⟩ rfl h (fun z2 V2 h => ?_)
    refine ze_aload_n (pc := 17) zr_115_17 rfl ?_
    refine ze_getfield (pc := 18) (v := .inr (.inr 118)) zr_115_18 rfl rfl ?_
    refine ze_aload_n (pc := 21) zr_115_21 rfl ?_
    refine ze_getfield (pc := 22) (v := .inr (.inr 37)) zr_115_22 rfl rfl ?_
    refine ze_aload_n (pc := 25) zr_115_25 rfl ?_
    refine ze_getfield (pc := 26) (v := .inr (.inr 97)) zr_115_26 rfl rfl ?_
    refine zq_callV0 (pc := 29) (as := [.inr (.inr 118), .inr (.inr 37), .inr (.inr 97)]) (r := []) (kc2 := 0) (ks2 := 0) zr_115_29 rfl (by decide) rfl rfl rfl rfl ⟨rfl, rfl⟩ rfl h (fun z3 V3 h => ?_)
    refine ze_aload_n (pc := 32) zr_115_32 rfl ?_
    refine ze_getfield (pc := 33) (v := .inr (.inr 118)) zr_115_33 rfl rfl ?_
    refine ze_getfield (pc := 36) (v := .inr (.inr 119)) zr_115_36 rfl rfl ?_
    refine ze_iload_n (pc := 39) zr_115_39 rfl ?_
    refine ze_aload_n (pc := 40) zr_115_40 rfl ?_
    refine ze_getfield (pc := 41) (v := .inr (.inr 37)) zr_115_41 rfl rfl ?_
    refine ze_getfield (pc := 44) (v := .inl (V3 37 11)) zr_115_44 rfl rfl ?_
    refine zq_callV1 (pc := 47) (as := [.inr (.inr 119), .inl a0, .inl (V3 37 11)]) (r := []) (kc2 := 0) (ks2 := 0) zr_115_47 rfl (by decide) rfl rfl rfl rfl ⟨rfl, rfl⟩ ⟨rfl, rfl, rfl⟩ h (fun z4 V4 h => ?_)
    exact zq_ret1 (pc := 50) zr_115_50 rfl h
  · refine ze_aload_n (pc := 32) zr_115_32 rfl ?_
    refine ze_getfield (pc := 33) (v := .inr (.inr 118)) zr_115_33 rfl rfl ?_
    refine ze_getfield (pc := 36) (v := .inr (.inr 119)) zr_115_36 rfl rfl ?_
    refine ze_iload_n (pc := 39) zr_115_39 rfl ?_
    refine ze_aload_n (pc := 40) zr_115_40 rfl ?_
    refine ze_getfield (pc := 41) (v := .inr (.inr 37)) zr_115_41 rfl rfl ?_
    refine ze_getfield (pc := 44) (v := .inl (V 37 11)) zr_115_44 rfl rfl ?_
    refine zq_callV1 (pc := 47) (as := [.inr (.inr 119), .inl a0, .inl (V 37 11)]) (r := []) (kc2 := 0) (ks2 := 0) zr_115_47 rfl (by decide) rfl rfl rfl rfl ⟨rfl, rfl⟩ ⟨rfl, rfl, rfl⟩ h (fun z1 V1 h => ?_)
    exact zq_ret1 (pc := 50) zr_115_50 rfl h
theorem zb116_36 {d : Nat} {Q : Int → z_M → Prop} (a0 : Int) {V : z_M}
    (h : zI (6 < (V 37 7)) (Q (-1) V) (z_MS d 2 true [.inr (.inr 122), .inr (.inr 37), .inr (.inr 97), .inr (.inr 94)] V (fun z1 V1 => z_MS d 69 true [.inr (.inr 123), .inl a0, .inl (V1 37 7)] V1 (fun z2 V2 => Q z2 V2)))) :
    z_MS (d + 1) 116 true [.inr (.inr 36), .inl a0] V Q := by
  show z_Ex (z_MS d) 116 Q true 0 [some (.inr (.inr 36)), some (.inl a0)] [] 0 0 V
  refine ze_aload_n (pc := 0) zr_116_0 rfl ?_
  refine ze_getfield (pc := 1) (v := .inr (.inr 37)) zr_116_1 rfl rfl ?_
  refine ze_getfield (pc := 4) (v := .inl (V 37 7)) zr_116_4 rfl rfl ?_
  refine ze_bipush (pc := 7) zr_116_7 (by decide) ?_
  refine zq_icmp_le (pc := 9) (t := 14) zr_116_9 (by decide) (z_toif h) (fun h => ?_) (fun h => ?_)
  · refine ze_iconst (pc := 12) zr_116_12 (by decide) ?_
    exact zq_ret1 (pc := 13) zr_116_13 rfl h
  · refine ze_aload_n (pc := 14) zr_116_14 rfl ?_
    refine ze_getfield (pc := 15) (v := .inr (.inr 122)) zr_116_15 rfl rfl ?_
    refine ze_aload_n (pc := 18) zr_116_18 rfl ?_
    refine ze_getfield (pc := 19) (v := .inr (.inr 37)) zr_116_19 rfl rfl ?_
    refine ze_aload_n (pc := 22) zr_116_22 rfl ?_
    refine ze_getfield (pc := 23) (v := .inr (.inr 97)) zr_116_23 rfl rfl ?_
    refine ze_aload_n (pc := 26) zr_116_26 rfl ?_
    refine ze_getfield (pc := 27) (v := .inr (.inr 94)) zr_116_27 rfl rfl ?_
    refine zq_callV0 (pc := 30) (as := [.inr (.inr 122), .inr (.inr 37), .inr (.inr 97), .inr (.inr 94)]) (r := []) (kc2 := 0) (ks2 := 0) zr_116_30 rfl (by decide) rfl rfl rfl rfl ⟨rfl, rfl⟩ rfl h (fun z1 V1 h => ?_)
    refine ze_aload_n (pc := 33) zr_116_33 rfl ?_
    refine ze_getfield (pc := 34) (v := .inr (.inr 122)) zr_116_34 rfl rfl ?_
    refine ze_getfield (pc := 37) (v := .inr (.inr 123)) zr_116_37 rfl rfl ?_
    refine ze_iload_n (pc := 40) zr_116_40 rfl ?_
    refine ze_aload_n (pc := 41) zr_116_41 rfl ?_
    refine ze_getfield (pc := 42) (v := .inr (.inr 37)) zr_116_42 rfl rfl ?_
    refine ze_getfield (pc := 45) (v := .inl (V1 37 7)) zr_116_45 rfl rfl ?_
    refine zq_callV1 (pc := 48) (as := [.inr (.inr 123), .inl a0, .inl (V1 37 7)]) (r := []) (kc2 := 0) (ks2 := 0) zr_116_48 rfl (by decide) rfl rfl rfl rfl ⟨rfl, rfl⟩ ⟨rfl, rfl, rfl⟩ h (fun z2 V2 h => ?_)
    exact zq_ret1 (pc := 51) zr_116_51 rfl h
theorem zb117_36 {d : Nat} {Q : Int → z_M → Prop}  {V : z_M}
    (h : zI (6 < (V 37 7)) (z_MS d 130 true [.inr (.inr 36), .inl (-3)] V (fun z2 V2 => Q z2 V2)) (z_MS d 2 true [.inr (.inr 122), .inr (.inr 37), .inr (.inr 97), .inr (.inr 94)] V (fun z1 V1 => z_Ex (z_MS d) 117 Q true 42 [some (.inr (.inr 36)), some (.inl 0), some (.inl 0)] [] 0 0 V1))) :
    z_MS (d + 1) 117 true [.inr (.inr 36)] V Q := by
  show z_Ex (z_MS d) 117 Q true 0 [some (.inr (.inr 36)), none, none] [] 0 0 V
  refine ze_aload_n (pc := 0) zr_117_0 rfl ?_
  refine ze_getfield (pc := 1) (v := .inr (.inr 37)) zr_117_1 rfl rfl ?_
  refine ze_getfield (pc := 4) (v := .inl (V 37 7)) zr_117_4 rfl rfl ?_
  refine ze_bipush (pc := 7) zr_117_7 (by decide) ?_
  refine zq_icmp_le (pc := 9) (t := 19) zr_117_9 (by decide) (z_toif h) (fun h => ?_) (fun h => ?_)
  · refine ze_aload_n (pc := 12) zr_117_12 rfl ?_
    refine ze_bipush (pc := 13) zr_117_13 (by decide) ?_
    refine zq_callV1 (pc := 15) (as := [.inr (.inr 36), .inl (-3)]) (r := []) (kc2 := 0) (ks2 := 0) zr_117_15 rfl (by decide) rfl rfl rfl rfl ⟨rfl, rfl⟩ ⟨rfl, rfl, rfl⟩ h (fun z2 V2 h => ?_)
    exact zq_ret1 (pc := 18) zr_117_18 rfl h
  · refine ze_aload_n (pc := 19) zr_117_19 rfl ?_
    refine ze_getfield (pc := 20) (v := .inr (.inr 122)) zr_117_20 rfl rfl ?_
    refine ze_aload_n (pc := 23) zr_117_23 rfl ?_
    refine ze_getfield (pc := 24) (v := .inr (.inr 37)) zr_117_24 rfl rfl ?_
    refine ze_aload_n (pc := 27) zr_117_27 rfl ?_
    refine ze_getfield (pc := 28) (v := .inr (.inr 97)) zr_117_28 rfl rfl ?_
    refine ze_aload_n (pc := 31) zr_117_31 rfl ?_
    refine ze_getfield (pc := 32) (v := .inr (.inr 94)) zr_117_32 rfl rfl ?_
    refine zq_callV0 (pc := 35) (as := [.inr (.inr 122), .inr (.inr 37), .inr (.inr 97), .inr (.inr 94)]) (r := []) (kc2 := 0) (ks2 := 0) zr_117_35 rfl (by decide) rfl rfl rfl rfl ⟨rfl, rfl⟩ rfl h (fun z1 V1 h => ?_)
    refine ze_iconst (pc := 38) zr_117_38 (by decide) ?_
    refine zq_istore_n (pc := 39) (ls2 := [some (.inr (.inr 36)), some (.inl 0), none]) zr_117_39 rfl rfl ?_
    refine ze_iconst (pc := 40) zr_117_40 (by decide) ?_
    refine zq_istore_n (pc := 41) (ls2 := [some (.inr (.inr 36)), some (.inl 0), some (.inl 0)]) zr_117_41 rfl rfl ?_
    exact h
theorem zb117_36_p42 {d : Nat} {Q : Int → z_M → Prop} (l1 : Int) (l2 : Int) {V : z_M}
    (h : zI (l2 < (V 37 7)) (zGu (0 ≤ l2 ∧ l2 < 7) (∀ x64 : Int, x64 = V 124 l2.toNat → zI (x64 = l2) (z_Ex (z_MS d) 117 Q true 42 [some (.inr (.inr 36)), some (.inl l1), some (.inl (z_add l2 1))] [] 0 0 V) (z_Ex (z_MS d) 117 Q true 42 [some (.inr (.inr 36)), some (.inl (z_add l1 1)), some (.inl (z_add l2 1))] [] 0 0 V))) (z_MS d 87 true [.inr (.inr 37), .inr (.inr 124)] V (fun z4301 V4301 => z_MS d 131 true [.inr (.inr 36), .inl l1] V4301 (fun z4302 V4302 => Q z4302 V4302)))) :
    z_Ex (z_MS d) 117 Q true 42 [some (.inr (.inr 36)), some (.inl l1), some (.inl l2)] [] 0 0 V := by
  refine ze_iload_n (pc := 42) zr_117_42 rfl ?_
  refine ze_aload_n (pc := 43) zr_117_43 rfl ?_
  refine ze_getfield (pc := 44) (v := .inr (.inr 37)) zr_117_44 rfl rfl ?_
  refine ze_getfield (pc := 47) (v := .inl (V 37 7)) zr_117_47 rfl rfl ?_
  refine zq_icmp_ge (pc := 50) (t := 78) zr_117_50 (by decide) (z_toif h) (fun h => ?_) (fun h => ?_)
  · refine ze_aload_n (pc := 53) zr_117_53 rfl ?_
    refine ze_getfield (pc := 54) (v := .inr (.inr 122)) zr_117_54 rfl rfl ?_
    refine ze_getfield (pc := 57) (v := .inr (.inr 123)) zr_117_57 rfl rfl ?_
    refine ze_getfield (pc := 60) (v := .inr (.inr 124)) zr_117_60 rfl rfl ?_
    refine ze_iload_n (pc := 63) zr_117_63 rfl ?_
    refine z_gk h (fun g64 h => ?_)
    refine zl_iaload (pc := 64) zr_117_64 rfl rfl g64 h (fun x64 h => ?_)
    refine ze_iload_n (pc := 65) zr_117_65 rfl ?_
    refine zq_icmp_eq (pc := 66) (t := 72) zr_117_66 (by decide) (z_toif h) (fun h => ?_) (fun h => ?_)
    · refine zq_iinc (pc := 72) (ls2 := [some (.inr (.inr 36)), some (.inl l1), some (.inl (z_add l2 1))]) zr_117_72 rfl rfl rfl ?_
      refine ze_goto (pc := 75) (t := 42) zr_117_75 (by decide) ?_
      exact h
    · refine zq_iinc (pc := 69) (ls2 := [some (.inr (.inr 36)), some (.inl (z_add l1 1)), some (.inl l2)]) zr_117_69 rfl rfl rfl ?_
      refine zq_iinc (pc := 72) (ls2 := [some (.inr (.inr 36)), some (.inl (z_add l1 1)), some (.inl (z_add l2 1))]) zr_117_72 rfl rfl rfl ?_
      refine ze_goto (pc := 75) (t := 42) zr_117_75 (by decide) ?_
      exact h
  · refine ze_aload_n (pc := 78) zr_117_78 rfl ?_
    refine ze_getfield (pc := 79) (v := .inr (.inr 37)) zr_117_79 rfl rfl ?_
    refine ze_aload_n (pc := 82) zr_117_82 rfl ?_
    refine ze_getfield (pc := 83) (v := .inr (.inr 122)) zr_117_83 rfl rfl ?_
    refine ze_getfield (pc := 86) (v := .inr (.inr 123)) zr_117_86 rfl rfl ?_
    refine ze_getfield (pc := 89) (v := .inr (.inr 124)) zr_117_89 rfl rfl ?_
    refine zq_callV0 (pc := 92) (as := [.inr (.inr 37), .inr (.inr 124)]) (r := []) (kc2 := 0) (ks2 := 0) zr_117_92 rfl (by decide) rfl rfl rfl rfl ⟨rfl, rfl⟩ rfl h (fun z4301 V4301 h => ?_)
    refine ze_aload_n (pc := 95) zr_117_95 rfl ?_
    refine ze_iload_n (pc := 96) zr_117_96 rfl ?_
    refine zq_callV1 (pc := 97) (as := [.inr (.inr 36), .inl l1]) (r := []) (kc2 := 0) (ks2 := 0) zr_117_97 rfl (by decide) rfl rfl rfl rfl ⟨rfl, rfl⟩ ⟨rfl, rfl, rfl⟩ h (fun z4302 V4302 h => ?_)
    exact zq_ret1 (pc := 100) zr_117_100 rfl h
