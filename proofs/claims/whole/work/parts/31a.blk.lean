/-! blocks of rows: printed by a program (blk2.py) -/
theorem zb2_122_37_97_94 {d : Nat} {Q : Int → z_M → Prop}  {V : z_M}
    (h : zI ((V 123 1) = 0) (zI (6 < (V 37 7)) (Q 0 V) (z_MS d 66 true [.inr (.inr 123)] V (fun z1 V1 => z_Ex (z_MS d) 2 Q true 30 [some (.inr (.inr 122)), some (.inr (.inr 37)), some (.inr (.inr 97)), some (.inr (.inr 94)), some (.inl 0)] [] 0 0 V1))) (Q 0 V)) :
    z_MS (d + 1) 2 true [.inr (.inr 122), .inr (.inr 37), .inr (.inr 97), .inr (.inr 94)] V Q := by
  show z_Ex (z_MS d) 2 Q true 0 [some (.inr (.inr 122)), some (.inr (.inr 37)), some (.inr (.inr 97)), some (.inr (.inr 94)), none] [] 0 0 V
  refine ze_aload_n (pc := 0) zr_2_0 rfl ?_
  refine ze_getfield (pc := 1) (v := .inr (.inr 123)) zr_2_1 rfl rfl ?_
  refine ze_getfield (pc := 4) (v := .inl (V 123 1)) zr_2_4 rfl rfl ?_
  refine zq_if_ne (pc := 7) (t := 19) zr_2_7 (by decide) (z_toif h) (fun h => ?_) (fun h => ?_)
  · refine ze_aload_n (pc := 10) zr_2_10 rfl ?_
    refine ze_getfield (pc := 11) (v := .inl (V 37 7)) zr_2_11 rfl rfl ?_
    refine ze_bipush (pc := 14) zr_2_14 (by decide) ?_
    refine zq_icmp_le (pc := 16) (t := 20) zr_2_16 (by decide) (z_toif h) (fun h => ?_) (fun h => ?_)
    · exact ze_vret (pc := 19) zr_2_19 rfl h
    · refine ze_aload_n (pc := 20) zr_2_20 rfl ?_
      refine ze_getfield (pc := 21) (v := .inr (.inr 123)) zr_2_21 rfl rfl ?_
      refine zq_callV0 (pc := 24) (as := [.inr (.inr 123)]) (r := []) (kc2 := 0) (ks2 := 0) zr_2_24 rfl (by decide) rfl rfl rfl rfl ⟨rfl, rfl⟩ rfl h (fun z1 V1 h => ?_)
      refine ze_iconst (pc := 27) zr_2_27 (by decide) ?_
      refine zq_istore (pc := 28) (ls2 := [some (.inr (.inr 122)), some (.inr (.inr 37)), some (.inr (.inr 97)), some (.inr (.inr 94)), some (.inl 0)]) zr_2_28 rfl rfl ?_
      exact h
  · exact ze_vret (pc := 19) zr_2_19 rfl h
theorem zb2_122_37_97_94_p30 {d : Nat} {Q : Int → z_M → Prop} (l4 : Int) {V : z_M}
    (h : zI (l4 < (z_shl 1 (V 37 7))) (z_MS d 3 true [.inr (.inr 122), .inr (.inr 37), .inr (.inr 94), .inl l4] V (fun z3102 V3102 => z_Ex (z_MS d) 2 Q true 30 [some (.inr (.inr 122)), some (.inr (.inr 37)), some (.inr (.inr 97)), some (.inr (.inr 94)), some (.inl (z_add l4 1))] [] 0 0 V3102)) (z_MS d 4 true [.inr (.inr 122), .inr (.inr 37), .inr (.inr 97), .inl 0, .inl 0] V (fun z3101 V3101 => Q 0 V3101))) :
    z_Ex (z_MS d) 2 Q true 30 [some (.inr (.inr 122)), some (.inr (.inr 37)), some (.inr (.inr 97)), some (.inr (.inr 94)), some (.inl l4)] [] 0 0 V := by
  refine ze_iload (pc := 30) zr_2_30 rfl ?_
  refine ze_iconst (pc := 32) zr_2_32 (by decide) ?_
  refine ze_aload_n (pc := 33) zr_2_33 rfl ?_
  refine ze_getfield (pc := 34) (v := .inl (V 37 7)) zr_2_34 rfl rfl ?_
  refine ze_ishl (pc := 37) zr_2_37 ?_
  refine zq_icmp_ge (pc := 38) (t := 55) zr_2_38 (by decide) (z_toif h) (fun h => ?_) (fun h => ?_)
  · refine ze_aload_n (pc := 41) zr_2_41 rfl ?_
    refine ze_aload_n (pc := 42) zr_2_42 rfl ?_
    refine ze_aload_n (pc := 43) zr_2_43 rfl ?_
    refine ze_iload (pc := 44) zr_2_44 rfl ?_
    refine zq_callV0 (pc := 46) (as := [.inr (.inr 122), .inr (.inr 37), .inr (.inr 94), .inl l4]) (r := []) (kc2 := 0) (ks2 := 0) zr_2_46 rfl (by decide) rfl rfl rfl rfl ⟨rfl, rfl⟩ rfl h (fun z3102 V3102 h => ?_)
    refine zq_iinc (pc := 49) (ls2 := [some (.inr (.inr 122)), some (.inr (.inr 37)), some (.inr (.inr 97)), some (.inr (.inr 94)), some (.inl (z_add l4 1))]) zr_2_49 rfl rfl rfl ?_
    refine ze_goto (pc := 52) (t := 30) zr_2_52 (by decide) ?_
    exact h
  · refine ze_aload_n (pc := 55) zr_2_55 rfl ?_
    refine ze_aload_n (pc := 56) zr_2_56 rfl ?_
    refine ze_aload_n (pc := 57) zr_2_57 rfl ?_
    refine ze_iconst (pc := 58) zr_2_58 (by decide) ?_
    refine ze_iconst (pc := 59) zr_2_59 (by decide) ?_
    refine zq_callV0 (pc := 60) (as := [.inr (.inr 122), .inr (.inr 37), .inr (.inr 97), .inl 0, .inl 0]) (r := []) (kc2 := 0) (ks2 := 0) zr_2_60 rfl (by decide) rfl rfl rfl rfl ⟨rfl, rfl⟩ rfl h (fun z3101 V3101 h => ?_)
    exact ze_vret (pc := 63) zr_2_63 rfl h
theorem zb3_122_37_94 {d : Nat} {Q : Int → z_M → Prop} (a2 : Int) {V : z_M}
    (h : z_Ex (z_MS d) 3 Q true 6 [some (.inr (.inr 122)), some (.inr (.inr 37)), some (.inr (.inr 94)), some (.inl a2), some (.inl 0), some (.inl 0), none, none, none] [] 0 0 V) :
    z_MS (d + 1) 3 true [.inr (.inr 122), .inr (.inr 37), .inr (.inr 94), .inl a2] V Q := by
  show z_Ex (z_MS d) 3 Q true 0 [some (.inr (.inr 122)), some (.inr (.inr 37)), some (.inr (.inr 94)), some (.inl a2), none, none, none, none, none] [] 0 0 V
  refine ze_iconst (pc := 0) zr_3_0 (by decide) ?_
  refine zq_istore (pc := 1) (ls2 := [some (.inr (.inr 122)), some (.inr (.inr 37)), some (.inr (.inr 94)), some (.inl a2), some (.inl 0), none, none, none, none]) zr_3_1 rfl rfl ?_
  refine ze_iconst (pc := 3) zr_3_3 (by decide) ?_
  refine zq_istore (pc := 4) (ls2 := [some (.inr (.inr 122)), some (.inr (.inr 37)), some (.inr (.inr 94)), some (.inl a2), some (.inl 0), some (.inl 0), none, none, none]) zr_3_4 rfl rfl ?_
  exact h
theorem zb3_122_37_94_p6 {d : Nat} {Q : Int → z_M → Prop} (l3 : Int) (l4 : Int) (l5 : Int) {V : z_M}
    (h : zI (l5 < (V 37 7)) (zGu (0 ≤ l5 ∧ l5 < 12) (∀ x31 : Int, x31 = V 39 l5.toNat → z_Ex (z_MS d) 3 Q true 6 [some (.inr (.inr 122)), some (.inr (.inr 37)), some (.inr (.inr 94)), some (.inl l3), some (.inl (z_add l4 (z_mul (z_and (z_shr l3 l5) 1) x31))), some (.inl (z_add l5 1)), none, none, none] [] 0 0 V)) (z_Ex (z_MS d) 3 Q true 45 [some (.inr (.inr 122)), some (.inr (.inr 37)), some (.inr (.inr 94)), some (.inl l3), some (.inl l4), some (.inl 0), none, none, none] [] 0 0 V)) :
    z_Ex (z_MS d) 3 Q true 6 [some (.inr (.inr 122)), some (.inr (.inr 37)), some (.inr (.inr 94)), some (.inl l3), some (.inl l4), some (.inl l5), none, none, none] [] 0 0 V := by
  refine ze_iload (pc := 6) zr_3_6 rfl ?_
  refine ze_aload_n (pc := 8) zr_3_8 rfl ?_
  refine ze_getfield (pc := 9) (v := .inl (V 37 7)) zr_3_9 rfl rfl ?_
  refine zq_icmp_ge (pc := 12) (t := 42) zr_3_12 (by decide) (z_toif h) (fun h => ?_) (fun h => ?_)
  · refine ze_iload (pc := 15) zr_3_15 rfl ?_
    refine ze_iload_n (pc := 17) zr_3_17 rfl ?_
    refine ze_iload (pc := 18) zr_3_18 rfl ?_
    refine ze_ishr (pc := 20) zr_3_20 ?_
    refine ze_iconst (pc := 21) zr_3_21 (by decide) ?_
    refine ze_iand (pc := 22) zr_3_22 ?_
    refine ze_aload_n (pc := 23) zr_3_23 rfl ?_
    refine ze_getfield (pc := 24) (v := .inr (.inr 38)) zr_3_24 rfl rfl ?_
    refine ze_iconst (pc := 27) zr_3_27 (by decide) ?_
    refine zq_aaload (pc := 28) (v := .inr (.inr 39)) zr_3_28 (by decide) rfl (by decide) rfl ?_
    refine ze_iload (pc := 29) zr_3_29 rfl ?_
    refine z_gk h (fun g31 h => ?_)
    refine zl_iaload (pc := 31) zr_3_31 rfl rfl g31 h (fun x31 h => ?_)
    refine ze_imul (pc := 32) zr_3_32 ?_
    refine ze_iadd (pc := 33) zr_3_33 ?_
    refine zq_istore (pc := 34) (ls2 := [some (.inr (.inr 122)), some (.inr (.inr 37)), some (.inr (.inr 94)), some (.inl l3), some (.inl (z_add l4 (z_mul (z_and (z_shr l3 l5) 1) x31))), some (.inl l5), none, none, none]) zr_3_34 rfl rfl ?_
    refine zq_iinc (pc := 36) (ls2 := [some (.inr (.inr 122)), some (.inr (.inr 37)), some (.inr (.inr 94)), some (.inl l3), some (.inl (z_add l4 (z_mul (z_and (z_shr l3 l5) 1) x31))), some (.inl (z_add l5 1)), none, none, none]) zr_3_36 rfl rfl rfl ?_
    refine ze_goto (pc := 39) (t := 6) zr_3_39 (by decide) ?_
    exact h
  · refine ze_iconst (pc := 42) zr_3_42 (by decide) ?_
    refine zq_istore (pc := 43) (ls2 := [some (.inr (.inr 122)), some (.inr (.inr 37)), some (.inr (.inr 94)), some (.inl l3), some (.inl l4), some (.inl 0), none, none, none]) zr_3_43 rfl rfl ?_
    exact h
theorem zb3_122_37_94_p45 {d : Nat} {Q : Int → z_M → Prop} (l3 : Int) (l4 : Int) (l5 : Int) (o6 : Option z_V) (o7 : Option z_V) (o8 : Option z_V) {V : z_M}
    (h : zI (l5 < (V 37 7)) (zGu (0 ≤ l5 ∧ l5 < 12) (∀ x67 : Int, x67 = V 39 l5.toNat → z_Ex (z_MS d) 3 Q true 74 [some (.inr (.inr 122)), some (.inr (.inr 37)), some (.inr (.inr 94)), some (.inl l3), some (.inl l4), some (.inl l5), some (.inl 0), some (.inl (z_add l4 x67)), some (.inl 0)] [] 0 0 V)) (Q 0 V)) :
    z_Ex (z_MS d) 3 Q true 45 [some (.inr (.inr 122)), some (.inr (.inr 37)), some (.inr (.inr 94)), some (.inl l3), some (.inl l4), some (.inl l5), o6, o7, o8] [] 0 0 V := by
  refine ze_iload (pc := 45) zr_3_45 rfl ?_
  refine ze_aload_n (pc := 47) zr_3_47 rfl ?_
  refine ze_getfield (pc := 48) (v := .inl (V 37 7)) zr_3_48 rfl rfl ?_
  refine zq_icmp_ge (pc := 51) (t := 142) zr_3_51 (by decide) (z_toif h) (fun h => ?_) (fun h => ?_)
  · refine ze_iconst (pc := 54) zr_3_54 (by decide) ?_
    refine zq_istore (pc := 55) (ls2 := [some (.inr (.inr 122)), some (.inr (.inr 37)), some (.inr (.inr 94)), some (.inl l3), some (.inl l4), some (.inl l5), some (.inl 0), o7, o8]) zr_3_55 rfl rfl ?_
    refine ze_iload (pc := 57) zr_3_57 rfl ?_
    refine ze_aload_n (pc := 59) zr_3_59 rfl ?_
    refine ze_getfield (pc := 60) (v := .inr (.inr 38)) zr_3_60 rfl rfl ?_
    refine ze_iconst (pc := 63) zr_3_63 (by decide) ?_
    refine zq_aaload (pc := 64) (v := .inr (.inr 39)) zr_3_64 (by decide) rfl (by decide) rfl ?_
    refine ze_iload (pc := 65) zr_3_65 rfl ?_
    refine z_gk h (fun g67 h => ?_)
    refine zl_iaload (pc := 67) zr_3_67 rfl rfl g67 h (fun x67 h => ?_)
    refine ze_iadd (pc := 68) zr_3_68 ?_
    refine zq_istore (pc := 69) (ls2 := [some (.inr (.inr 122)), some (.inr (.inr 37)), some (.inr (.inr 94)), some (.inl l3), some (.inl l4), some (.inl l5), some (.inl 0), some (.inl (z_add l4 x67)), o8]) zr_3_69 rfl rfl ?_
    refine ze_iconst (pc := 71) zr_3_71 (by decide) ?_
    refine zq_istore (pc := 72) (ls2 := [some (.inr (.inr 122)), some (.inr (.inr 37)), some (.inr (.inr 94)), some (.inl l3), some (.inl l4), some (.inl l5), some (.inl 0), some (.inl (z_add l4 x67)), some (.inl 0)]) zr_3_72 rfl rfl ?_
    exact h
  · exact ze_vret (pc := 142) zr_3_142 rfl h
theorem zb3_122_37_94_p74 {d : Nat} {Q : Int → z_M → Prop} (l3 : Int) (l4 : Int) (l5 : Int) (l6 : Int) (l7 : Int) (l8 : Int) {V : z_M}
    (h : zI (l8 < (V 37 8)) (zI ((z_and (z_shr l3 l5) 1) = 0) (z_MS d 256 true [.inl l3] V (fun z7501 V7501 => z_MS d 16 true [.inr (.inr 94), .inr (.inr 37), .inl l8, .inl l5, .inl z7501, .inl l7] V7501 (fun z7502 V7502 => zI (z7502 = 0) (z_Ex (z_MS d) 3 Q true 74 [some (.inr (.inr 122)), some (.inr (.inr 37)), some (.inr (.inr 94)), some (.inl l3), some (.inl l4), some (.inl l5), some (.inl l6), some (.inl l7), some (.inl (z_add l8 1))] [] 0 0 V7502) (z_Ex (z_MS d) 3 Q true 74 [some (.inr (.inr 122)), some (.inr (.inr 37)), some (.inr (.inr 94)), some (.inl l3), some (.inl l4), some (.inl l5), some (.inl (z_or l6 (z_shl 1 l8))), some (.inl l7), some (.inl (z_add l8 1))] [] 0 0 V7502)))) (z_Ex (z_MS d) 3 Q true 125 [some (.inr (.inr 122)), some (.inr (.inr 37)), some (.inr (.inr 94)), some (.inl l3), some (.inl l4), some (.inl l5), some (.inl l6), some (.inl l7), some (.inl l8)] [] 0 0 V)) (z_Ex (z_MS d) 3 Q true 125 [some (.inr (.inr 122)), some (.inr (.inr 37)), some (.inr (.inr 94)), some (.inl l3), some (.inl l4), some (.inl l5), some (.inl l6), some (.inl l7), some (.inl l8)] [] 0 0 V)) :
    z_Ex (z_MS d) 3 Q true 74 [some (.inr (.inr 122)), some (.inr (.inr 37)), some (.inr (.inr 94)), some (.inl l3), some (.inl l4), some (.inl l5), some (.inl l6), some (.inl l7), some (.inl l8)] [] 0 0 V := by
  refine ze_iload (pc := 74) zr_3_74 rfl ?_
  refine ze_aload_n (pc := 76) zr_3_76 rfl ?_
  refine ze_getfield (pc := 77) (v := .inl (V 37 8)) zr_3_77 rfl rfl ?_
  refine zq_icmp_ge (pc := 80) (t := 125) zr_3_80 (by decide) (z_toif h) (fun h => ?_) (fun h => ?_)
  · refine ze_iload_n (pc := 83) zr_3_83 rfl ?_
    refine ze_iload (pc := 84) zr_3_84 rfl ?_
    refine ze_ishr (pc := 86) zr_3_86 ?_
    refine ze_iconst (pc := 87) zr_3_87 (by decide) ?_
    refine ze_iand (pc := 88) zr_3_88 ?_
    refine zq_if_ne (pc := 89) (t := 125) zr_3_89 (by decide) (z_toif h) (fun h => ?_) (fun h => ?_)
    · refine ze_aload_n (pc := 92) zr_3_92 rfl ?_
      refine ze_aload_n (pc := 93) zr_3_93 rfl ?_
      refine ze_iload (pc := 94) zr_3_94 rfl ?_
      refine ze_iload (pc := 96) zr_3_96 rfl ?_
      refine ze_iload_n (pc := 98) zr_3_98 rfl ?_
      refine zq_callS1 (pc := 99) (as := [.inl l3]) (r := [.inl l5, .inl l8, .inr (.inr 37), .inr (.inr 94)]) (kc2 := 0) (ks2 := 0) zr_3_99 rfl rfl rfl rfl ⟨rfl, rfl⟩ ⟨rfl, rfl, rfl⟩ h (fun z7501 V7501 h => ?_)
      refine ze_iload (pc := 102) zr_3_102 rfl ?_
      refine zq_callV1 (pc := 104) (as := [.inr (.inr 94), .inr (.inr 37), .inl l8, .inl l5, .inl z7501, .inl l7]) (r := []) (kc2 := 0) (ks2 := 0) zr_3_104 rfl (by decide) rfl rfl rfl rfl ⟨rfl, rfl⟩ ⟨rfl, rfl, rfl⟩ h (fun z7502 V7502 h => ?_)
      refine zq_if_eq (pc := 107) (t := 119) zr_3_107 (by decide) (z_toif h) (fun h => ?_) (fun h => ?_)
      · refine zq_iinc (pc := 119) (ls2 := [some (.inr (.inr 122)), some (.inr (.inr 37)), some (.inr (.inr 94)), some (.inl l3), some (.inl l4), some (.inl l5), some (.inl l6), some (.inl l7), some (.inl (z_add l8 1))]) zr_3_119 rfl rfl rfl ?_
        refine ze_goto (pc := 122) (t := 74) zr_3_122 (by decide) ?_
        exact h
      · refine ze_iload (pc := 110) zr_3_110 rfl ?_
        refine ze_iconst (pc := 112) zr_3_112 (by decide) ?_
        refine ze_iload (pc := 113) zr_3_113 rfl ?_
        refine ze_ishl (pc := 115) zr_3_115 ?_
        refine ze_ior (pc := 116) zr_3_116 ?_
        refine zq_istore (pc := 117) (ls2 := [some (.inr (.inr 122)), some (.inr (.inr 37)), some (.inr (.inr 94)), some (.inl l3), some (.inl l4), some (.inl l5), some (.inl (z_or l6 (z_shl 1 l8))), some (.inl l7), some (.inl l8)]) zr_3_117 rfl rfl ?_
        refine zq_iinc (pc := 119) (ls2 := [some (.inr (.inr 122)), some (.inr (.inr 37)), some (.inr (.inr 94)), some (.inl l3), some (.inl l4), some (.inl l5), some (.inl (z_or l6 (z_shl 1 l8))), some (.inl l7), some (.inl (z_add l8 1))]) zr_3_119 rfl rfl rfl ?_
        refine ze_goto (pc := 122) (t := 74) zr_3_122 (by decide) ?_
        exact h
    · exact h
  · exact h
theorem zb3_122_37_94_p125 {d : Nat} {Q : Int → z_M → Prop} (l3 : Int) (l4 : Int) (l5 : Int) (l6 : Int) (o7 : Option z_V) (o8 : Option z_V) {V : z_M}
    (h : zGu (0 ≤ l5 ∧ l5 < 6) (∀ x131 : Nat, x131 = z_rr true V 125 l5.toNat → zGu (z_kd x131 = 101 ∧ 36 ≤ x131) (zGu (0 ≤ l3 ∧ l3 < z_len' V x131) (∀ W12601, W12601 = z_up V x131 l3.toNat l6 → z_Ex (z_MS d) 3 Q true 45 [some (.inr (.inr 122)), some (.inr (.inr 37)), some (.inr (.inr 94)), some (.inl l3), some (.inl l4), some (.inl (z_add l5 1)), some (.inl l6), o7, o8] [] 0 0 W12601)))) :
    z_Ex (z_MS d) 3 Q true 125 [some (.inr (.inr 122)), some (.inr (.inr 37)), some (.inr (.inr 94)), some (.inl l3), some (.inl l4), some (.inl l5), some (.inl l6), o7, o8] [] 0 0 V := by
  refine ze_aload_n (pc := 125) zr_3_125 rfl ?_
  refine ze_getfield (pc := 126) (v := .inr (.inr 125)) zr_3_126 rfl rfl ?_
  refine ze_iload (pc := 129) zr_3_129 rfl ?_
  refine z_gk h (fun g131 h => ?_)
  refine zl_aaload (pc := 131) zr_3_131 (by decide) rfl g131 h (fun x131 h => ?_)
  refine ze_iload_n (pc := 132) zr_3_132 rfl ?_
  refine ze_iload (pc := 133) zr_3_133 rfl ?_
  refine z_gk h (fun k135 h => ?_)
  refine z_gk h (fun g135 h => ?_)
  refine zq_iastorev (pc := 135) zr_3_135 k135 g135 rfl h (fun W12601 h => ?_)
  refine zq_iinc (pc := 136) (ls2 := [some (.inr (.inr 122)), some (.inr (.inr 37)), some (.inr (.inr 94)), some (.inl l3), some (.inl l4), some (.inl (z_add l5 1)), some (.inl l6), o7, o8]) zr_3_136 rfl rfl rfl ?_
  refine ze_goto (pc := 139) (t := 45) zr_3_139 (by decide) ?_
  exact h
theorem zb4_122_37_97 {d : Nat} {Q : Int → z_M → Prop} (a2 : Int) (a3 : Int) {V : z_M}
    (h : zI (a2 < (V 37 7)) (zI (a2 < 6) (z_Ex (z_MS d) 4 Q true 24 [some (.inr (.inr 122)), some (.inr (.inr 37)), some (.inr (.inr 97)), some (.inl a2), some (.inl a3), some (.inl 0)] [] 0 0 V) (z_MS d 5 true [.inr (.inr 122), .inr (.inr 37), .inr (.inr 97)] V (fun z2 V2 => Q 0 V2))) (z_MS d 5 true [.inr (.inr 122), .inr (.inr 37), .inr (.inr 97)] V (fun z1 V1 => Q 0 V1))) :
    z_MS (d + 1) 4 true [.inr (.inr 122), .inr (.inr 37), .inr (.inr 97), .inl a2, .inl a3] V Q := by
  show z_Ex (z_MS d) 4 Q true 0 [some (.inr (.inr 122)), some (.inr (.inr 37)), some (.inr (.inr 97)), some (.inl a2), some (.inl a3), none] [] 0 0 V
  refine ze_iload_n (pc := 0) zr_4_0 rfl ?_
  refine ze_aload_n (pc := 1) zr_4_1 rfl ?_
  refine ze_getfield (pc := 2) (v := .inl (V 37 7)) zr_4_2 rfl rfl ?_
  refine zq_icmp_ge (pc := 5) (t := 14) zr_4_5 (by decide) (z_toif h) (fun h => ?_) (fun h => ?_)
  · refine ze_iload_n (pc := 8) zr_4_8 rfl ?_
    refine ze_bipush (pc := 9) zr_4_9 (by decide) ?_
    refine zq_icmp_lt (pc := 11) (t := 21) zr_4_11 (by decide) (z_toif h) (fun h => ?_) (fun h => ?_)
    · refine ze_iconst (pc := 21) zr_4_21 (by decide) ?_
      refine zq_istore (pc := 22) (ls2 := [some (.inr (.inr 122)), some (.inr (.inr 37)), some (.inr (.inr 97)), some (.inl a2), some (.inl a3), some (.inl 0)]) zr_4_22 rfl rfl ?_
      exact h
    · refine ze_aload_n (pc := 14) zr_4_14 rfl ?_
      refine ze_aload_n (pc := 15) zr_4_15 rfl ?_
      refine ze_aload_n (pc := 16) zr_4_16 rfl ?_
      refine zq_callV0 (pc := 17) (as := [.inr (.inr 122), .inr (.inr 37), .inr (.inr 97)]) (r := []) (kc2 := 0) (ks2 := 0) zr_4_17 rfl (by decide) rfl rfl rfl rfl ⟨rfl, rfl⟩ rfl h (fun z2 V2 h => ?_)
      exact ze_vret (pc := 20) zr_4_20 rfl h
  · refine ze_aload_n (pc := 14) zr_4_14 rfl ?_
    refine ze_aload_n (pc := 15) zr_4_15 rfl ?_
    refine ze_aload_n (pc := 16) zr_4_16 rfl ?_
    refine zq_callV0 (pc := 17) (as := [.inr (.inr 122), .inr (.inr 37), .inr (.inr 97)]) (r := []) (kc2 := 0) (ks2 := 0) zr_4_17 rfl (by decide) rfl rfl rfl rfl ⟨rfl, rfl⟩ rfl h (fun z1 V1 h => ?_)
    exact ze_vret (pc := 20) zr_4_20 rfl h
theorem zb4_122_37_97_p24 {d : Nat} {Q : Int → z_M → Prop} (l3 : Int) (l4 : Int) (l5 : Int) {V : z_M}
    (h : zI (l5 < (V 37 7)) (zI ((z_and (z_shr l4 l5) 1) = 0) (zGu (0 ≤ l3 ∧ l3 < 6) (∀ W2501, W2501 = z_up V 132 l3.toNat l5 → zGu (0 ≤ l5 ∧ l5 < 6) (∀ W2502, W2502 = z_up W2501 133 l5.toNat l3 → z_MS d 4 true [.inr (.inr 122), .inr (.inr 37), .inr (.inr 97), .inl (z_add l3 1), .inl (z_or l4 (z_shl 1 l5))] W2502 (fun z2501 V2501 => z_Ex (z_MS d) 4 Q true 24 [some (.inr (.inr 122)), some (.inr (.inr 37)), some (.inr (.inr 97)), some (.inl l3), some (.inl l4), some (.inl (z_add l5 1))] [] 0 0 V2501)))) (z_Ex (z_MS d) 4 Q true 24 [some (.inr (.inr 122)), some (.inr (.inr 37)), some (.inr (.inr 97)), some (.inl l3), some (.inl l4), some (.inl (z_add l5 1))] [] 0 0 V)) (Q 0 V)) :
    z_Ex (z_MS d) 4 Q true 24 [some (.inr (.inr 122)), some (.inr (.inr 37)), some (.inr (.inr 97)), some (.inl l3), some (.inl l4), some (.inl l5)] [] 0 0 V := by
  refine ze_iload (pc := 24) zr_4_24 rfl ?_
  refine ze_aload_n (pc := 26) zr_4_26 rfl ?_
  refine ze_getfield (pc := 27) (v := .inl (V 37 7)) zr_4_27 rfl rfl ?_
  refine zq_icmp_ge (pc := 30) (t := 81) zr_4_30 (by decide) (z_toif h) (fun h => ?_) (fun h => ?_)
  · refine ze_iload (pc := 33) zr_4_33 rfl ?_
    refine ze_iload (pc := 35) zr_4_35 rfl ?_
    refine ze_ishr (pc := 37) zr_4_37 ?_
    refine ze_iconst (pc := 38) zr_4_38 (by decide) ?_
    refine ze_iand (pc := 39) zr_4_39 ?_
    refine zq_if_ne (pc := 40) (t := 75) zr_4_40 (by decide) (z_toif h) (fun h => ?_) (fun h => ?_)
    · refine ze_aload_n (pc := 43) zr_4_43 rfl ?_
      refine ze_getfield (pc := 44) (v := .inr (.inr 132)) zr_4_44 rfl rfl ?_
      refine ze_iload_n (pc := 47) zr_4_47 rfl ?_
      refine ze_iload (pc := 48) zr_4_48 rfl ?_
      refine z_gk h (fun g50 h => ?_)
      refine zq_iastore (pc := 50) zr_4_50 (by decide) rfl g50 rfl h (fun W2501 h => ?_)
      refine ze_aload_n (pc := 51) zr_4_51 rfl ?_
      refine ze_getfield (pc := 52) (v := .inr (.inr 133)) zr_4_52 rfl rfl ?_
      refine ze_iload (pc := 55) zr_4_55 rfl ?_
      refine ze_iload_n (pc := 57) zr_4_57 rfl ?_
      refine z_gk h (fun g58 h => ?_)
      refine zq_iastore (pc := 58) zr_4_58 (by decide) rfl g58 rfl h (fun W2502 h => ?_)
      refine ze_aload_n (pc := 59) zr_4_59 rfl ?_
      refine ze_aload_n (pc := 60) zr_4_60 rfl ?_
      refine ze_aload_n (pc := 61) zr_4_61 rfl ?_
      refine ze_iload_n (pc := 62) zr_4_62 rfl ?_
      refine ze_iconst (pc := 63) zr_4_63 (by decide) ?_
      refine ze_iadd (pc := 64) zr_4_64 ?_
      refine ze_iload (pc := 65) zr_4_65 rfl ?_
      refine ze_iconst (pc := 67) zr_4_67 (by decide) ?_
      refine ze_iload (pc := 68) zr_4_68 rfl ?_
      refine ze_ishl (pc := 70) zr_4_70 ?_
      refine ze_ior (pc := 71) zr_4_71 ?_
      refine zq_callV0 (pc := 72) (as := [.inr (.inr 122), .inr (.inr 37), .inr (.inr 97), .inl (z_add l3 1), .inl (z_or l4 (z_shl 1 l5))]) (r := []) (kc2 := 0) (ks2 := 0) zr_4_72 rfl (by decide) rfl rfl rfl rfl ⟨rfl, rfl⟩ rfl h (fun z2501 V2501 h => ?_)
      refine zq_iinc (pc := 75) (ls2 := [some (.inr (.inr 122)), some (.inr (.inr 37)), some (.inr (.inr 97)), some (.inl l3), some (.inl l4), some (.inl (z_add l5 1))]) zr_4_75 rfl rfl rfl ?_
      refine ze_goto (pc := 78) (t := 24) zr_4_78 (by decide) ?_
      exact h
    · refine zq_iinc (pc := 75) (ls2 := [some (.inr (.inr 122)), some (.inr (.inr 37)), some (.inr (.inr 97)), some (.inl l3), some (.inl l4), some (.inl (z_add l5 1))]) zr_4_75 rfl rfl rfl ?_
      refine ze_goto (pc := 78) (t := 24) zr_4_78 (by decide) ?_
      exact h
  · exact ze_vret (pc := 81) zr_4_81 rfl h
theorem zb5_122_37_97 {d : Nat} {Q : Int → z_M → Prop}  {V : z_M}
    (h : z_MS d 48 true [.inr (.inr 97), .inr (.inr 37), .inr (.inr 132)] V (fun z1 V1 => z_MS d 86 true [.inr (.inr 37)] V1 (fun z2 V2 => z_Ex (z_MS d) 5 Q true 17 [some (.inr (.inr 122)), some (.inr (.inr 37)), some (.inr (.inr 97)), some (.inl z2), some (.inl 0)] [] 0 0 V2))) :
    z_MS (d + 1) 5 true [.inr (.inr 122), .inr (.inr 37), .inr (.inr 97)] V Q := by
  show z_Ex (z_MS d) 5 Q true 0 [some (.inr (.inr 122)), some (.inr (.inr 37)), some (.inr (.inr 97)), none, none] [] 0 0 V
  refine ze_aload_n (pc := 0) zr_5_0 rfl ?_
  refine ze_aload_n (pc := 1) zr_5_1 rfl ?_
  refine ze_aload_n (pc := 2) zr_5_2 rfl ?_
  refine ze_getfield (pc := 3) (v := .inr (.inr 132)) zr_5_3 rfl rfl ?_
  refine zq_callV0 (pc := 6) (as := [.inr (.inr 97), .inr (.inr 37), .inr (.inr 132)]) (r := []) (kc2 := 0) (ks2 := 0) zr_5_6 rfl (by decide) rfl rfl rfl rfl ⟨rfl, rfl⟩ rfl h (fun z1 V1 h => ?_)
  refine ze_aload_n (pc := 9) zr_5_9 rfl ?_
  refine zq_callV1 (pc := 10) (as := [.inr (.inr 37)]) (r := []) (kc2 := 0) (ks2 := 0) zr_5_10 rfl (by decide) rfl rfl rfl rfl ⟨rfl, rfl⟩ ⟨rfl, rfl, rfl⟩ h (fun z2 V2 h => ?_)
  refine zq_istore_n (pc := 13) (ls2 := [some (.inr (.inr 122)), some (.inr (.inr 37)), some (.inr (.inr 97)), some (.inl z2), none]) zr_5_13 rfl rfl ?_
  refine ze_iconst (pc := 14) zr_5_14 (by decide) ?_
  refine zq_istore (pc := 15) (ls2 := [some (.inr (.inr 122)), some (.inr (.inr 37)), some (.inr (.inr 97)), some (.inl z2), some (.inl 0)]) zr_5_15 rfl rfl ?_
  exact h
theorem zb5_122_37_97_p17 {d : Nat} {Q : Int → z_M → Prop} (l3 : Int) (l4 : Int) {V : z_M}
    (h : zI (l4 < (V 37 8)) (zI ((z_and (z_shr l3 l4) 1) = 0) (z_Ex (z_MS d) 5 Q true 17 [some (.inr (.inr 122)), some (.inr (.inr 37)), some (.inr (.inr 97)), some (.inl l3), some (.inl (z_add l4 1))] [] 0 0 V) (z_MS d 6 true [.inr (.inr 122), .inl l4, .inl (V 37 7)] V (fun z1806 V1806 => z_MS d 50 true [.inr (.inr 97), .inr (.inr 37), .inl l4, .inl z1806] V1806 (fun z1807 V1807 => z_Ex (z_MS d) 5 Q true 17 [some (.inr (.inr 122)), some (.inr (.inr 37)), some (.inr (.inr 97)), some (.inl l3), some (.inl (z_add l4 1))] [] 0 0 V1807)))) (z_MS d 61 true [.inr (.inr 97), .inr (.inr 37), .inr (.inr 133)] V (fun z1801 V1801 => z_MS d 256 true [.inl z1801] V1801 (fun z1802 V1802 => z_MS d 62 true [.inr (.inr 97)] V1802 (fun z1803 V1803 => z_MS d 256 true [.inl z1803] V1803 (fun z1804 V1804 => z_MS d 68 true [.inr (.inr 123), .inl z1802, .inl z1804, .inr (.inr 132)] V1804 (fun z1805 V1805 => Q 0 V1805))))))) :
    z_Ex (z_MS d) 5 Q true 17 [some (.inr (.inr 122)), some (.inr (.inr 37)), some (.inr (.inr 97)), some (.inl l3), some (.inl l4)] [] 0 0 V := by
  refine ze_iload (pc := 17) zr_5_17 rfl ?_
  refine ze_aload_n (pc := 19) zr_5_19 rfl ?_
  refine ze_getfield (pc := 20) (v := .inl (V 37 8)) zr_5_20 rfl rfl ?_
  refine zq_icmp_ge (pc := 23) (t := 58) zr_5_23 (by decide) (z_toif h) (fun h => ?_) (fun h => ?_)
  · refine ze_iload_n (pc := 26) zr_5_26 rfl ?_
    refine ze_iload (pc := 27) zr_5_27 rfl ?_
    refine ze_ishr (pc := 29) zr_5_29 ?_
    refine ze_iconst (pc := 30) zr_5_30 (by decide) ?_
    refine ze_iand (pc := 31) zr_5_31 ?_
    refine zq_if_eq (pc := 32) (t := 52) zr_5_32 (by decide) (z_toif h) (fun h => ?_) (fun h => ?_)
    · refine zq_iinc (pc := 52) (ls2 := [some (.inr (.inr 122)), some (.inr (.inr 37)), some (.inr (.inr 97)), some (.inl l3), some (.inl (z_add l4 1))]) zr_5_52 rfl rfl rfl ?_
      refine ze_goto (pc := 55) (t := 17) zr_5_55 (by decide) ?_
      exact h
    · refine ze_aload_n (pc := 35) zr_5_35 rfl ?_
      refine ze_aload_n (pc := 36) zr_5_36 rfl ?_
      refine ze_iload (pc := 37) zr_5_37 rfl ?_
      refine ze_aload_n (pc := 39) zr_5_39 rfl ?_
      refine ze_iload (pc := 40) zr_5_40 rfl ?_
      refine ze_aload_n (pc := 42) zr_5_42 rfl ?_
      refine ze_getfield (pc := 43) (v := .inl (V 37 7)) zr_5_43 rfl rfl ?_
      refine zq_callV1 (pc := 46) (as := [.inr (.inr 122), .inl l4, .inl (V 37 7)]) (r := [.inl l4, .inr (.inr 37), .inr (.inr 97)]) (kc2 := 0) (ks2 := 0) zr_5_46 rfl (by decide) rfl rfl rfl rfl ⟨rfl, rfl⟩ ⟨rfl, rfl, rfl⟩ h (fun z1806 V1806 h => ?_)
      refine zq_callV0 (pc := 49) (as := [.inr (.inr 97), .inr (.inr 37), .inl l4, .inl z1806]) (r := []) (kc2 := 0) (ks2 := 0) zr_5_49 rfl (by decide) rfl rfl rfl rfl ⟨rfl, rfl⟩ rfl h (fun z1807 V1807 h => ?_)
      refine zq_iinc (pc := 52) (ls2 := [some (.inr (.inr 122)), some (.inr (.inr 37)), some (.inr (.inr 97)), some (.inl l3), some (.inl (z_add l4 1))]) zr_5_52 rfl rfl rfl ?_
      refine ze_goto (pc := 55) (t := 17) zr_5_55 (by decide) ?_
      exact h
  · refine ze_aload_n (pc := 58) zr_5_58 rfl ?_
    refine ze_aload_n (pc := 59) zr_5_59 rfl ?_
    refine ze_aload_n (pc := 60) zr_5_60 rfl ?_
    refine ze_getfield (pc := 61) (v := .inr (.inr 133)) zr_5_61 rfl rfl ?_
    refine zq_callV1 (pc := 64) (as := [.inr (.inr 97), .inr (.inr 37), .inr (.inr 133)]) (r := []) (kc2 := 0) (ks2 := 0) zr_5_64 rfl (by decide) rfl rfl rfl rfl ⟨rfl, rfl⟩ ⟨rfl, rfl, rfl⟩ h (fun z1801 V1801 h => ?_)
    refine zq_callS1 (pc := 67) (as := [.inl z1801]) (r := []) (kc2 := 0) (ks2 := 0) zr_5_67 rfl rfl rfl rfl ⟨rfl, rfl⟩ ⟨rfl, rfl, rfl⟩ h (fun z1802 V1802 h => ?_)
    refine zq_istore (pc := 70) (ls2 := [some (.inr (.inr 122)), some (.inr (.inr 37)), some (.inr (.inr 97)), some (.inl l3), some (.inl z1802)]) zr_5_70 rfl rfl ?_
    refine ze_aload_n (pc := 72) zr_5_72 rfl ?_
    refine ze_getfield (pc := 73) (v := .inr (.inr 123)) zr_5_73 rfl rfl ?_
    refine ze_iload (pc := 76) zr_5_76 rfl ?_
    refine ze_aload_n (pc := 78) zr_5_78 rfl ?_
    refine zq_callV1 (pc := 79) (as := [.inr (.inr 97)]) (r := [.inl z1802, .inr (.inr 123)]) (kc2 := 0) (ks2 := 0) zr_5_79 rfl (by decide) rfl rfl rfl rfl ⟨rfl, rfl⟩ ⟨rfl, rfl, rfl⟩ h (fun z1803 V1803 h => ?_)
    refine zq_callS1 (pc := 82) (as := [.inl z1803]) (r := [.inl z1802, .inr (.inr 123)]) (kc2 := 0) (ks2 := 0) zr_5_82 rfl rfl rfl rfl ⟨rfl, rfl⟩ ⟨rfl, rfl, rfl⟩ h (fun z1804 V1804 h => ?_)
    refine ze_aload_n (pc := 85) zr_5_85 rfl ?_
    refine ze_getfield (pc := 86) (v := .inr (.inr 132)) zr_5_86 rfl rfl ?_
    refine zq_callV0 (pc := 89) (as := [.inr (.inr 123), .inl z1802, .inl z1804, .inr (.inr 132)]) (r := []) (kc2 := 0) (ks2 := 0) zr_5_89 rfl (by decide) rfl rfl rfl rfl ⟨rfl, rfl⟩ rfl h (fun z1805 V1805 h => ?_)
    exact ze_vret (pc := 92) zr_5_92 rfl h
theorem zb6_122 {d : Nat} {Q : Int → z_M → Prop} (a0 : Int) (a1 : Int) {V : z_M}
    (h : z_Ex (z_MS d) 6 Q true 8 [some (.inr (.inr 122)), some (.inl a0), some (.inl a1), some (.inl 0), some (.inl 0), some (.inl 0)] [] 0 0 V) :
    z_MS (d + 1) 6 true [.inr (.inr 122), .inl a0, .inl a1] V Q := by
  show z_Ex (z_MS d) 6 Q true 0 [some (.inr (.inr 122)), some (.inl a0), some (.inl a1), none, none, none] [] 0 0 V
  refine ze_iconst (pc := 0) zr_6_0 (by decide) ?_
  refine zq_istore_n (pc := 1) (ls2 := [some (.inr (.inr 122)), some (.inl a0), some (.inl a1), some (.inl 0), none, none]) zr_6_1 rfl rfl ?_
  refine ze_iconst (pc := 2) zr_6_2 (by decide) ?_
  refine zq_istore (pc := 3) (ls2 := [some (.inr (.inr 122)), some (.inl a0), some (.inl a1), some (.inl 0), some (.inl 0), none]) zr_6_3 rfl rfl ?_
  refine ze_iconst (pc := 5) zr_6_5 (by decide) ?_
  refine zq_istore (pc := 6) (ls2 := [some (.inr (.inr 122)), some (.inl a0), some (.inl a1), some (.inl 0), some (.inl 0), some (.inl 0)]) zr_6_6 rfl rfl ?_
  exact h
theorem zb6_122_p8 {d : Nat} {Q : Int → z_M → Prop} (l1 : Int) (l2 : Int) (l3 : Int) (l4 : Int) (l5 : Int) {V : z_M}
    (h : zI (l5 < l2) (zI (l5 < 6) (zGu (0 ≤ l5 ∧ l5 < 6) (∀ x32 : Int, x32 = V 132 l5.toNat → zGu (0 ≤ x32 ∧ x32 < 6) (∀ x33 : Nat, x33 = z_rr true V 125 x32.toNat → zGu (z_kd x33 = 101) (zGu (0 ≤ l4 ∧ l4 < z_len' V x33) (∀ x36 : Int, x36 = V x33 l4.toNat → zGu (0 ≤ l5 ∧ l5 < 6) (∀ x55 : Int, x55 = V 132 l5.toNat → z_Ex (z_MS d) 6 Q true 8 [some (.inr (.inr 122)), some (.inl l1), some (.inl l2), some (.inl (z_or l3 (z_shl (z_and (z_shr x36 l1) 1) l5))), some (.inl (z_or l4 (z_shl 1 x55))), some (.inl (z_add l5 1))] [] 0 0 V)))))) (Q l3 V)) (Q l3 V)) :
    z_Ex (z_MS d) 6 Q true 8 [some (.inr (.inr 122)), some (.inl l1), some (.inl l2), some (.inl l3), some (.inl l4), some (.inl l5)] [] 0 0 V := by
  refine ze_iload (pc := 8) zr_6_8 rfl ?_
  refine ze_iload_n (pc := 10) zr_6_10 rfl ?_
  refine zq_icmp_ge (pc := 11) (t := 66) zr_6_11 (by decide) (z_toif h) (fun h => ?_) (fun h => ?_)
  · refine ze_iload (pc := 14) zr_6_14 rfl ?_
    refine ze_bipush (pc := 16) zr_6_16 (by decide) ?_
    refine zq_icmp_ge (pc := 18) (t := 66) zr_6_18 (by decide) (z_toif h) (fun h => ?_) (fun h => ?_)
    · refine ze_iload_n (pc := 21) zr_6_21 rfl ?_
      refine ze_aload_n (pc := 22) zr_6_22 rfl ?_
      refine ze_getfield (pc := 23) (v := .inr (.inr 125)) zr_6_23 rfl rfl ?_
      refine ze_aload_n (pc := 26) zr_6_26 rfl ?_
      refine ze_getfield (pc := 27) (v := .inr (.inr 132)) zr_6_27 rfl rfl ?_
      refine ze_iload (pc := 30) zr_6_30 rfl ?_
      refine z_gk h (fun g32 h => ?_)
      refine zl_iaload (pc := 32) zr_6_32 rfl rfl g32 h (fun x32 h => ?_)
      refine z_gk h (fun g33 h => ?_)
      refine zl_aaload (pc := 33) zr_6_33 (by decide) rfl g33 h (fun x33 h => ?_)
      refine ze_iload (pc := 34) zr_6_34 rfl ?_
      refine z_gk h (fun k36 h => ?_)
      refine z_gk h (fun g36 h => ?_)
      refine zl_ialoadv (pc := 36) zr_6_36 k36 g36 h (fun x36 h => ?_)
      refine ze_iload_n (pc := 37) zr_6_37 rfl ?_
      refine ze_ishr (pc := 38) zr_6_38 ?_
      refine ze_iconst (pc := 39) zr_6_39 (by decide) ?_
      refine ze_iand (pc := 40) zr_6_40 ?_
      refine ze_iload (pc := 41) zr_6_41 rfl ?_
      refine ze_ishl (pc := 43) zr_6_43 ?_
      refine ze_ior (pc := 44) zr_6_44 ?_
      refine zq_istore_n (pc := 45) (ls2 := [some (.inr (.inr 122)), some (.inl l1), some (.inl l2), some (.inl (z_or l3 (z_shl (z_and (z_shr x36 l1) 1) l5))), some (.inl l4), some (.inl l5)]) zr_6_45 rfl rfl ?_
      refine ze_iload (pc := 46) zr_6_46 rfl ?_
      refine ze_iconst (pc := 48) zr_6_48 (by decide) ?_
      refine ze_aload_n (pc := 49) zr_6_49 rfl ?_
      refine ze_getfield (pc := 50) (v := .inr (.inr 132)) zr_6_50 rfl rfl ?_
      refine ze_iload (pc := 53) zr_6_53 rfl ?_
      refine z_gk h (fun g55 h => ?_)
      refine zl_iaload (pc := 55) zr_6_55 rfl rfl g55 h (fun x55 h => ?_)
      refine ze_ishl (pc := 56) zr_6_56 ?_
      refine ze_ior (pc := 57) zr_6_57 ?_
      refine zq_istore (pc := 58) (ls2 := [some (.inr (.inr 122)), some (.inl l1), some (.inl l2), some (.inl (z_or l3 (z_shl (z_and (z_shr x36 l1) 1) l5))), some (.inl (z_or l4 (z_shl 1 x55))), some (.inl l5)]) zr_6_58 rfl rfl ?_
      refine zq_iinc (pc := 60) (ls2 := [some (.inr (.inr 122)), some (.inl l1), some (.inl l2), some (.inl (z_or l3 (z_shl (z_and (z_shr x36 l1) 1) l5))), some (.inl (z_or l4 (z_shl 1 x55))), some (.inl (z_add l5 1))]) zr_6_60 rfl rfl rfl ?_
      refine ze_goto (pc := 63) (t := 8) zr_6_63 (by decide) ?_
      exact h
    · refine ze_iload_n (pc := 66) zr_6_66 rfl ?_
      exact zq_ret1 (pc := 67) zr_6_67 rfl h
  · refine ze_iload_n (pc := 66) zr_6_66 rfl ?_
    exact zq_ret1 (pc := 67) zr_6_67 rfl h
theorem zb8_117_97 {d : Nat} {Q : Int → z_M → Prop} (a1 : Int) (a2 : Int) {V : z_M}
    (h : ∀ W1, W1 = z_up V 117 3 0 → ∀ W2, W2 = z_up W1 117 2 0 → zI (a2 = 2) (z_MS d 64 true [.inr (.inr 97)] W2 (fun z2 V2 => z_Ex (z_MS d) 8 Q true 52 [some (.inr (.inr 117)), some (.inr (.inr 97)), some (.inl a1), some (.inl a2), some (.inl (W2 97 7)), some (.inl (z_shr (z_sub (z_shl 1 (W2 97 8)) 1) 1)), some (.inl z2), some (.inl 0)] [] 0 0 V2)) (z_MS d 63 true [.inr (.inr 97)] W2 (fun z1 V1 => z_Ex (z_MS d) 8 Q true 52 [some (.inr (.inr 117)), some (.inr (.inr 97)), some (.inl a1), some (.inl a2), some (.inl (W2 97 7)), some (.inl (z_shr (z_sub (z_shl 1 (W2 97 8)) 1) 1)), some (.inl (z_and z1 (z_shr (z_sub (z_shl 1 (W2 97 8)) 1) 1))), some (.inl 0)] [] 0 0 V1))) :
    z_MS (d + 1) 8 true [.inr (.inr 117), .inr (.inr 97), .inl a1, .inl a2] V Q := by
  show z_Ex (z_MS d) 8 Q true 0 [some (.inr (.inr 117)), some (.inr (.inr 97)), some (.inl a1), some (.inl a2), none, none, none, none] [] 0 0 V
  refine ze_aload_n (pc := 0) zr_8_0 rfl ?_
  refine ze_iconst (pc := 1) zr_8_1 (by decide) ?_
  refine zq_putI (pc := 2) zr_8_2 (by decide) rfl h (fun W1 h => ?_)
  refine ze_aload_n (pc := 5) zr_8_5 rfl ?_
  refine ze_iconst (pc := 6) zr_8_6 (by decide) ?_
  refine zq_putI (pc := 7) zr_8_7 (by decide) rfl h (fun W2 h => ?_)
  refine ze_aload_n (pc := 10) zr_8_10 rfl ?_
  refine ze_getfield (pc := 11) (v := .inl (W2 97 7)) zr_8_11 rfl rfl ?_
  refine zq_istore (pc := 14) (ls2 := [some (.inr (.inr 117)), some (.inr (.inr 97)), some (.inl a1), some (.inl a2), some (.inl (W2 97 7)), none, none, none]) zr_8_14 rfl rfl ?_
  refine ze_iconst (pc := 16) zr_8_16 (by decide) ?_
  refine ze_aload_n (pc := 17) zr_8_17 rfl ?_
  refine ze_getfield (pc := 18) (v := .inl (W2 97 8)) zr_8_18 rfl rfl ?_
  refine ze_ishl (pc := 21) zr_8_21 ?_
  refine ze_iconst (pc := 22) zr_8_22 (by decide) ?_
  refine ze_isub (pc := 23) zr_8_23 ?_
  refine ze_iconst (pc := 24) zr_8_24 (by decide) ?_
  refine ze_ishr (pc := 25) zr_8_25 ?_
  refine zq_istore (pc := 26) (ls2 := [some (.inr (.inr 117)), some (.inr (.inr 97)), some (.inl a1), some (.inl a2), some (.inl (W2 97 7)), some (.inl (z_shr (z_sub (z_shl 1 (W2 97 8)) 1) 1)), none, none]) zr_8_26 rfl rfl ?_
  refine ze_iload_n (pc := 28) zr_8_28 rfl ?_
  refine ze_iconst (pc := 29) zr_8_29 (by decide) ?_
  refine zq_icmp_ne (pc := 30) (t := 40) zr_8_30 (by decide) (z_toif h) (fun h => ?_) (fun h => ?_)
  · refine ze_aload_n (pc := 33) zr_8_33 rfl ?_
    refine zq_callV1 (pc := 34) (as := [.inr (.inr 97)]) (r := []) (kc2 := 0) (ks2 := 0) zr_8_34 rfl (by decide) rfl rfl rfl rfl ⟨rfl, rfl⟩ ⟨rfl, rfl, rfl⟩ h (fun z2 V2 h => ?_)
    refine ze_goto (pc := 37) (t := 47) zr_8_37 (by decide) ?_
    refine zq_istore (pc := 47) (ls2 := [some (.inr (.inr 117)), some (.inr (.inr 97)), some (.inl a1), some (.inl a2), some (.inl (W2 97 7)), some (.inl (z_shr (z_sub (z_shl 1 (W2 97 8)) 1) 1)), some (.inl z2), none]) zr_8_47 rfl rfl ?_
    refine ze_iconst (pc := 49) zr_8_49 (by decide) ?_
    refine zq_istore (pc := 50) (ls2 := [some (.inr (.inr 117)), some (.inr (.inr 97)), some (.inl a1), some (.inl a2), some (.inl (W2 97 7)), some (.inl (z_shr (z_sub (z_shl 1 (W2 97 8)) 1) 1)), some (.inl z2), some (.inl 0)]) zr_8_50 rfl rfl ?_
    exact h
  · refine ze_aload_n (pc := 40) zr_8_40 rfl ?_
    refine zq_callV1 (pc := 41) (as := [.inr (.inr 97)]) (r := []) (kc2 := 0) (ks2 := 0) zr_8_41 rfl (by decide) rfl rfl rfl rfl ⟨rfl, rfl⟩ ⟨rfl, rfl, rfl⟩ h (fun z1 V1 h => ?_)
    refine ze_iload (pc := 44) zr_8_44 rfl ?_
    refine ze_iand (pc := 46) zr_8_46 ?_
    refine zq_istore (pc := 47) (ls2 := [some (.inr (.inr 117)), some (.inr (.inr 97)), some (.inl a1), some (.inl a2), some (.inl (W2 97 7)), some (.inl (z_shr (z_sub (z_shl 1 (W2 97 8)) 1) 1)), some (.inl (z_and z1 (z_shr (z_sub (z_shl 1 (W2 97 8)) 1) 1))), none]) zr_8_47 rfl rfl ?_
    refine ze_iconst (pc := 49) zr_8_49 (by decide) ?_
    refine zq_istore (pc := 50) (ls2 := [some (.inr (.inr 117)), some (.inr (.inr 97)), some (.inl a1), some (.inl a2), some (.inl (W2 97 7)), some (.inl (z_shr (z_sub (z_shl 1 (W2 97 8)) 1) 1)), some (.inl (z_and z1 (z_shr (z_sub (z_shl 1 (W2 97 8)) 1) 1))), some (.inl 0)]) zr_8_50 rfl rfl ?_
    exact h
theorem zb8_117_97_p52 {d : Nat} {Q : Int → z_M → Prop} (l2 : Int) (l3 : Int) (l4 : Int) (o5 : Option z_V) (l6 : Int) (l7 : Int) {V : z_M}
    (h : zI (l6 < l7) (∀ W5301, W5301 = z_up V 97 7 l4 → Q 0 W5301) (zI ((z_and l7 (z_xor l6 (-1))) = 0) (∀ W5302, W5302 = z_up V 97 7 (if l3 = 2 then z_or l4 (z_shl l7 1) else z_and l4 (z_xor (z_shl l7 1) (-1))) → z_MS d 55 true [.inr (.inr 97), .inl l2] W5302 (fun z5301 V5301 => zI (z5301 = (if l3 = 1 then 0 else 1)) (z_MS d 9 true [.inr (.inr 117), .inl l7, .inl (if l3 = 0 then 1 else 0)] V5301 (fun z5302 V5302 => z_Ex (z_MS d) 8 Q true 52 [some (.inr (.inr 117)), some (.inr (.inr 97)), some (.inl l2), some (.inl l3), some (.inl l4), o5, some (.inl l6), some (.inl (z_add l7 1))] [] 0 0 V5302)) (z_Ex (z_MS d) 8 Q true 52 [some (.inr (.inr 117)), some (.inr (.inr 97)), some (.inl l2), some (.inl l3), some (.inl l4), o5, some (.inl l6), some (.inl (z_add l7 1))] [] 0 0 V5301))) (z_Ex (z_MS d) 8 Q true 52 [some (.inr (.inr 117)), some (.inr (.inr 97)), some (.inl l2), some (.inl l3), some (.inl l4), o5, some (.inl l6), some (.inl (z_add l7 1))] [] 0 0 V))) :
    z_Ex (z_MS d) 8 Q true 52 [some (.inr (.inr 117)), some (.inr (.inr 97)), some (.inl l2), some (.inl l3), some (.inl l4), o5, some (.inl l6), some (.inl l7)] [] 0 0 V := by
  refine ze_iload (pc := 52) zr_8_52 rfl ?_
  refine ze_iload (pc := 54) zr_8_54 rfl ?_
  refine zq_icmp_gt (pc := 56) (t := 136) zr_8_56 (by decide) (z_toif h) (fun h => ?_) (fun h => ?_)
  · refine ze_aload_n (pc := 136) zr_8_136 rfl ?_
    refine ze_iload (pc := 137) zr_8_137 rfl ?_
    refine zq_putI (pc := 139) zr_8_139 (by decide) rfl h (fun W5301 h => ?_)
    exact ze_vret (pc := 142) zr_8_142 rfl h
  · refine ze_iload (pc := 59) zr_8_59 rfl ?_
    refine ze_iload (pc := 61) zr_8_61 rfl ?_
    refine ze_iconst (pc := 63) zr_8_63 (by decide) ?_
    refine ze_ixor (pc := 64) zr_8_64 ?_
    refine ze_iand (pc := 65) zr_8_65 ?_
    refine zq_if_ne (pc := 66) (t := 130) zr_8_66 (by decide) (z_toif h) (fun h => ?_) (fun h => ?_)
    · refine ze_aload_n (pc := 69) zr_8_69 rfl ?_
      refine ze_iload_n (pc := 70) zr_8_70 rfl ?_
      refine ze_iconst (pc := 71) zr_8_71 (by decide) ?_
      have j72 : z_Ex (z_MS d) 8 Q true 94 [some (.inr (.inr 117)), some (.inr (.inr 97)), some (.inl l2), some (.inl l3), some (.inl l4), o5, some (.inl l6), some (.inl l7)] [.inl (if l3 = 2 then z_or l4 (z_shl l7 1) else z_and l4 (z_xor (z_shl l7 1) (-1))), .inr (.inr 97)] 0 0 V := by
        refine zq_putI (pc := 94) zr_8_94 (by decide) rfl h (fun W5302 h => ?_)
        refine ze_aload_n (pc := 97) zr_8_97 rfl ?_
        refine ze_iload_n (pc := 98) zr_8_98 rfl ?_
        refine zq_callV1 (pc := 99) (as := [.inr (.inr 97), .inl l2]) (r := []) (kc2 := 0) (ks2 := 0) zr_8_99 rfl (by decide) rfl rfl rfl rfl ⟨rfl, rfl⟩ ⟨rfl, rfl, rfl⟩ h (fun z5301 V5301 h => ?_)
        refine ze_iload_n (pc := 102) zr_8_102 rfl ?_
        refine ze_iconst (pc := 103) zr_8_103 (by decide) ?_
        have j104 : z_Ex (z_MS d) 8 Q true 112 [some (.inr (.inr 117)), some (.inr (.inr 97)), some (.inl l2), some (.inl l3), some (.inl l4), o5, some (.inl l6), some (.inl l7)] [.inl (if l3 = 1 then 0 else 1), .inl z5301] 0 0 V5301 := by
          refine zq_icmp_ne (pc := 112) (t := 130) zr_8_112 (by decide) (z_toif h) (fun h => ?_) (fun h => ?_)
          · refine ze_aload_n (pc := 115) zr_8_115 rfl ?_
            refine ze_iload (pc := 116) zr_8_116 rfl ?_
            refine ze_iload_n (pc := 118) zr_8_118 rfl ?_
            have j119 : z_Ex (z_MS d) 8 Q true 127 [some (.inr (.inr 117)), some (.inr (.inr 97)), some (.inl l2), some (.inl l3), some (.inl l4), o5, some (.inl l6), some (.inl l7)] [.inl (if l3 = 0 then 1 else 0), .inl l7, .inr (.inr 117)] 0 0 V5301 := by
              refine zq_callV0 (pc := 127) (as := [.inr (.inr 117), .inl l7, .inl (if l3 = 0 then 1 else 0)]) (r := []) (kc2 := 0) (ks2 := 0) zr_8_127 rfl (by decide) rfl rfl rfl rfl ⟨rfl, rfl⟩ rfl h (fun z5302 V5302 h => ?_)
              refine zq_iinc (pc := 130) (ls2 := [some (.inr (.inr 117)), some (.inr (.inr 97)), some (.inl l2), some (.inl l3), some (.inl l4), o5, some (.inl l6), some (.inl (z_add l7 1))]) zr_8_130 rfl rfl rfl ?_
              refine ze_goto (pc := 133) (t := 52) zr_8_133 (by decide) ?_
              exact h
            refine ze_if_ne (pc := 119) (t := 126) zr_8_119 (by decide) (fun hc => ?_) (fun hc => ?_)
            · rw [if_pos (show l3 = 0 from hc)] at j119
              refine ze_iconst (pc := 122) zr_8_122 (by decide) ?_
              refine ze_goto (pc := 123) (t := 127) zr_8_123 (by decide) ?_
              exact j119
            · rw [if_neg (show ¬ (l3 = 0) from hc)] at j119
              refine ze_iconst (pc := 126) zr_8_126 (by decide) ?_
              exact j119
          · refine zq_iinc (pc := 130) (ls2 := [some (.inr (.inr 117)), some (.inr (.inr 97)), some (.inl l2), some (.inl l3), some (.inl l4), o5, some (.inl l6), some (.inl (z_add l7 1))]) zr_8_130 rfl rfl rfl ?_
            refine ze_goto (pc := 133) (t := 52) zr_8_133 (by decide) ?_
            exact h
        refine ze_icmp_eq (pc := 104) (t := 111) zr_8_104 (by decide) (fun hc => ?_) (fun hc => ?_)
        · rw [if_pos (show l3 = 1 from hc)] at j104
          refine ze_iconst (pc := 111) zr_8_111 (by decide) ?_
          exact j104
        · rw [if_neg (show ¬ (l3 = 1) from hc)] at j104
          refine ze_iconst (pc := 107) zr_8_107 (by decide) ?_
          refine ze_goto (pc := 108) (t := 112) zr_8_108 (by decide) ?_
          exact j104
      refine ze_icmp_ne (pc := 72) (t := 85) zr_8_72 (by decide) (fun hc => ?_) (fun hc => ?_)
      · rw [if_pos (show l3 = 2 from hc)] at j72
        refine ze_iload (pc := 75) zr_8_75 rfl ?_
        refine ze_iload (pc := 77) zr_8_77 rfl ?_
        refine ze_iconst (pc := 79) zr_8_79 (by decide) ?_
        refine ze_ishl (pc := 80) zr_8_80 ?_
        refine ze_ior (pc := 81) zr_8_81 ?_
        refine ze_goto (pc := 82) (t := 94) zr_8_82 (by decide) ?_
        exact j72
      · rw [if_neg (show ¬ (l3 = 2) from hc)] at j72
        refine ze_iload (pc := 85) zr_8_85 rfl ?_
        refine ze_iload (pc := 87) zr_8_87 rfl ?_
        refine ze_iconst (pc := 89) zr_8_89 (by decide) ?_
        refine ze_ishl (pc := 90) zr_8_90 ?_
        refine ze_iconst (pc := 91) zr_8_91 (by decide) ?_
        refine ze_ixor (pc := 92) zr_8_92 ?_
        refine ze_iand (pc := 93) zr_8_93 ?_
        exact j72
    · refine zq_iinc (pc := 130) (ls2 := [some (.inr (.inr 117)), some (.inr (.inr 97)), some (.inl l2), some (.inl l3), some (.inl l4), o5, some (.inl l6), some (.inl (z_add l7 1))]) zr_8_130 rfl rfl rfl ?_
      refine ze_goto (pc := 133) (t := 52) zr_8_133 (by decide) ?_
      exact h
theorem zb9_117 {d : Nat} {Q : Int → z_M → Prop} (a0 : Int) (a1 : Int) {V : z_M}
    (h : z_MS d 256 true [.inl a0] V (fun z1 V1 => zI ((V1 117 3) = 0) (∀ W1, W1 = z_up V1 117 0 z1 → ∀ W2, W2 = z_up W1 117 1 a0 → ∀ W3, W3 = z_up W2 117 2 0 → z_Ex (z_MS d) 9 Q true 50 [some (.inr (.inr 117)), some (.inl a0), some (.inl a1), some (.inl z1)] [] 0 0 W3) (zI (a1 = 0) (zI (z1 < (V1 117 0)) (∀ W4, W4 = z_up V1 117 0 z1 → ∀ W5, W5 = z_up W4 117 1 a0 → ∀ W6, W6 = z_up W5 117 2 0 → z_Ex (z_MS d) 9 Q true 50 [some (.inr (.inr 117)), some (.inl a0), some (.inl a1), some (.inl z1)] [] 0 0 W6) (z_Ex (z_MS d) 9 Q true 50 [some (.inr (.inr 117)), some (.inl a0), some (.inl a1), some (.inl z1)] [] 0 0 V1)) (zI ((V1 117 0) < z1) (∀ W7, W7 = z_up V1 117 0 z1 → ∀ W8, W8 = z_up W7 117 1 a0 → ∀ W9, W9 = z_up W8 117 2 0 → z_Ex (z_MS d) 9 Q true 50 [some (.inr (.inr 117)), some (.inl a0), some (.inl a1), some (.inl z1)] [] 0 0 W9) (z_Ex (z_MS d) 9 Q true 50 [some (.inr (.inr 117)), some (.inl a0), some (.inl a1), some (.inl z1)] [] 0 0 V1))))) :
    z_MS (d + 1) 9 true [.inr (.inr 117), .inl a0, .inl a1] V Q := by
  show z_Ex (z_MS d) 9 Q true 0 [some (.inr (.inr 117)), some (.inl a0), some (.inl a1), none] [] 0 0 V
  refine ze_iload_n (pc := 0) zr_9_0 rfl ?_
  refine zq_callS1 (pc := 1) (as := [.inl a0]) (r := []) (kc2 := 0) (ks2 := 0) zr_9_1 rfl rfl rfl rfl ⟨rfl, rfl⟩ ⟨rfl, rfl, rfl⟩ h (fun z1 V1 h => ?_)
  refine zq_istore_n (pc := 4) (ls2 := [some (.inr (.inr 117)), some (.inl a0), some (.inl a1), some (.inl z1)]) zr_9_4 rfl rfl ?_
  refine ze_aload_n (pc := 5) zr_9_5 rfl ?_
  refine ze_getfield (pc := 6) (v := .inl (V1 117 3)) zr_9_6 rfl rfl ?_
  refine zq_if_eq (pc := 9) (t := 35) zr_9_9 (by decide) (z_toif h) (fun h => ?_) (fun h => ?_)
  · refine ze_aload_n (pc := 35) zr_9_35 rfl ?_
    refine ze_iload_n (pc := 36) zr_9_36 rfl ?_
    refine zq_putI (pc := 37) zr_9_37 (by decide) rfl h (fun W1 h => ?_)
    refine ze_aload_n (pc := 40) zr_9_40 rfl ?_
    refine ze_iload_n (pc := 41) zr_9_41 rfl ?_
    refine zq_putI (pc := 42) zr_9_42 (by decide) rfl h (fun W2 h => ?_)
    refine ze_aload_n (pc := 45) zr_9_45 rfl ?_
    refine ze_iconst (pc := 46) zr_9_46 (by decide) ?_
    refine zq_putI (pc := 47) zr_9_47 (by decide) rfl h (fun W3 h => ?_)
    exact h
  · refine ze_iload_n (pc := 12) zr_9_12 rfl ?_
    refine zq_if_eq (pc := 13) (t := 27) zr_9_13 (by decide) (z_toif h) (fun h => ?_) (fun h => ?_)
    · refine ze_iload_n (pc := 27) zr_9_27 rfl ?_
      refine ze_aload_n (pc := 28) zr_9_28 rfl ?_
      refine ze_getfield (pc := 29) (v := .inl (V1 117 0)) zr_9_29 rfl rfl ?_
      refine zq_icmp_ge (pc := 32) (t := 50) zr_9_32 (by decide) (z_toif h) (fun h => ?_) (fun h => ?_)
      · refine ze_aload_n (pc := 35) zr_9_35 rfl ?_
        refine ze_iload_n (pc := 36) zr_9_36 rfl ?_
        refine zq_putI (pc := 37) zr_9_37 (by decide) rfl h (fun W4 h => ?_)
        refine ze_aload_n (pc := 40) zr_9_40 rfl ?_
        refine ze_iload_n (pc := 41) zr_9_41 rfl ?_
        refine zq_putI (pc := 42) zr_9_42 (by decide) rfl h (fun W5 h => ?_)
        refine ze_aload_n (pc := 45) zr_9_45 rfl ?_
        refine ze_iconst (pc := 46) zr_9_46 (by decide) ?_
        refine zq_putI (pc := 47) zr_9_47 (by decide) rfl h (fun W6 h => ?_)
        exact h
      · exact h
    · refine ze_iload_n (pc := 16) zr_9_16 rfl ?_
      refine ze_aload_n (pc := 17) zr_9_17 rfl ?_
      refine ze_getfield (pc := 18) (v := .inl (V1 117 0)) zr_9_18 rfl rfl ?_
      refine zq_icmp_le (pc := 21) (t := 50) zr_9_21 (by decide) (z_toif h) (fun h => ?_) (fun h => ?_)
      · refine ze_goto (pc := 24) (t := 35) zr_9_24 (by decide) ?_
        refine ze_aload_n (pc := 35) zr_9_35 rfl ?_
        refine ze_iload_n (pc := 36) zr_9_36 rfl ?_
        refine zq_putI (pc := 37) zr_9_37 (by decide) rfl h (fun W7 h => ?_)
        refine ze_aload_n (pc := 40) zr_9_40 rfl ?_
        refine ze_iload_n (pc := 41) zr_9_41 rfl ?_
        refine zq_putI (pc := 42) zr_9_42 (by decide) rfl h (fun W8 h => ?_)
        refine ze_aload_n (pc := 45) zr_9_45 rfl ?_
        refine ze_iconst (pc := 46) zr_9_46 (by decide) ?_
        refine zq_putI (pc := 47) zr_9_47 (by decide) rfl h (fun W9 h => ?_)
        exact h
      · exact h
theorem zb9_117_p50 {d : Nat} {Q : Int → z_M → Prop} (o1 : Option z_V) (o2 : Option z_V) (l3 : Int) {V : z_M}
    (h : zI (l3 = (V 117 0)) (∀ W5102, W5102 = z_up V 117 2 (z_add (V 117 2) 1) → ∀ W5103, W5103 = z_up W5102 117 3 (z_add (W5102 117 3) 1) → Q 0 W5103) (∀ W5101, W5101 = z_up V 117 3 (z_add (V 117 3) 1) → Q 0 W5101)) :
    z_Ex (z_MS d) 9 Q true 50 [some (.inr (.inr 117)), o1, o2, some (.inl l3)] [] 0 0 V := by
  refine ze_iload_n (pc := 50) zr_9_50 rfl ?_
  refine ze_aload_n (pc := 51) zr_9_51 rfl ?_
  refine ze_getfield (pc := 52) (v := .inl (V 117 0)) zr_9_52 rfl rfl ?_
  refine zq_icmp_ne (pc := 55) (t := 68) zr_9_55 (by decide) (z_toif h) (fun h => ?_) (fun h => ?_)
  · refine ze_aload_n (pc := 58) zr_9_58 rfl ?_
    refine ze_dup (pc := 59) zr_9_59 rfl ?_
    refine ze_getfield (pc := 60) (v := .inl (V 117 2)) zr_9_60 rfl rfl ?_
    refine ze_iconst (pc := 63) zr_9_63 (by decide) ?_
    refine ze_iadd (pc := 64) zr_9_64 ?_
    refine zq_putI (pc := 65) zr_9_65 (by decide) rfl h (fun W5102 h => ?_)
    refine ze_aload_n (pc := 68) zr_9_68 rfl ?_
    refine ze_dup (pc := 69) zr_9_69 rfl ?_
    refine ze_getfield (pc := 70) (v := .inl (W5102 117 3)) zr_9_70 rfl rfl ?_
    refine ze_iconst (pc := 73) zr_9_73 (by decide) ?_
    refine ze_iadd (pc := 74) zr_9_74 ?_
    refine zq_putI (pc := 75) zr_9_75 (by decide) rfl h (fun W5103 h => ?_)
    exact ze_vret (pc := 78) zr_9_78 rfl h
  · refine ze_aload_n (pc := 68) zr_9_68 rfl ?_
    refine ze_dup (pc := 69) zr_9_69 rfl ?_
    refine ze_getfield (pc := 70) (v := .inl (V 117 3)) zr_9_70 rfl rfl ?_
    refine ze_iconst (pc := 73) zr_9_73 (by decide) ?_
    refine ze_iadd (pc := 74) zr_9_74 ?_
    refine zq_putI (pc := 75) zr_9_75 (by decide) rfl h (fun W5101 h => ?_)
    exact ze_vret (pc := 78) zr_9_78 rfl h
theorem zb10_117 {d : Nat} {Q : Int → z_M → Prop} (a0 : Int) {V : z_M}
    (h : zI (a0 = 2) (Q (V 117 2) V) (zI (a0 = 3) (Q (V 117 3) V) (zI ((V 117 3) = 0) (Q (-1) V) (Q (if a0 = 0 then V 117 0 else V 117 1) V)))) :
    z_MS (d + 1) 10 true [.inr (.inr 117), .inl a0] V Q := by
  show z_Ex (z_MS d) 10 Q true 0 [some (.inr (.inr 117)), some (.inl a0)] [] 0 0 V
  refine ze_iload_n (pc := 0) zr_10_0 rfl ?_
  refine ze_iconst (pc := 1) zr_10_1 (by decide) ?_
  refine zq_icmp_ne (pc := 2) (t := 10) zr_10_2 (by decide) (z_toif h) (fun h => ?_) (fun h => ?_)
  · refine ze_aload_n (pc := 5) zr_10_5 rfl ?_
    refine ze_getfield (pc := 6) (v := .inl (V 117 2)) zr_10_6 rfl rfl ?_
    exact zq_ret1 (pc := 9) zr_10_9 rfl h
  · refine ze_iload_n (pc := 10) zr_10_10 rfl ?_
    refine ze_iconst (pc := 11) zr_10_11 (by decide) ?_
    refine zq_icmp_ne (pc := 12) (t := 20) zr_10_12 (by decide) (z_toif h) (fun h => ?_) (fun h => ?_)
    · refine ze_aload_n (pc := 15) zr_10_15 rfl ?_
      refine ze_getfield (pc := 16) (v := .inl (V 117 3)) zr_10_16 rfl rfl ?_
      exact zq_ret1 (pc := 19) zr_10_19 rfl h
    · refine ze_aload_n (pc := 20) zr_10_20 rfl ?_
      refine ze_getfield (pc := 21) (v := .inl (V 117 3)) zr_10_21 rfl rfl ?_
      refine zq_if_ne (pc := 24) (t := 29) zr_10_24 (by decide) (z_toif h) (fun h => ?_) (fun h => ?_)
      · refine ze_iconst (pc := 27) zr_10_27 (by decide) ?_
        exact zq_ret1 (pc := 28) zr_10_28 rfl h
      · refine ze_iload_n (pc := 29) zr_10_29 rfl ?_
        have j30 : z_Ex (z_MS d) 10 Q true 44 [some (.inr (.inr 117)), some (.inl a0)] [.inl (if a0 = 0 then V 117 0 else V 117 1)] 0 0 V := by
          exact zq_ret1 (pc := 44) zr_10_44 rfl h
        refine ze_if_ne (pc := 30) (t := 40) zr_10_30 (by decide) (fun hc => ?_) (fun hc => ?_)
        · rw [if_pos (show a0 = 0 from hc)] at j30
          refine ze_aload_n (pc := 33) zr_10_33 rfl ?_
          refine ze_getfield (pc := 34) (v := .inl (V 117 0)) zr_10_34 rfl rfl ?_
          refine ze_goto (pc := 37) (t := 44) zr_10_37 (by decide) ?_
          exact j30
        · rw [if_neg (show ¬ (a0 = 0) from hc)] at j30
          refine ze_aload_n (pc := 40) zr_10_40 rfl ?_
          refine ze_getfield (pc := 41) (v := .inl (V 117 1)) zr_10_41 rfl rfl ?_
          exact j30
theorem zb12_134_37_97 {d : Nat} {Q : Int → z_M → Prop} (a2 : Int) (a3 : Int) {V : z_M}
    (h : ∀ W1, W1 = z_up V 134 2 a2 → ∀ W2, W2 = z_up W1 134 1 (z_min a3 20) → z_Ex (z_MS d) 12 Q true 22 [some (.inr (.inr 134)), some (.inr (.inr 37)), some (.inr (.inr 97)), some (.inl a2), some (.inl a3), some (.inl 0), some (.inl 0)] [] 0 0 W2) :
    z_MS (d + 1) 12 true [.inr (.inr 134), .inr (.inr 37), .inr (.inr 97), .inl a2, .inl a3] V Q := by
  show z_Ex (z_MS d) 12 Q true 0 [some (.inr (.inr 134)), some (.inr (.inr 37)), some (.inr (.inr 97)), some (.inl a2), some (.inl a3), none, none] [] 0 0 V
  refine ze_aload_n (pc := 0) zr_12_0 rfl ?_
  refine ze_iload_n (pc := 1) zr_12_1 rfl ?_
  refine zq_putI (pc := 2) zr_12_2 (by decide) rfl h (fun W1 h => ?_)
  refine ze_aload_n (pc := 5) zr_12_5 rfl ?_
  refine ze_iload (pc := 6) zr_12_6 rfl ?_
  refine ze_bipush (pc := 8) zr_12_8 (by decide) ?_
  refine zq_min (pc := 10) zr_12_10 (Nat.le_of_ble_eq_true rfl) ?_
  refine zq_putI (pc := 13) zr_12_13 (by decide) rfl h (fun W2 h => ?_)
  refine ze_iconst (pc := 16) zr_12_16 (by decide) ?_
  refine zq_istore (pc := 17) (ls2 := [some (.inr (.inr 134)), some (.inr (.inr 37)), some (.inr (.inr 97)), some (.inl a2), some (.inl a3), some (.inl 0), none]) zr_12_17 rfl rfl ?_
  refine ze_iconst (pc := 19) zr_12_19 (by decide) ?_
  refine zq_istore (pc := 20) (ls2 := [some (.inr (.inr 134)), some (.inr (.inr 37)), some (.inr (.inr 97)), some (.inl a2), some (.inl a3), some (.inl 0), some (.inl 0)]) zr_12_20 rfl rfl ?_
  exact h
theorem zb12_134_37_97_p22 {d : Nat} {Q : Int → z_M → Prop} (o3 : Option z_V) (o4 : Option z_V) (l5 : Int) (l6 : Int) {V : z_M}
    (h : zI (l6 < (V 134 1)) (z_MS d 48 true [.inr (.inr 97), .inr (.inr 37), .inr (.inr 6)] V (fun z2301 V2301 => z_MS d 13 true [.inr (.inr 134), .inr (.inr 37), .inr (.inr 97)] V2301 (fun z2302 V2302 => zGu (0 ≤ l6 ∧ l6 < 20) (∀ W2301, W2301 = z_up V2302 136 l6.toNat z2302 → z_MS d 62 true [.inr (.inr 97)] W2301 (fun z2303 V2303 => zGu (0 ≤ l6 ∧ l6 < 20) (∀ W2302, W2302 = z_up V2303 137 l6.toNat z2303 → z_MS d 64 true [.inr (.inr 97)] W2302 (fun z2304 V2304 => zGu (0 ≤ l6 ∧ l6 < 20) (∀ W2303, W2303 = z_up V2304 138 l6.toNat z2304 → zGu (0 ≤ l6 ∧ l6 < 20) (∀ x90 : Int, x90 = W2303 136 l6.toNat → z_Ex (z_MS d) 12 Q true 22 [some (.inr (.inr 134)), some (.inr (.inr 37)), some (.inr (.inr 97)), o3, (cond (z_o2 o4) none o4), some (.inl (z_add l5 x90)), some (.inl (z_add l6 1))] [] 0 0 W2303))))))))) (Q l5 V)) :
    z_Ex (z_MS d) 12 Q true 22 [some (.inr (.inr 134)), some (.inr (.inr 37)), some (.inr (.inr 97)), o3, o4, some (.inl l5), some (.inl l6)] [] 0 0 V := by
  refine ze_iload (pc := 22) zr_12_22 rfl ?_
  refine ze_aload_n (pc := 24) zr_12_24 rfl ?_
  refine ze_getfield (pc := 25) (v := .inl (V 134 1)) zr_12_25 rfl rfl ?_
  refine zq_icmp_ge (pc := 28) (t := 100) zr_12_28 (by decide) (z_toif h) (fun h => ?_) (fun h => ?_)
  · refine ze_aload_n (pc := 31) zr_12_31 rfl ?_
    refine ze_aload_n (pc := 32) zr_12_32 rfl ?_
    refine ze_static (pc := 33) zr_12_33 rfl (by decide) ?_
    refine zq_callV0 (pc := 36) (as := [.inr (.inr 97), .inr (.inr 37), .inr (.inr 6)]) (r := []) (kc2 := 0) (ks2 := 0) zr_12_36 rfl (by decide) rfl rfl rfl rfl ⟨rfl, rfl⟩ rfl h (fun z2301 V2301 h => ?_)
    refine ze_aload_n (pc := 39) zr_12_39 rfl ?_
    refine ze_getfield (pc := 40) (v := .inr (.inr 135)) zr_12_40 rfl rfl ?_
    refine ze_iconst (pc := 43) zr_12_43 (by decide) ?_
    refine zq_aaload (pc := 44) (v := .inr (.inr 136)) zr_12_44 (by decide) rfl (by decide) rfl ?_
    refine ze_iload (pc := 45) zr_12_45 rfl ?_
    refine ze_aload_n (pc := 47) zr_12_47 rfl ?_
    refine ze_aload_n (pc := 48) zr_12_48 rfl ?_
    refine ze_aload_n (pc := 49) zr_12_49 rfl ?_
    refine zq_callV1 (pc := 50) (as := [.inr (.inr 134), .inr (.inr 37), .inr (.inr 97)]) (r := [.inl l6, .inr (.inr 136)]) (kc2 := 0) (ks2 := 0) zr_12_50 rfl (by decide) rfl rfl rfl rfl ⟨rfl, rfl⟩ ⟨rfl, rfl, rfl⟩ h (fun z2302 V2302 h => ?_)
    refine z_gk h (fun g53 h => ?_)
    refine zq_iastore (pc := 53) zr_12_53 (by decide) rfl g53 rfl h (fun W2301 h => ?_)
    refine ze_aload_n (pc := 54) zr_12_54 rfl ?_
    refine ze_getfield (pc := 55) (v := .inr (.inr 135)) zr_12_55 rfl rfl ?_
    refine ze_iconst (pc := 58) zr_12_58 (by decide) ?_
    refine zq_aaload (pc := 59) (v := .inr (.inr 137)) zr_12_59 (by decide) rfl (by decide) rfl ?_
    refine ze_iload (pc := 60) zr_12_60 rfl ?_
    refine ze_aload_n (pc := 62) zr_12_62 rfl ?_
    refine zq_callV1 (pc := 63) (as := [.inr (.inr 97)]) (r := [.inl l6, .inr (.inr 137)]) (kc2 := 0) (ks2 := 0) zr_12_63 rfl (by decide) rfl rfl rfl rfl ⟨rfl, rfl⟩ ⟨rfl, rfl, rfl⟩ h (fun z2303 V2303 h => ?_)
    refine z_gk h (fun g66 h => ?_)
    refine zq_iastore (pc := 66) zr_12_66 (by decide) rfl g66 rfl h (fun W2302 h => ?_)
    refine ze_aload_n (pc := 67) zr_12_67 rfl ?_
    refine ze_getfield (pc := 68) (v := .inr (.inr 135)) zr_12_68 rfl rfl ?_
    refine ze_iconst (pc := 71) zr_12_71 (by decide) ?_
    refine zq_aaload (pc := 72) (v := .inr (.inr 138)) zr_12_72 (by decide) rfl (by decide) rfl ?_
    refine ze_iload (pc := 73) zr_12_73 rfl ?_
    refine ze_aload_n (pc := 75) zr_12_75 rfl ?_
    refine zq_callV1 (pc := 76) (as := [.inr (.inr 97)]) (r := [.inl l6, .inr (.inr 138)]) (kc2 := 0) (ks2 := 0) zr_12_76 rfl (by decide) rfl rfl rfl rfl ⟨rfl, rfl⟩ ⟨rfl, rfl, rfl⟩ h (fun z2304 V2304 h => ?_)
    refine z_gk h (fun g79 h => ?_)
    refine zq_iastore (pc := 79) zr_12_79 (by decide) rfl g79 rfl h (fun W2303 h => ?_)
    refine ze_iload (pc := 80) zr_12_80 rfl ?_
    refine ze_aload_n (pc := 82) zr_12_82 rfl ?_
    refine ze_getfield (pc := 83) (v := .inr (.inr 135)) zr_12_83 rfl rfl ?_
    refine ze_iconst (pc := 86) zr_12_86 (by decide) ?_
    refine zq_aaload (pc := 87) (v := .inr (.inr 136)) zr_12_87 (by decide) rfl (by decide) rfl ?_
    refine ze_iload (pc := 88) zr_12_88 rfl ?_
    refine z_gk h (fun g90 h => ?_)
    refine zl_iaload (pc := 90) zr_12_90 rfl rfl g90 h (fun x90 h => ?_)
    refine ze_iadd (pc := 91) zr_12_91 ?_
    refine zq_istore (pc := 92) (ls2 := [some (.inr (.inr 134)), some (.inr (.inr 37)), some (.inr (.inr 97)), o3, (cond (z_o2 o4) none o4), some (.inl (z_add l5 x90)), some (.inl l6)]) zr_12_92 rfl rfl ?_
    refine zq_iinc (pc := 94) (ls2 := [some (.inr (.inr 134)), some (.inr (.inr 37)), some (.inr (.inr 97)), o3, (cond (z_o2 o4) none o4), some (.inl (z_add l5 x90)), some (.inl (z_add l6 1))]) zr_12_94 rfl rfl rfl ?_
    refine ze_goto (pc := 97) (t := 22) zr_12_97 (by decide) ?_
    exact h
  · refine ze_iload (pc := 100) zr_12_100 rfl ?_
    exact zq_ret1 (pc := 102) zr_12_102 rfl h
theorem zb13_134_37_97 {d : Nat} {Q : Int → z_M → Prop}  {V : z_M}
    (h : zI ((V 37 8) = 0) (Q 0 V) (zI ((V 37 7) = 0) (Q 0 V) (z_Ex (z_MS d) 13 Q true 21 [some (.inr (.inr 134)), some (.inr (.inr 37)), some (.inr (.inr 97)), some (.inl 0), some (.inl 0), none, none] [] 0 0 V))) :
    z_MS (d + 1) 13 true [.inr (.inr 134), .inr (.inr 37), .inr (.inr 97)] V Q := by
  show z_Ex (z_MS d) 13 Q true 0 [some (.inr (.inr 134)), some (.inr (.inr 37)), some (.inr (.inr 97)), none, none, none, none] [] 0 0 V
  refine ze_aload_n (pc := 0) zr_13_0 rfl ?_
  refine ze_getfield (pc := 1) (v := .inl (V 37 8)) zr_13_1 rfl rfl ?_
  refine zq_if_eq (pc := 4) (t := 14) zr_13_4 (by decide) (z_toif h) (fun h => ?_) (fun h => ?_)
  · refine ze_iconst (pc := 14) zr_13_14 (by decide) ?_
    exact zq_ret1 (pc := 15) zr_13_15 rfl h
  · refine ze_aload_n (pc := 7) zr_13_7 rfl ?_
    refine ze_getfield (pc := 8) (v := .inl (V 37 7)) zr_13_8 rfl rfl ?_
    refine zq_if_ne (pc := 11) (t := 16) zr_13_11 (by decide) (z_toif h) (fun h => ?_) (fun h => ?_)
    · refine ze_iconst (pc := 14) zr_13_14 (by decide) ?_
      exact zq_ret1 (pc := 15) zr_13_15 rfl h
    · refine ze_iconst (pc := 16) zr_13_16 (by decide) ?_
      refine zq_istore_n (pc := 17) (ls2 := [some (.inr (.inr 134)), some (.inr (.inr 37)), some (.inr (.inr 97)), some (.inl 0), none, none, none]) zr_13_17 rfl rfl ?_
      refine ze_iconst (pc := 18) zr_13_18 (by decide) ?_
      refine zq_istore (pc := 19) (ls2 := [some (.inr (.inr 134)), some (.inr (.inr 37)), some (.inr (.inr 97)), some (.inl 0), some (.inl 0), none, none]) zr_13_19 rfl rfl ?_
      exact h
theorem zb13_134_37_97_p21 {d : Nat} {Q : Int → z_M → Prop} (l3 : Int) (l4 : Int) (o5 : Option z_V) (o6 : Option z_V) {V : z_M}
    (h : zI (l4 < 6) (z_MS d 14 true [.inr (.inr 134), .inl (V 37 8)] V (fun z2201 V2201 => z_MS d 14 true [.inr (.inr 134), .inl (V2201 37 7)] V2201 (fun z2202 V2202 => z_MS d 59 true [.inr (.inr 97), .inl z2201, .inl z2202] V2202 (fun z2203 V2203 => zI (z2203 = 0) (z_Ex (z_MS d) 13 Q true 21 [some (.inr (.inr 134)), some (.inr (.inr 37)), some (.inr (.inr 97)), some (.inl l3), some (.inl (z_add l4 1)), some (.inl z2201), some (.inl z2202)] [] 0 0 V2203) (z_Ex (z_MS d) 13 Q true 21 [some (.inr (.inr 134)), some (.inr (.inr 37)), some (.inr (.inr 97)), some (.inl (z_add l3 1)), some (.inl (z_add l4 1)), some (.inl z2201), some (.inl z2202)] [] 0 0 V2203))))) (Q l3 V)) :
    z_Ex (z_MS d) 13 Q true 21 [some (.inr (.inr 134)), some (.inr (.inr 37)), some (.inr (.inr 97)), some (.inl l3), some (.inl l4), o5, o6] [] 0 0 V := by
  refine ze_iload (pc := 21) zr_13_21 rfl ?_
  refine ze_bipush (pc := 23) zr_13_23 (by decide) ?_
  refine zq_icmp_ge (pc := 25) (t := 68) zr_13_25 (by decide) (z_toif h) (fun h => ?_) (fun h => ?_)
  · refine ze_aload_n (pc := 28) zr_13_28 rfl ?_
    refine ze_aload_n (pc := 29) zr_13_29 rfl ?_
    refine ze_getfield (pc := 30) (v := .inl (V 37 8)) zr_13_30 rfl rfl ?_
    refine zq_callV1 (pc := 33) (as := [.inr (.inr 134), .inl (V 37 8)]) (r := []) (kc2 := 0) (ks2 := 0) zr_13_33 rfl (by decide) rfl rfl rfl rfl ⟨rfl, rfl⟩ ⟨rfl, rfl, rfl⟩ h (fun z2201 V2201 h => ?_)
    refine zq_istore (pc := 36) (ls2 := [some (.inr (.inr 134)), some (.inr (.inr 37)), some (.inr (.inr 97)), some (.inl l3), some (.inl l4), some (.inl z2201), o6]) zr_13_36 rfl rfl ?_
    refine ze_aload_n (pc := 38) zr_13_38 rfl ?_
    refine ze_aload_n (pc := 39) zr_13_39 rfl ?_
    refine ze_getfield (pc := 40) (v := .inl (V2201 37 7)) zr_13_40 rfl rfl ?_
    refine zq_callV1 (pc := 43) (as := [.inr (.inr 134), .inl (V2201 37 7)]) (r := []) (kc2 := 0) (ks2 := 0) zr_13_43 rfl (by decide) rfl rfl rfl rfl ⟨rfl, rfl⟩ ⟨rfl, rfl, rfl⟩ h (fun z2202 V2202 h => ?_)
    refine zq_istore (pc := 46) (ls2 := [some (.inr (.inr 134)), some (.inr (.inr 37)), some (.inr (.inr 97)), some (.inl l3), some (.inl l4), some (.inl z2201), some (.inl z2202)]) zr_13_46 rfl rfl ?_
    refine ze_aload_n (pc := 48) zr_13_48 rfl ?_
    refine ze_iload (pc := 49) zr_13_49 rfl ?_
    refine ze_iload (pc := 51) zr_13_51 rfl ?_
    refine zq_callV1 (pc := 53) (as := [.inr (.inr 97), .inl z2201, .inl z2202]) (r := []) (kc2 := 0) (ks2 := 0) zr_13_53 rfl (by decide) rfl rfl rfl rfl ⟨rfl, rfl⟩ ⟨rfl, rfl, rfl⟩ h (fun z2203 V2203 h => ?_)
    refine zq_if_eq (pc := 56) (t := 62) zr_13_56 (by decide) (z_toif h) (fun h => ?_) (fun h => ?_)
    · refine zq_iinc (pc := 62) (ls2 := [some (.inr (.inr 134)), some (.inr (.inr 37)), some (.inr (.inr 97)), some (.inl l3), some (.inl (z_add l4 1)), some (.inl z2201), some (.inl z2202)]) zr_13_62 rfl rfl rfl ?_
      refine ze_goto (pc := 65) (t := 21) zr_13_65 (by decide) ?_
      exact h
    · refine zq_iinc (pc := 59) (ls2 := [some (.inr (.inr 134)), some (.inr (.inr 37)), some (.inr (.inr 97)), some (.inl (z_add l3 1)), some (.inl l4), some (.inl z2201), some (.inl z2202)]) zr_13_59 rfl rfl rfl ?_
      refine zq_iinc (pc := 62) (ls2 := [some (.inr (.inr 134)), some (.inr (.inr 37)), some (.inr (.inr 97)), some (.inl (z_add l3 1)), some (.inl (z_add l4 1)), some (.inl z2201), some (.inl z2202)]) zr_13_62 rfl rfl rfl ?_
      refine ze_goto (pc := 65) (t := 21) zr_13_65 (by decide) ?_
      exact h
  · refine ze_iload_n (pc := 68) zr_13_68 rfl ?_
    exact zq_ret1 (pc := 69) zr_13_69 rfl h
theorem zb14_134 {d : Nat} {Q : Int → z_M → Prop} (a0 : Int) {V : z_M}
    (h : ∀ W1, W1 = z_up V 134 2 (z_rem (z_add (z_mul (V 134 2) 1103) 12345) 1000003) → zI (0 < a0) (zGu (¬ a0 = 0) (Q (z_rem (W1 134 2) a0) W1)) (Q 0 W1)) :
    z_MS (d + 1) 14 true [.inr (.inr 134), .inl a0] V Q := by
  show z_Ex (z_MS d) 14 Q true 0 [some (.inr (.inr 134)), some (.inl a0)] [] 0 0 V
  refine ze_aload_n (pc := 0) zr_14_0 rfl ?_
  refine ze_aload_n (pc := 1) zr_14_1 rfl ?_
  refine ze_getfield (pc := 2) (v := .inl (V 134 2)) zr_14_2 rfl rfl ?_
  refine ze_sipush (pc := 5) zr_14_5 (by decide) ?_
  refine ze_imul (pc := 8) zr_14_8 ?_
  refine ze_sipush (pc := 9) zr_14_9 (by decide) ?_
  refine ze_iadd (pc := 12) zr_14_12 ?_
  refine ze_ldc (pc := 13) (z := 1000003) zr_14_13 rfl (by decide) rfl ?_
  refine ze_irem (pc := 15) zr_14_15 (by decide) ?_
  refine zq_putI (pc := 16) zr_14_16 (by decide) rfl h (fun W1 h => ?_)
  refine ze_iload_n (pc := 19) zr_14_19 rfl ?_
  refine zq_if_le (pc := 20) (t := 32) zr_14_20 (by decide) (z_toif h) (fun h => ?_) (fun h => ?_)
  · refine ze_aload_n (pc := 23) zr_14_23 rfl ?_
    refine ze_getfield (pc := 24) (v := .inl (W1 134 2)) zr_14_24 rfl rfl ?_
    refine ze_iload_n (pc := 27) zr_14_27 rfl ?_
    refine z_gk h (fun g28 h => ?_)
    refine ze_irem (pc := 28) zr_14_28 g28 ?_
    refine ze_goto (pc := 29) (t := 33) zr_14_29 (by decide) ?_
    exact zq_ret1 (pc := 33) zr_14_33 rfl h
  · refine ze_iconst (pc := 32) zr_14_32 (by decide) ?_
    exact zq_ret1 (pc := 33) zr_14_33 rfl h
theorem zb16_94_37 {d : Nat} {Q : Int → z_M → Prop} (a1 : Int) (a2 : Int) (a3 : Int) (a4 : Int) {V : z_M}
    (h : z_MS d 76 true [.inr (.inr 37), .inl a1] V (fun z1 V1 => zI (z1 = 0) (Q 0 V1) (z_MS d 75 true [.inr (.inr 37), .inl a2] V1 (fun z2 V2 => zI (z2 = 0) (Q 0 V2) (∀ W1, W1 = z_up V2 95 0 a1 → ∀ W2, W2 = z_up W1 95 1 a3 → zGu (0 ≤ a2 ∧ a2 < 12) (∀ x45 : Int, x45 = W2 39 a2.toNat → ∀ W3, W3 = z_up W2 95 2 x45 → ∀ W4, W4 = z_up W3 95 3 a4 → zGu (0 ≤ a1 ∧ a1 < 6) (∀ x67 : Int, x67 = W4 45 a1.toNat → ∀ W5, W5 = z_up W4 95 4 x67 → zGu (0 ≤ a1 ∧ a1 < 6) (∀ x81 : Int, x81 = W5 44 a1.toNat → ∀ W6, W6 = z_up W5 95 5 x81 → ∀ W7, W7 = z_up W6 95 6 (W6 46 0) → zGu (0 ≤ a2 ∧ a2 < 12) (∀ x109 : Int, x109 = W7 41 a2.toNat → ∀ W8, W8 = z_up W7 95 7 x109 → zGu (0 ≤ a2 ∧ a2 < 12) (∀ x124 : Int, x124 = W8 40 a2.toNat → ∀ W9, W9 = z_up W8 95 8 x124 → z_MS d 85 true [.inr (.inr 37)] W9 (fun z3 V3 => ∀ W10, W10 = z_up V3 94 6 (V3 95 8) → ∀ W11, W11 = z_up W10 94 5 0 → zGu (¬ (z3.toNat) = 7) (zI ((z3.toNat) = 0) (z_Ex (z_MS d) 16 Q true 171 [some (.inr (.inr 94)), some (.inr (.inr 37)), some (.inl a1), some (.inl a2), some (.inl a3), some (.inl a4), some (.inr (.inr (z3.toNat))), some (.inl 0), some (.inl 0)] [] 0 0 W11) (zGu (z_kd (z3.toNat) = 4 + 1) (zGu (101 ≤ z_kd (z_rr true W11 (z3.toNat) 2)) (z_Ex (z_MS d) 16 Q true 171 [some (.inr (.inr 94)), some (.inr (.inr 37)), some (.inl a1), some (.inl a2), some (.inl a3), some (.inl a4), some (.inr (.inr (z3.toNat))), some (.inl (z_sub (z_len' W11 (z_rr true W11 (z3.toNat) 2)) 1)), some (.inl 0)] [] 0 0 W11))))))))))))))) :
    z_MS (d + 1) 16 true [.inr (.inr 94), .inr (.inr 37), .inl a1, .inl a2, .inl a3, .inl a4] V Q := by
  show z_Ex (z_MS d) 16 Q true 0 [some (.inr (.inr 94)), some (.inr (.inr 37)), some (.inl a1), some (.inl a2), some (.inl a3), some (.inl a4), none, none, none] [] 0 0 V
  refine ze_aload_n (pc := 0) zr_16_0 rfl ?_
  refine ze_iload_n (pc := 1) zr_16_1 rfl ?_
  refine zq_callV1 (pc := 2) (as := [.inr (.inr 37), .inl a1]) (r := []) (kc2 := 0) (ks2 := 0) zr_16_2 rfl (by decide) rfl rfl rfl rfl ⟨rfl, rfl⟩ ⟨rfl, rfl, rfl⟩ h (fun z1 V1 h => ?_)
  refine zq_if_eq (pc := 5) (t := 16) zr_16_5 (by decide) (z_toif h) (fun h => ?_) (fun h => ?_)
  · refine ze_iconst (pc := 16) zr_16_16 (by decide) ?_
    exact zq_ret4 (pc := 17) zr_16_17 rfl (by decide) h
  · refine ze_aload_n (pc := 8) zr_16_8 rfl ?_
    refine ze_iload_n (pc := 9) zr_16_9 rfl ?_
    refine zq_callV1 (pc := 10) (as := [.inr (.inr 37), .inl a2]) (r := []) (kc2 := 0) (ks2 := 0) zr_16_10 rfl (by decide) rfl rfl rfl rfl ⟨rfl, rfl⟩ ⟨rfl, rfl, rfl⟩ h (fun z2 V2 h => ?_)
    refine zq_if_ne (pc := 13) (t := 18) zr_16_13 (by decide) (z_toif h) (fun h => ?_) (fun h => ?_)
    · refine ze_iconst (pc := 16) zr_16_16 (by decide) ?_
      exact zq_ret4 (pc := 17) zr_16_17 rfl (by decide) h
    · refine ze_aload_n (pc := 18) zr_16_18 rfl ?_
      refine ze_getfield (pc := 19) (v := .inr (.inr 95)) zr_16_19 rfl rfl ?_
      refine ze_iconst (pc := 22) zr_16_22 (by decide) ?_
      refine ze_iload_n (pc := 23) zr_16_23 rfl ?_
      refine zq_iastore (pc := 24) zr_16_24 (by decide) rfl (by decide) rfl h (fun W1 h => ?_)
      refine ze_aload_n (pc := 25) zr_16_25 rfl ?_
      refine ze_getfield (pc := 26) (v := .inr (.inr 95)) zr_16_26 rfl rfl ?_
      refine ze_iconst (pc := 29) zr_16_29 (by decide) ?_
      refine ze_iload (pc := 30) zr_16_30 rfl ?_
      refine zq_iastore (pc := 32) zr_16_32 (by decide) rfl (by decide) rfl h (fun W2 h => ?_)
      refine ze_aload_n (pc := 33) zr_16_33 rfl ?_
      refine ze_getfield (pc := 34) (v := .inr (.inr 95)) zr_16_34 rfl rfl ?_
      refine ze_iconst (pc := 37) zr_16_37 (by decide) ?_
      refine ze_aload_n (pc := 38) zr_16_38 rfl ?_
      refine ze_getfield (pc := 39) (v := .inr (.inr 38)) zr_16_39 rfl rfl ?_
      refine ze_iconst (pc := 42) zr_16_42 (by decide) ?_
      refine zq_aaload (pc := 43) (v := .inr (.inr 39)) zr_16_43 (by decide) rfl (by decide) rfl ?_
      refine ze_iload_n (pc := 44) zr_16_44 rfl ?_
      refine z_gk h (fun g45 h => ?_)
      refine zl_iaload (pc := 45) zr_16_45 rfl rfl g45 h (fun x45 h => ?_)
      refine zq_iastore (pc := 46) zr_16_46 (by decide) rfl (by decide) rfl h (fun W3 h => ?_)
      refine ze_aload_n (pc := 47) zr_16_47 rfl ?_
      refine ze_getfield (pc := 48) (v := .inr (.inr 95)) zr_16_48 rfl rfl ?_
      refine ze_iconst (pc := 51) zr_16_51 (by decide) ?_
      refine ze_iload (pc := 52) zr_16_52 rfl ?_
      refine zq_iastore (pc := 54) zr_16_54 (by decide) rfl (by decide) rfl h (fun W4 h => ?_)
      refine ze_aload_n (pc := 55) zr_16_55 rfl ?_
      refine ze_getfield (pc := 56) (v := .inr (.inr 95)) zr_16_56 rfl rfl ?_
      refine ze_iconst (pc := 59) zr_16_59 (by decide) ?_
      refine ze_aload_n (pc := 60) zr_16_60 rfl ?_
      refine ze_getfield (pc := 61) (v := .inr (.inr 43)) zr_16_61 rfl rfl ?_
      refine ze_iconst (pc := 64) zr_16_64 (by decide) ?_
      refine zq_aaload (pc := 65) (v := .inr (.inr 45)) zr_16_65 (by decide) rfl (by decide) rfl ?_
      refine ze_iload_n (pc := 66) zr_16_66 rfl ?_
      refine z_gk h (fun g67 h => ?_)
      refine zl_iaload (pc := 67) zr_16_67 rfl rfl g67 h (fun x67 h => ?_)
      refine zq_iastore (pc := 68) zr_16_68 (by decide) rfl (by decide) rfl h (fun W5 h => ?_)
      refine ze_aload_n (pc := 69) zr_16_69 rfl ?_
      refine ze_getfield (pc := 70) (v := .inr (.inr 95)) zr_16_70 rfl rfl ?_
      refine ze_iconst (pc := 73) zr_16_73 (by decide) ?_
      refine ze_aload_n (pc := 74) zr_16_74 rfl ?_
      refine ze_getfield (pc := 75) (v := .inr (.inr 43)) zr_16_75 rfl rfl ?_
      refine ze_iconst (pc := 78) zr_16_78 (by decide) ?_
      refine zq_aaload (pc := 79) (v := .inr (.inr 44)) zr_16_79 (by decide) rfl (by decide) rfl ?_
      refine ze_iload_n (pc := 80) zr_16_80 rfl ?_
      refine z_gk h (fun g81 h => ?_)
      refine zl_iaload (pc := 81) zr_16_81 rfl rfl g81 h (fun x81 h => ?_)
      refine zq_iastore (pc := 82) zr_16_82 (by decide) rfl (by decide) rfl h (fun W6 h => ?_)
      refine ze_aload_n (pc := 83) zr_16_83 rfl ?_
      refine ze_getfield (pc := 84) (v := .inr (.inr 95)) zr_16_84 rfl rfl ?_
      refine ze_bipush (pc := 87) zr_16_87 (by decide) ?_
      refine ze_aload_n (pc := 89) zr_16_89 rfl ?_
      refine ze_getfield (pc := 90) (v := .inr (.inr 46)) zr_16_90 rfl rfl ?_
      refine ze_iconst (pc := 93) zr_16_93 (by decide) ?_
      refine zq_iaload (pc := 94) (v := .inl (W6 46 0)) zr_16_94 rfl rfl (by decide) rfl ?_
      refine zq_iastore (pc := 95) zr_16_95 (by decide) rfl (by decide) rfl h (fun W7 h => ?_)
      refine ze_aload_n (pc := 96) zr_16_96 rfl ?_
      refine ze_getfield (pc := 97) (v := .inr (.inr 95)) zr_16_97 rfl rfl ?_
      refine ze_bipush (pc := 100) zr_16_100 (by decide) ?_
      refine ze_aload_n (pc := 102) zr_16_102 rfl ?_
      refine ze_getfield (pc := 103) (v := .inr (.inr 38)) zr_16_103 rfl rfl ?_
      refine ze_iconst (pc := 106) zr_16_106 (by decide) ?_
      refine zq_aaload (pc := 107) (v := .inr (.inr 41)) zr_16_107 (by decide) rfl (by decide) rfl ?_
      refine ze_iload_n (pc := 108) zr_16_108 rfl ?_
      refine z_gk h (fun g109 h => ?_)
      refine zl_iaload (pc := 109) zr_16_109 rfl rfl g109 h (fun x109 h => ?_)
      refine zq_iastore (pc := 110) zr_16_110 (by decide) rfl (by decide) rfl h (fun W8 h => ?_)
      refine ze_aload_n (pc := 111) zr_16_111 rfl ?_
      refine ze_getfield (pc := 112) (v := .inr (.inr 95)) zr_16_112 rfl rfl ?_
      refine ze_bipush (pc := 115) zr_16_115 (by decide) ?_
      refine ze_aload_n (pc := 117) zr_16_117 rfl ?_
      refine ze_getfield (pc := 118) (v := .inr (.inr 38)) zr_16_118 rfl rfl ?_
      refine ze_iconst (pc := 121) zr_16_121 (by decide) ?_
      refine zq_aaload (pc := 122) (v := .inr (.inr 40)) zr_16_122 (by decide) rfl (by decide) rfl ?_
      refine ze_iload_n (pc := 123) zr_16_123 rfl ?_
      refine z_gk h (fun g124 h => ?_)
      refine zl_iaload (pc := 124) zr_16_124 rfl rfl g124 h (fun x124 h => ?_)
      refine zq_iastore (pc := 125) zr_16_125 (by decide) rfl (by decide) rfl h (fun W9 h => ?_)
      refine ze_aload_n (pc := 126) zr_16_126 rfl ?_
      refine zq_callV3 (pc := 127) (as := [.inr (.inr 37)]) (r := []) (kc2 := 0) (ks2 := 0) zr_16_127 rfl (by decide) rfl rfl rfl rfl ⟨rfl, rfl⟩ ⟨rfl, rfl, rfl⟩ h (fun z3 V3 h => ?_)
      refine zq_astore (pc := 130) (ls2 := [some (.inr (.inr 94)), some (.inr (.inr 37)), some (.inl a1), some (.inl a2), some (.inl a3), some (.inl a4), some (.inr (.inr (z3.toNat))), none, none]) zr_16_130 rfl rfl ?_
      refine ze_aload_n (pc := 132) zr_16_132 rfl ?_
      refine ze_aload_n (pc := 133) zr_16_133 rfl ?_
      refine ze_getfield (pc := 134) (v := .inr (.inr 95)) zr_16_134 rfl rfl ?_
      refine ze_bipush (pc := 137) zr_16_137 (by decide) ?_
      refine zq_iaload (pc := 139) (v := .inl (V3 95 8)) zr_16_139 rfl rfl (by decide) rfl ?_
      refine ze_i2l (pc := 140) zr_16_140 ?_
      refine zq_putL (pc := 141) zr_16_141 (by decide) rfl h (fun W10 h => ?_)
      refine ze_aload_n (pc := 144) zr_16_144 rfl ?_
      refine ze_iconst (pc := 145) zr_16_145 (by decide) ?_
      refine zq_putZ (pc := 146) zr_16_146 (by decide) rfl (by decide) h (fun W11 h => ?_)
      refine ze_aload (pc := 149) zr_16_149 rfl ?_
      refine z_gk h (fun g151 h => ?_)
      refine zq_ifnonnull (pc := 151) (t := 158) zr_16_151 (by decide) g151 (z_toif h) (fun h => ?_) (fun h => ?_)
      · refine ze_iconst (pc := 154) zr_16_154 (by decide) ?_
        refine ze_goto (pc := 155) (t := 166) zr_16_155 (by decide) ?_
        refine zq_istore (pc := 166) (ls2 := [some (.inr (.inr 94)), some (.inr (.inr 37)), some (.inl a1), some (.inl a2), some (.inl a3), some (.inl a4), some (.inr (.inr (z3.toNat))), some (.inl 0), none]) zr_16_166 rfl rfl ?_
        refine ze_iconst (pc := 168) zr_16_168 (by decide) ?_
        refine zq_istore (pc := 169) (ls2 := [some (.inr (.inr 94)), some (.inr (.inr 37)), some (.inl a1), some (.inl a2), some (.inl a3), some (.inl a4), some (.inr (.inr (z3.toNat))), some (.inl 0), some (.inl 0)]) zr_16_169 rfl rfl ?_
        exact h
      · refine ze_aload (pc := 158) zr_16_158 rfl ?_
        refine z_gk h (fun g160 h => ?_)
        refine ze_getfield (pc := 160) (v := .inr (.inr (z_rr true W11 (z3.toNat) 2))) zr_16_160 g160 rfl ?_
        refine z_gk h (fun g163 h => ?_)
        refine ze_length (pc := 163) (z := z_len' W11 (z_rr true W11 (z3.toNat) 2)) zr_16_163 g163 rfl ?_
        refine ze_iconst (pc := 164) zr_16_164 (by decide) ?_
        refine ze_isub (pc := 165) zr_16_165 ?_
        refine zq_istore (pc := 166) (ls2 := [some (.inr (.inr 94)), some (.inr (.inr 37)), some (.inl a1), some (.inl a2), some (.inl a3), some (.inl a4), some (.inr (.inr (z3.toNat))), some (.inl (z_sub (z_len' W11 (z_rr true W11 (z3.toNat) 2)) 1)), none]) zr_16_166 rfl rfl ?_
        refine ze_iconst (pc := 168) zr_16_168 (by decide) ?_
        refine zq_istore (pc := 169) (ls2 := [some (.inr (.inr 94)), some (.inr (.inr 37)), some (.inl a1), some (.inl a2), some (.inl a3), some (.inl a4), some (.inr (.inr (z3.toNat))), some (.inl (z_sub (z_len' W11 (z_rr true W11 (z3.toNat) 2)) 1)), some (.inl 0)]) zr_16_169 rfl rfl ?_
        exact h
theorem zb16_94_37_p171 {d : Nat} {Q : Int → z_M → Prop} (o1 : Option z_V) (o2 : Option z_V) (o3 : Option z_V) (o4 : Option z_V) (o5 : Option z_V) (l6 : Nat) (l7 : Int) (l8 : Int) {V : z_M}
    (h : zI (l8 < l7) (zGu (z_kd l6 = 4 + 1) (zGu (z_kd (z_rr true V l6 2) = 101) (zGu (0 ≤ l8 ∧ l8 < z_len' V (z_rr true V l6 2)) (∀ x188 : Int, x188 = V (z_rr true V l6 2) l8.toNat → zGu (z_kd l6 = 4 + 1) (zGu (z_kd (z_rr true V l6 2) = 101) (zGu (0 ≤ (z_add l8 1) ∧ (z_add l8 1) < z_len' V (z_rr true V l6 2)) (∀ x198 : Int, x198 = V (z_rr true V l6 2) (z_add l8 1).toNat → z_MS d 17 true [.inr (.inr 94), .inr (.inr l6), .inl x188, .inl x198] V (fun z17201 V17201 => z_Ex (z_MS d) 16 Q true 171 [some (.inr (.inr 94)), o1, o2, o3, o4, o5, some (.inr (.inr l6)), some (.inl l7), some (.inl (z_add l8 1))] [] 0 0 V17201)))))))) (Q (if (V 94 5) = 0 then (if (z_lcmp (V 94 6) (V 95 4)) < 0 then 0 else 1) else 0) V)) :
    z_Ex (z_MS d) 16 Q true 171 [some (.inr (.inr 94)), o1, o2, o3, o4, o5, some (.inr (.inr l6)), some (.inl l7), some (.inl l8)] [] 0 0 V := by
  refine ze_iload (pc := 171) zr_16_171 rfl ?_
  refine ze_iload (pc := 173) zr_16_173 rfl ?_
  refine zq_icmp_ge (pc := 175) (t := 208) zr_16_175 (by decide) (z_toif h) (fun h => ?_) (fun h => ?_)
  · refine ze_aload_n (pc := 178) zr_16_178 rfl ?_
    refine ze_aload (pc := 179) zr_16_179 rfl ?_
    refine ze_aload (pc := 181) zr_16_181 rfl ?_
    refine z_gk h (fun g183 h => ?_)
    refine ze_getfield (pc := 183) (v := .inr (.inr (z_rr true V l6 2))) zr_16_183 g183 rfl ?_
    refine ze_iload (pc := 186) zr_16_186 rfl ?_
    refine z_gk h (fun k188 h => ?_)
    refine z_gk h (fun g188 h => ?_)
    refine zl_ialoadv (pc := 188) zr_16_188 k188 g188 h (fun x188 h => ?_)
    refine ze_aload (pc := 189) zr_16_189 rfl ?_
    refine z_gk h (fun g191 h => ?_)
    refine ze_getfield (pc := 191) (v := .inr (.inr (z_rr true V l6 2))) zr_16_191 g191 rfl ?_
    refine ze_iload (pc := 194) zr_16_194 rfl ?_
    refine ze_iconst (pc := 196) zr_16_196 (by decide) ?_
    refine ze_iadd (pc := 197) zr_16_197 ?_
    refine z_gk h (fun k198 h => ?_)
    refine z_gk h (fun g198 h => ?_)
    refine zl_ialoadv (pc := 198) zr_16_198 k198 g198 h (fun x198 h => ?_)
    refine zq_callV0 (pc := 199) (as := [.inr (.inr 94), .inr (.inr l6), .inl x188, .inl x198]) (r := []) (kc2 := 0) (ks2 := 0) zr_16_199 rfl (by decide) rfl rfl rfl rfl ⟨rfl, rfl⟩ rfl h (fun z17201 V17201 h => ?_)
    refine zq_iinc (pc := 202) (ls2 := [some (.inr (.inr 94)), o1, o2, o3, o4, o5, some (.inr (.inr l6)), some (.inl l7), some (.inl (z_add l8 1))]) zr_16_202 rfl rfl rfl ?_
    refine ze_goto (pc := 205) (t := 171) zr_16_205 (by decide) ?_
    exact h
  · refine ze_aload_n (pc := 208) zr_16_208 rfl ?_
    refine ze_getfield (pc := 209) (v := .inl (V 94 5)) zr_16_209 rfl rfl ?_
    have j212 : z_Ex (z_MS d) 16 Q true 235 [some (.inr (.inr 94)), o1, o2, o3, o4, o5, some (.inr (.inr l6)), some (.inl l7), some (.inl l8)] [.inl (if (V 94 5) = 0 then (if (z_lcmp (V 94 6) (V 95 4)) < 0 then 0 else 1) else 0)] 0 0 V := by
      exact zq_ret4 (pc := 235) zr_16_235 rfl (by (repeat' split) <;> decide) h
    refine ze_if_ne (pc := 212) (t := 234) zr_16_212 (by decide) (fun hc => ?_) (fun hc => ?_)
    · rw [if_pos (show (V 94 5) = 0 from hc)] at j212
      refine ze_aload_n (pc := 215) zr_16_215 rfl ?_
      refine ze_getfield (pc := 216) (v := .inr (.inl (V 94 6))) zr_16_216 rfl rfl ?_
      refine ze_aload_n (pc := 219) zr_16_219 rfl ?_
      refine ze_getfield (pc := 220) (v := .inr (.inr 95)) zr_16_220 rfl rfl ?_
      refine ze_iconst (pc := 223) zr_16_223 (by decide) ?_
      refine zq_iaload (pc := 224) (v := .inl (V 95 4)) zr_16_224 rfl rfl (by decide) rfl ?_
      refine ze_i2l (pc := 225) zr_16_225 ?_
      refine ze_lcmp (pc := 226) zr_16_226 ?_
      refine ze_if_lt (pc := 227) (t := 234) zr_16_227 (by decide) (fun hc => ?_) (fun hc => ?_)
      · rw [if_pos (show (z_lcmp (V 94 6) (V 95 4)) < 0 from hc)] at j212
        refine ze_iconst (pc := 234) zr_16_234 (by decide) ?_
        exact j212
      · rw [if_neg (show ¬ ((z_lcmp (V 94 6) (V 95 4)) < 0) from hc)] at j212
        refine ze_iconst (pc := 230) zr_16_230 (by decide) ?_
        refine ze_goto (pc := 231) (t := 235) zr_16_231 (by decide) ?_
        exact j212
    · rw [if_neg (show ¬ ((V 94 5) = 0) from hc)] at j212
      refine ze_iconst (pc := 234) zr_16_234 (by decide) ?_
      exact j212
theorem zb17_94_v {d : Nat} {Q : Int → z_M → Prop} (a0 : Nat) (a1 : Int) (a2 : Int) {V : z_M}
    (h : ∀ W1, W1 = z_up V 94 2 0 → ∀ W2, W2 = z_up W1 94 4 0 → ∀ W3, W3 = z_up W2 94 3 a1 → z_Ex (z_MS d) 17 Q true 18 [some (.inr (.inr 94)), some (.inr (.inr a0)), some (.inl a1), some (.inl a2), some (.inl a1)] [] 0 0 W3) :
    z_MS (d + 1) 17 true [.inr (.inr 94), .inr (.inr a0), .inl a1, .inl a2] V Q := by
  show z_Ex (z_MS d) 17 Q true 0 [some (.inr (.inr 94)), some (.inr (.inr a0)), some (.inl a1), some (.inl a2), none] [] 0 0 V
  refine ze_aload_n (pc := 0) zr_17_0 rfl ?_
  refine ze_iconst (pc := 1) zr_17_1 (by decide) ?_
  refine zq_putI (pc := 2) zr_17_2 (by decide) rfl h (fun W1 h => ?_)
  refine ze_aload_n (pc := 5) zr_17_5 rfl ?_
  refine ze_iconst (pc := 6) zr_17_6 (by decide) ?_
  refine zq_putZ (pc := 7) zr_17_7 (by decide) rfl (by decide) h (fun W2 h => ?_)
  refine ze_aload_n (pc := 10) zr_17_10 rfl ?_
  refine ze_iload_n (pc := 11) zr_17_11 rfl ?_
  refine zq_putI (pc := 12) zr_17_12 (by decide) rfl h (fun W3 h => ?_)
  refine ze_iload_n (pc := 15) zr_17_15 rfl ?_
  refine zq_istore (pc := 16) (ls2 := [some (.inr (.inr 94)), some (.inr (.inr a0)), some (.inl a1), some (.inl a2), some (.inl a1)]) zr_17_16 rfl rfl ?_
  exact h
theorem zb17_94_v_p18 {d : Nat} {Q : Int → z_M → Prop} (l1 : Nat) (o2 : Option z_V) (l3 : Int) (l4 : Int) {V : z_M}
    (h : zI (l4 < l3) (zGu (z_kd l1 = 4 + 1) (zGu (101 ≤ z_kd (z_rr true V l1 0)) (zI (l4 < (z_len' V (z_rr true V l1 0))) (zI ((V 94 4) = 0) (zI (l4 < (V 94 3)) (z_Ex (z_MS d) 17 Q true 18 [some (.inr (.inr 94)), some (.inr (.inr l1)), o2, some (.inl l3), some (.inl (z_add l4 1))] [] 0 0 V) (zGu (z_kd l1 = 4 + 1) (zGu (z_kd (z_rr true V l1 0) = 101) (zGu (0 ≤ l4 ∧ l4 < z_len' V (z_rr true V l1 0)) (∀ x57 : Int, x57 = V (z_rr true V l1 0) l4.toNat → zGu (z_kd l1 = 4 + 1) (zGu (z_kd (z_rr true V l1 1) = 101) (zGu (0 ≤ l4 ∧ l4 < z_len' V (z_rr true V l1 1)) (∀ x64 : Int, x64 = V (z_rr true V l1 1) l4.toNat → z_MS d 18 true [.inr (.inr 94), .inl x57, .inl x64, .inl l3] V (fun z1901 V1901 => z_Ex (z_MS d) 17 Q true 18 [some (.inr (.inr 94)), some (.inr (.inr l1)), o2, some (.inl l3), some (.inl (z_add l4 1))] [] 0 0 V1901))))))))) (Q 0 V)) (Q 0 V)))) (Q 0 V)) :
    z_Ex (z_MS d) 17 Q true 18 [some (.inr (.inr 94)), some (.inr (.inr l1)), o2, some (.inl l3), some (.inl l4)] [] 0 0 V := by
  refine ze_iload (pc := 18) zr_17_18 rfl ?_
  refine ze_iload_n (pc := 20) zr_17_20 rfl ?_
  refine zq_icmp_ge (pc := 21) (t := 75) zr_17_21 (by decide) (z_toif h) (fun h => ?_) (fun h => ?_)
  · refine ze_iload (pc := 24) zr_17_24 rfl ?_
    refine ze_aload_n (pc := 26) zr_17_26 rfl ?_
    refine z_gk h (fun g27 h => ?_)
    refine ze_getfield (pc := 27) (v := .inr (.inr (z_rr true V l1 0))) zr_17_27 g27 rfl ?_
    refine z_gk h (fun g30 h => ?_)
    refine ze_length (pc := 30) (z := z_len' V (z_rr true V l1 0)) zr_17_30 g30 rfl ?_
    refine zq_icmp_ge (pc := 31) (t := 75) zr_17_31 (by decide) (z_toif h) (fun h => ?_) (fun h => ?_)
    · refine ze_aload_n (pc := 34) zr_17_34 rfl ?_
      refine ze_getfield (pc := 35) (v := .inl (V 94 4)) zr_17_35 rfl rfl ?_
      refine zq_if_ne (pc := 38) (t := 75) zr_17_38 (by decide) (z_toif h) (fun h => ?_) (fun h => ?_)
      · refine ze_iload (pc := 41) zr_17_41 rfl ?_
        refine ze_aload_n (pc := 43) zr_17_43 rfl ?_
        refine ze_getfield (pc := 44) (v := .inl (V 94 3)) zr_17_44 rfl rfl ?_
        refine zq_icmp_lt (pc := 47) (t := 69) zr_17_47 (by decide) (z_toif h) (fun h => ?_) (fun h => ?_)
        · refine zq_iinc (pc := 69) (ls2 := [some (.inr (.inr 94)), some (.inr (.inr l1)), o2, some (.inl l3), some (.inl (z_add l4 1))]) zr_17_69 rfl rfl rfl ?_
          refine ze_goto (pc := 72) (t := 18) zr_17_72 (by decide) ?_
          exact h
        · refine ze_aload_n (pc := 50) zr_17_50 rfl ?_
          refine ze_aload_n (pc := 51) zr_17_51 rfl ?_
          refine z_gk h (fun g52 h => ?_)
          refine ze_getfield (pc := 52) (v := .inr (.inr (z_rr true V l1 0))) zr_17_52 g52 rfl ?_
          refine ze_iload (pc := 55) zr_17_55 rfl ?_
          refine z_gk h (fun k57 h => ?_)
          refine z_gk h (fun g57 h => ?_)
          refine zl_ialoadv (pc := 57) zr_17_57 k57 g57 h (fun x57 h => ?_)
          refine ze_aload_n (pc := 58) zr_17_58 rfl ?_
          refine z_gk h (fun g59 h => ?_)
          refine ze_getfield (pc := 59) (v := .inr (.inr (z_rr true V l1 1))) zr_17_59 g59 rfl ?_
          refine ze_iload (pc := 62) zr_17_62 rfl ?_
          refine z_gk h (fun k64 h => ?_)
          refine z_gk h (fun g64 h => ?_)
          refine zl_ialoadv (pc := 64) zr_17_64 k64 g64 h (fun x64 h => ?_)
          refine ze_iload_n (pc := 65) zr_17_65 rfl ?_
          refine zq_callV0 (pc := 66) (as := [.inr (.inr 94), .inl x57, .inl x64, .inl l3]) (r := []) (kc2 := 0) (ks2 := 0) zr_17_66 rfl (by decide) rfl rfl rfl rfl ⟨rfl, rfl⟩ rfl h (fun z1901 V1901 h => ?_)
          refine zq_iinc (pc := 69) (ls2 := [some (.inr (.inr 94)), some (.inr (.inr l1)), o2, some (.inl l3), some (.inl (z_add l4 1))]) zr_17_69 rfl rfl rfl ?_
          refine ze_goto (pc := 72) (t := 18) zr_17_72 (by decide) ?_
          exact h
      · exact ze_vret (pc := 75) zr_17_75 rfl h
    · exact ze_vret (pc := 75) zr_17_75 rfl h
  · exact ze_vret (pc := 75) zr_17_75 rfl h
theorem zb18_94 {d : Nat} {Q : Int → z_M → Prop} (a0 : Int) (a1 : Int) (a2 : Int) {V : z_M}
    (h : zI (a0 = 0) (z_MS d 21 true [.inr (.inr 94), .inr (.inl a1)] V (fun z10 V10 => Q 0 V10)) (zI (a0 = 1) (z_MS d 133 true [.inl a1, .inl 0, .inl (z_sub 9 1)] V (fun z7 V7 => zI (z7 = 0) (z_MS d 21 true [.inr (.inr 94), .inr (.inl 0)] V7 (fun z8 V8 => Q 0 V8)) (zGu (0 ≤ a1 ∧ a1 < 9) (∀ x106 : Int, x106 = V7 95 a1.toNat → z_MS d 21 true [.inr (.inr 94), .inr (.inl x106)] V7 (fun z9 V9 => Q 0 V9))))) (zI (a0 = 2) (z_Ex (z_MS d) 18 Q true 192 [some (.inr (.inr 94)), some (.inl a0), some (.inl a1), some (.inl a2), none, none, none, none] [] 0 0 V) (zI (a0 = 3) (z_Ex (z_MS d) 18 Q true 192 [some (.inr (.inr 94)), some (.inl a0), some (.inl a1), some (.inl a2), none, none, none, none] [] 0 0 V) (zI (a0 = 4) (z_Ex (z_MS d) 18 Q true 192 [some (.inr (.inr 94)), some (.inl a0), some (.inl a1), some (.inl a2), none, none, none, none] [] 0 0 V) (zI (a0 = 5) (z_Ex (z_MS d) 18 Q true 192 [some (.inr (.inr 94)), some (.inl a0), some (.inl a1), some (.inl a2), none, none, none, none] [] 0 0 V) (zI (a0 = 6) (z_Ex (z_MS d) 18 Q true 192 [some (.inr (.inr 94)), some (.inl a0), some (.inl a1), some (.inl a2), none, none, none, none] [] 0 0 V) (zI (a0 = 7) (z_Ex (z_MS d) 18 Q true 192 [some (.inr (.inr 94)), some (.inl a0), some (.inl a1), some (.inl a2), none, none, none, none] [] 0 0 V) (zI (a0 = 8) (z_Ex (z_MS d) 18 Q true 192 [some (.inr (.inr 94)), some (.inl a0), some (.inl a1), some (.inl a2), none, none, none, none] [] 0 0 V) (zI (a0 = 9) (z_MS d 22 true [.inr (.inr 94)] V (fun z5 V5 => z_MS d 21 true [.inr (.inr 94), .inr (.inl (z_lsub 1 z5))] V5 (fun z6 V6 => Q 0 V6))) (zI (a0 = 10) (z_MS d 19 true [.inr (.inr 94), .inl 1, .inl a1] V (fun z4 V4 => Q 0 V4)) (zI (a0 = 11) (z_MS d 19 true [.inr (.inr 94), .inl 0, .inl a1] V (fun z3 V3 => Q 0 V3)) (zI (a0 = 12) (z_MS d 22 true [.inr (.inr 94)] V (fun z2 V2 => ∀ W3, W3 = z_up V2 94 3 (if (z_lcmp z2 0) = 0 then a2 else V2 94 3) → Q 0 W3)) (zI (a0 = 13) (z_MS d 22 true [.inr (.inr 94)] V (fun z1 V1 => ∀ W2, W2 = z_up V1 94 6 z1 → Q 0 W2)) (zI (a0 = 14) (∀ W1, W1 = z_up V 94 5 1 → Q 0 W1) (z_Ex (z_MS d) 18 Q true 192 [some (.inr (.inr 94)), some (.inl a0), some (.inl a1), some (.inl a2), none, none, none, none] [] 0 0 V)))))))))))))))) :
    z_MS (d + 1) 18 true [.inr (.inr 94), .inl a0, .inl a1, .inl a2] V Q := by
  show z_Ex (z_MS d) 18 Q true 0 [some (.inr (.inr 94)), some (.inl a0), some (.inl a1), some (.inl a2), none, none, none, none] [] 0 0 V
  refine ze_iload_n (pc := 0) zr_18_0 rfl ?_
  refine zq_sw (pc := 1) (l := [75, 84, 191, 191, 191, 191, 191, 191, 191, 117, 130, 139, 148, 172, 183]) zr_18_1 (by decide) rfl ?_
  refine zq_swc (n := 1) (z_toif h) rfl (fun h => ?_) (fun h => ?_)
  · refine zq_to (t := 76) (by decide) ?_
    refine ze_aload_n (pc := 76) zr_18_76 rfl ?_
    refine ze_iload_n (pc := 77) zr_18_77 rfl ?_
    refine ze_i2l (pc := 78) zr_18_78 ?_
    refine zq_callV0 (pc := 79) (as := [.inr (.inr 94), .inr (.inl a1)]) (r := []) (kc2 := 0) (ks2 := 0) zr_18_79 rfl (by decide) rfl rfl rfl rfl ⟨rfl, rfl⟩ rfl h (fun z10 V10 h => ?_)
    refine ze_goto (pc := 82) (t := 217) zr_18_82 (by decide) ?_
    exact ze_vret (pc := 217) zr_18_217 rfl h
  · refine zq_swc (n := 2) (z_toif h) rfl (fun h => ?_) (fun h => ?_)
    · refine zq_to (t := 85) (by decide) ?_
      refine ze_aload_n (pc := 85) zr_18_85 rfl ?_
      refine ze_iload_n (pc := 86) zr_18_86 rfl ?_
      refine ze_iconst (pc := 87) zr_18_87 (by decide) ?_
      refine ze_aload_n (pc := 88) zr_18_88 rfl ?_
      refine ze_getfield (pc := 89) (v := .inr (.inr 95)) zr_18_89 rfl rfl ?_
      refine ze_length (pc := 92) (z := 9) zr_18_92 (by decide) rfl ?_
      refine ze_iconst (pc := 93) zr_18_93 (by decide) ?_
      refine ze_isub (pc := 94) zr_18_94 ?_
      refine zq_callS1 (pc := 95) (as := [.inl a1, .inl 0, .inl (z_sub 9 1)]) (r := [.inr (.inr 94)]) (kc2 := 0) (ks2 := 0) zr_18_95 rfl rfl rfl rfl ⟨rfl, rfl⟩ ⟨rfl, rfl, rfl⟩ h (fun z7 V7 h => ?_)
      refine zq_if_eq (pc := 98) (t := 111) zr_18_98 (by decide) (z_toif h) (fun h => ?_) (fun h => ?_)
      · refine ze_lconst (pc := 111) zr_18_111 ?_
        refine zq_callV0 (pc := 112) (as := [.inr (.inr 94), .inr (.inl 0)]) (r := []) (kc2 := 0) (ks2 := 0) zr_18_112 rfl (by decide) rfl rfl rfl rfl ⟨rfl, rfl⟩ rfl h (fun z8 V8 h => ?_)
        refine ze_goto (pc := 115) (t := 217) zr_18_115 (by decide) ?_
        exact ze_vret (pc := 217) zr_18_217 rfl h
      · refine ze_aload_n (pc := 101) zr_18_101 rfl ?_
        refine ze_getfield (pc := 102) (v := .inr (.inr 95)) zr_18_102 rfl rfl ?_
        refine ze_iload_n (pc := 105) zr_18_105 rfl ?_
        refine z_gk h (fun g106 h => ?_)
        refine zl_iaload (pc := 106) zr_18_106 rfl rfl g106 h (fun x106 h => ?_)
        refine ze_i2l (pc := 107) zr_18_107 ?_
        refine ze_goto (pc := 108) (t := 112) zr_18_108 (by decide) ?_
        refine zq_callV0 (pc := 112) (as := [.inr (.inr 94), .inr (.inl x106)]) (r := []) (kc2 := 0) (ks2 := 0) zr_18_112 rfl (by decide) rfl rfl rfl rfl ⟨rfl, rfl⟩ rfl h (fun z9 V9 h => ?_)
        refine ze_goto (pc := 115) (t := 217) zr_18_115 (by decide) ?_
        exact ze_vret (pc := 217) zr_18_217 rfl h
    · refine zq_swc (n := 3) (z_toif h) rfl (fun h => ?_) (fun h => ?_)
      · refine zq_to (t := 192) (by decide) ?_
        exact h
      · refine zq_swc (n := 4) (z_toif h) rfl (fun h => ?_) (fun h => ?_)
        · refine zq_to (t := 192) (by decide) ?_
          exact h
        · refine zq_swc (n := 5) (z_toif h) rfl (fun h => ?_) (fun h => ?_)
          · refine zq_to (t := 192) (by decide) ?_
            exact h
          · refine zq_swc (n := 6) (z_toif h) rfl (fun h => ?_) (fun h => ?_)
            · refine zq_to (t := 192) (by decide) ?_
              exact h
            · refine zq_swc (n := 7) (z_toif h) rfl (fun h => ?_) (fun h => ?_)
              · refine zq_to (t := 192) (by decide) ?_
                exact h
              · refine zq_swc (n := 8) (z_toif h) rfl (fun h => ?_) (fun h => ?_)
                · refine zq_to (t := 192) (by decide) ?_
                  exact h
                · refine zq_swc (n := 9) (z_toif h) rfl (fun h => ?_) (fun h => ?_)
                  · refine zq_to (t := 192) (by decide) ?_
                    exact h
                  · refine zq_swc (n := 10) (z_toif h) rfl (fun h => ?_) (fun h => ?_)
                    · refine zq_to (t := 118) (by decide) ?_
                      refine ze_aload_n (pc := 118) zr_18_118 rfl ?_
                      refine ze_lconst (pc := 119) zr_18_119 ?_
                      refine ze_aload_n (pc := 120) zr_18_120 rfl ?_
                      refine zq_callV2 (pc := 121) (as := [.inr (.inr 94)]) (r := [.inr (.inl 1), .inr (.inr 94)]) (kc2 := 0) (ks2 := 0) zr_18_121 rfl (by decide) rfl rfl rfl rfl ⟨rfl, rfl⟩ ⟨rfl, rfl⟩ h (fun z5 V5 h => ?_)
                      refine ze_lsub (pc := 124) zr_18_124 ?_
                      refine zq_callV0 (pc := 125) (as := [.inr (.inr 94), .inr (.inl (z_lsub 1 z5))]) (r := []) (kc2 := 0) (ks2 := 0) zr_18_125 rfl (by decide) rfl rfl rfl rfl ⟨rfl, rfl⟩ rfl h (fun z6 V6 h => ?_)
                      refine ze_goto (pc := 128) (t := 217) zr_18_128 (by decide) ?_
                      exact ze_vret (pc := 217) zr_18_217 rfl h
                    · refine zq_swc (n := 11) (z_toif h) rfl (fun h => ?_) (fun h => ?_)
                      · refine zq_to (t := 131) (by decide) ?_
                        refine ze_aload_n (pc := 131) zr_18_131 rfl ?_
                        refine ze_iconst (pc := 132) zr_18_132 (by decide) ?_
                        refine ze_iload_n (pc := 133) zr_18_133 rfl ?_
                        refine zq_callV0 (pc := 134) (as := [.inr (.inr 94), .inl 1, .inl a1]) (r := []) (kc2 := 0) (ks2 := 0) zr_18_134 rfl (by decide) rfl rfl rfl rfl ⟨rfl, rfl⟩ rfl h (fun z4 V4 h => ?_)
                        refine ze_goto (pc := 137) (t := 217) zr_18_137 (by decide) ?_
                        exact ze_vret (pc := 217) zr_18_217 rfl h
                      · refine zq_swc (n := 12) (z_toif h) rfl (fun h => ?_) (fun h => ?_)
                        · refine zq_to (t := 140) (by decide) ?_
                          refine ze_aload_n (pc := 140) zr_18_140 rfl ?_
                          refine ze_iconst (pc := 141) zr_18_141 (by decide) ?_
                          refine ze_iload_n (pc := 142) zr_18_142 rfl ?_
                          refine zq_callV0 (pc := 143) (as := [.inr (.inr 94), .inl 0, .inl a1]) (r := []) (kc2 := 0) (ks2 := 0) zr_18_143 rfl (by decide) rfl rfl rfl rfl ⟨rfl, rfl⟩ rfl h (fun z3 V3 h => ?_)
                          refine ze_goto (pc := 146) (t := 217) zr_18_146 (by decide) ?_
                          exact ze_vret (pc := 217) zr_18_217 rfl h
                        · refine zq_swc (n := 13) (z_toif h) rfl (fun h => ?_) (fun h => ?_)
                          · refine zq_to (t := 149) (by decide) ?_
                            refine ze_aload_n (pc := 149) zr_18_149 rfl ?_
                            refine ze_aload_n (pc := 150) zr_18_150 rfl ?_
                            refine zq_callV2 (pc := 151) (as := [.inr (.inr 94)]) (r := [.inr (.inr 94)]) (kc2 := 0) (ks2 := 0) zr_18_151 rfl (by decide) rfl rfl rfl rfl ⟨rfl, rfl⟩ ⟨rfl, rfl⟩ h (fun z2 V2 h => ?_)
                            refine ze_lconst (pc := 154) zr_18_154 ?_
                            refine ze_lcmp (pc := 155) zr_18_155 ?_
                            have j156 : z_Ex (z_MS d) 18 Q true 167 [some (.inr (.inr 94)), some (.inl a0), some (.inl a1), some (.inl a2), none, none, none, none] [.inl (if (z_lcmp z2 0) = 0 then a2 else V2 94 3), .inr (.inr 94)] 0 0 V2 := by
                              refine zq_putI (pc := 167) zr_18_167 (by decide) rfl h (fun W3 h => ?_)
                              refine ze_goto (pc := 170) (t := 217) zr_18_170 (by decide) ?_
                              exact ze_vret (pc := 217) zr_18_217 rfl h
                            refine ze_if_ne (pc := 156) (t := 163) zr_18_156 (by decide) (fun hc => ?_) (fun hc => ?_)
                            · rw [if_pos (show (z_lcmp z2 0) = 0 from hc)] at j156
                              refine ze_iload_n (pc := 159) zr_18_159 rfl ?_
                              refine ze_goto (pc := 160) (t := 167) zr_18_160 (by decide) ?_
                              exact j156
                            · rw [if_neg (show ¬ ((z_lcmp z2 0) = 0) from hc)] at j156
                              refine ze_aload_n (pc := 163) zr_18_163 rfl ?_
                              refine ze_getfield (pc := 164) (v := .inl (V2 94 3)) zr_18_164 rfl rfl ?_
                              exact j156
                          · refine zq_swc (n := 14) (z_toif h) rfl (fun h => ?_) (fun h => ?_)
                            · refine zq_to (t := 173) (by decide) ?_
                              refine ze_aload_n (pc := 173) zr_18_173 rfl ?_
                              refine ze_aload_n (pc := 174) zr_18_174 rfl ?_
                              refine zq_callV2 (pc := 175) (as := [.inr (.inr 94)]) (r := [.inr (.inr 94)]) (kc2 := 0) (ks2 := 0) zr_18_175 rfl (by decide) rfl rfl rfl rfl ⟨rfl, rfl⟩ ⟨rfl, rfl⟩ h (fun z1 V1 h => ?_)
                              refine zq_putL (pc := 178) zr_18_178 (by decide) rfl h (fun W2 h => ?_)
                              refine ze_goto (pc := 181) (t := 217) zr_18_181 (by decide) ?_
                              exact ze_vret (pc := 217) zr_18_217 rfl h
                            · refine zq_swc (n := 15) (z_toif h) rfl (fun h => ?_) (fun h => ?_)
                              · refine zq_to (t := 184) (by decide) ?_
                                refine ze_aload_n (pc := 184) zr_18_184 rfl ?_
                                refine ze_iconst (pc := 185) zr_18_185 (by decide) ?_
                                refine zq_putZ (pc := 186) zr_18_186 (by decide) rfl (by decide) h (fun W1 h => ?_)
                                refine ze_goto (pc := 189) (t := 217) zr_18_189 (by decide) ?_
                                exact ze_vret (pc := 217) zr_18_217 rfl h
                              · refine zq_swn ?_
                                refine zq_to (t := 192) (by decide) ?_
                                exact h
theorem zb18_94_p192 {d : Nat} {Q : Int → z_M → Prop} (l1 : Int) (o2 : Option z_V) (o3 : Option z_V) {V : z_M}
    (h : z_MS d 22 true [.inr (.inr 94)] V (fun z19301 V19301 => z_MS d 22 true [.inr (.inr 94)] V19301 (fun z19302 V19302 => z_MS d 20 true [.inr (.inr 94), .inl l1, .inr (.inl z19302), .inr (.inl z19301)] V19302 (fun z19303 V19303 => z_MS d 21 true [.inr (.inr 94), .inr (.inl z19303)] V19303 (fun z19304 V19304 => Q 0 V19304))))) :
    z_Ex (z_MS d) 18 Q true 192 [some (.inr (.inr 94)), some (.inl l1), o2, o3, none, none, none, none] [] 0 0 V := by
  refine ze_aload_n (pc := 192) zr_18_192 rfl ?_
  refine zq_callV2 (pc := 193) (as := [.inr (.inr 94)]) (r := []) (kc2 := 0) (ks2 := 0) zr_18_193 rfl (by decide) rfl rfl rfl rfl ⟨rfl, rfl⟩ ⟨rfl, rfl⟩ h (fun z19301 V19301 h => ?_)
  refine zq_lstore (pc := 196) (ls2 := [some (.inr (.inr 94)), some (.inl l1), o2, (cond (z_o2 o3) none o3), some (.inr (.inl z19301)), none, none, none]) zr_18_196 rfl rfl ?_
  refine ze_aload_n (pc := 198) zr_18_198 rfl ?_
  refine zq_callV2 (pc := 199) (as := [.inr (.inr 94)]) (r := []) (kc2 := 0) (ks2 := 0) zr_18_199 rfl (by decide) rfl rfl rfl rfl ⟨rfl, rfl⟩ ⟨rfl, rfl⟩ h (fun z19302 V19302 h => ?_)
  refine zq_lstore (pc := 202) (ls2 := [some (.inr (.inr 94)), some (.inl l1), o2, (cond (z_o2 o3) none o3), some (.inr (.inl z19301)), none, some (.inr (.inl z19302)), none]) zr_18_202 rfl rfl ?_
  refine ze_aload_n (pc := 204) zr_18_204 rfl ?_
  refine ze_aload_n (pc := 205) zr_18_205 rfl ?_
  refine ze_iload_n (pc := 206) zr_18_206 rfl ?_
  refine ze_lload (pc := 207) zr_18_207 rfl ?_
  refine ze_lload (pc := 209) zr_18_209 rfl ?_
  refine zq_callV2 (pc := 211) (as := [.inr (.inr 94), .inl l1, .inr (.inl z19302), .inr (.inl z19301)]) (r := [.inr (.inr 94)]) (kc2 := 0) (ks2 := 0) zr_18_211 rfl (by decide) rfl rfl rfl rfl ⟨rfl, rfl⟩ ⟨rfl, rfl⟩ h (fun z19303 V19303 h => ?_)
  refine zq_callV0 (pc := 214) (as := [.inr (.inr 94), .inr (.inl z19303)]) (r := []) (kc2 := 0) (ks2 := 0) zr_18_214 rfl (by decide) rfl rfl rfl rfl ⟨rfl, rfl⟩ rfl h (fun z19304 V19304 h => ?_)
  exact ze_vret (pc := 217) zr_18_217 rfl h
