/-! blocks of rows: printed by a program (blk2.py) -/
theorem zb118_36 {d : Nat} {Q : Int → z_M → Prop} (a0 : Int) (a1 : Int) {V : z_M}
    (h : z_MS d 75 true [.inr (.inr 37), .inl a0] V (fun z1 V1 => zI (z1 = 0) (z_MS d 130 true [.inr (.inr 36), .inl (-2)] V1 (fun z2 V2 => Q z2 V2)) (z_MS d 75 true [.inr (.inr 37), .inl a1] V1 (fun z3 V3 => zI (z3 = 0) (z_MS d 130 true [.inr (.inr 36), .inl (-2)] V3 (fun z7 V7 => Q z7 V7)) (zI (a0 = a1) (z_MS d 130 true [.inr (.inr 36), .inl (-3)] V3 (fun z6 V6 => Q z6 V6)) (zGu (0 ≤ (12 : Int) ∧ 0 ≤ (0 : Int) ∧ 0 ≤ (0 : Int) ∧ (0 : Int) + (12 : Int) ≤ 12 ∧ (0 : Int) + (12 : Int) ≤ 12) (∀ W1, W1 = z_cpy V3 6 0 139 0 12 → zGu (0 ≤ a0 ∧ a0 < 12) (∀ W2, W2 = z_up W1 139 a0.toNat a1 → zGu (0 ≤ a1 ∧ a1 < 12) (∀ W3, W3 = z_up W2 139 a1.toNat a0 → z_MS d 87 true [.inr (.inr 37), .inr (.inr 139)] W3 (fun z4 V4 => z_MS d 131 true [.inr (.inr 36), .inl 0] V4 (fun z5 V5 => Q z5 V5))))))))))) :
    z_MS (d + 1) 118 true [.inr (.inr 36), .inl a0, .inl a1] V Q := by
  show z_Ex (z_MS d) 118 Q true 0 [some (.inr (.inr 36)), some (.inl a0), some (.inl a1)] [] 0 0 V
  refine ze_aload_n (pc := 0) zr_118_0 rfl ?_
  refine ze_getfield (pc := 1) (v := .inr (.inr 37)) zr_118_1 rfl rfl ?_
  refine ze_iload_n (pc := 4) zr_118_4 rfl ?_
  refine zq_callV1 (pc := 5) (as := [.inr (.inr 37), .inl a0]) (r := []) (kc2 := 0) (ks2 := 0) zr_118_5 rfl (by decide) rfl rfl rfl rfl ⟨rfl, rfl⟩ ⟨rfl, rfl, rfl⟩ h (fun z1 V1 h => ?_)
  refine zq_if_eq (pc := 8) (t := 22) zr_118_8 (by decide) (z_toif h) (fun h => ?_) (fun h => ?_)
  · refine ze_aload_n (pc := 22) zr_118_22 rfl ?_
    refine ze_bipush (pc := 23) zr_118_23 (by decide) ?_
    refine zq_callV1 (pc := 25) (as := [.inr (.inr 36), .inl (-2)]) (r := []) (kc2 := 0) (ks2 := 0) zr_118_25 rfl (by decide) rfl rfl rfl rfl ⟨rfl, rfl⟩ ⟨rfl, rfl, rfl⟩ h (fun z2 V2 h => ?_)
    exact zq_ret1 (pc := 28) zr_118_28 rfl h
  · refine ze_aload_n (pc := 11) zr_118_11 rfl ?_
    refine ze_getfield (pc := 12) (v := .inr (.inr 37)) zr_118_12 rfl rfl ?_
    refine ze_iload_n (pc := 15) zr_118_15 rfl ?_
    refine zq_callV1 (pc := 16) (as := [.inr (.inr 37), .inl a1]) (r := []) (kc2 := 0) (ks2 := 0) zr_118_16 rfl (by decide) rfl rfl rfl rfl ⟨rfl, rfl⟩ ⟨rfl, rfl, rfl⟩ h (fun z3 V3 h => ?_)
    refine zq_if_ne (pc := 19) (t := 29) zr_118_19 (by decide) (z_toif h) (fun h => ?_) (fun h => ?_)
    · refine ze_aload_n (pc := 22) zr_118_22 rfl ?_
      refine ze_bipush (pc := 23) zr_118_23 (by decide) ?_
      refine zq_callV1 (pc := 25) (as := [.inr (.inr 36), .inl (-2)]) (r := []) (kc2 := 0) (ks2 := 0) zr_118_25 rfl (by decide) rfl rfl rfl rfl ⟨rfl, rfl⟩ ⟨rfl, rfl, rfl⟩ h (fun z7 V7 h => ?_)
      exact zq_ret1 (pc := 28) zr_118_28 rfl h
    · refine ze_iload_n (pc := 29) zr_118_29 rfl ?_
      refine ze_iload_n (pc := 30) zr_118_30 rfl ?_
      refine zq_icmp_ne (pc := 31) (t := 41) zr_118_31 (by decide) (z_toif h) (fun h => ?_) (fun h => ?_)
      · refine ze_aload_n (pc := 34) zr_118_34 rfl ?_
        refine ze_bipush (pc := 35) zr_118_35 (by decide) ?_
        refine zq_callV1 (pc := 37) (as := [.inr (.inr 36), .inl (-3)]) (r := []) (kc2 := 0) (ks2 := 0) zr_118_37 rfl (by decide) rfl rfl rfl rfl ⟨rfl, rfl⟩ ⟨rfl, rfl, rfl⟩ h (fun z6 V6 h => ?_)
        exact zq_ret1 (pc := 40) zr_118_40 rfl h
      · refine ze_static (pc := 41) zr_118_41 rfl (by decide) ?_
        refine ze_iconst (pc := 44) zr_118_44 (by decide) ?_
        refine ze_aload_n (pc := 45) zr_118_45 rfl ?_
        refine ze_getfield (pc := 46) (v := .inr (.inr 139)) zr_118_46 rfl rfl ?_
        refine ze_iconst (pc := 49) zr_118_49 (by decide) ?_
        refine ze_bipush (pc := 50) zr_118_50 (by decide) ?_
        refine z_gk h (fun g52 h => ?_)
        refine zq_acopy (pc := 52) zr_118_52 ⟨rfl, rfl, by decide, Nat.le_of_ble_eq_true rfl⟩ rfl rfl g52 rfl rfl rfl h (fun W1 h => ?_)
        refine ze_aload_n (pc := 55) zr_118_55 rfl ?_
        refine ze_getfield (pc := 56) (v := .inr (.inr 139)) zr_118_56 rfl rfl ?_
        refine ze_iload_n (pc := 59) zr_118_59 rfl ?_
        refine ze_iload_n (pc := 60) zr_118_60 rfl ?_
        refine z_gk h (fun g61 h => ?_)
        refine zq_iastore (pc := 61) zr_118_61 (by decide) rfl g61 rfl h (fun W2 h => ?_)
        refine ze_aload_n (pc := 62) zr_118_62 rfl ?_
        refine ze_getfield (pc := 63) (v := .inr (.inr 139)) zr_118_63 rfl rfl ?_
        refine ze_iload_n (pc := 66) zr_118_66 rfl ?_
        refine ze_iload_n (pc := 67) zr_118_67 rfl ?_
        refine z_gk h (fun g68 h => ?_)
        refine zq_iastore (pc := 68) zr_118_68 (by decide) rfl g68 rfl h (fun W3 h => ?_)
        refine ze_aload_n (pc := 69) zr_118_69 rfl ?_
        refine ze_getfield (pc := 70) (v := .inr (.inr 37)) zr_118_70 rfl rfl ?_
        refine ze_aload_n (pc := 73) zr_118_73 rfl ?_
        refine ze_getfield (pc := 74) (v := .inr (.inr 139)) zr_118_74 rfl rfl ?_
        refine zq_callV0 (pc := 77) (as := [.inr (.inr 37), .inr (.inr 139)]) (r := []) (kc2 := 0) (ks2 := 0) zr_118_77 rfl (by decide) rfl rfl rfl rfl ⟨rfl, rfl⟩ rfl h (fun z4 V4 h => ?_)
        refine ze_aload_n (pc := 80) zr_118_80 rfl ?_
        refine ze_iconst (pc := 81) zr_118_81 (by decide) ?_
        refine zq_callV1 (pc := 82) (as := [.inr (.inr 36), .inl 0]) (r := []) (kc2 := 0) (ks2 := 0) zr_118_82 rfl (by decide) rfl rfl rfl rfl ⟨rfl, rfl⟩ ⟨rfl, rfl, rfl⟩ h (fun z5 V5 h => ?_)
        exact zq_ret1 (pc := 85) zr_118_85 rfl h
theorem zb119_36 {d : Nat} {Q : Int → z_M → Prop} (a0 : Int) (a1 : Int) {V : z_M}
    (h : z_MS d 133 true [.inl a0, .inl 0, .inl (z_sub (z_shl 1 (V 37 7)) 1)] V (fun z1 V1 => zI (z1 = 0) (Q (-1) V1) (z_MS d 133 true [.inl a1, .inl 0, .inl 2] V1 (fun z2 V2 => zI (z2 = 0) (Q (-1) V2) (z_MS d 139 true [.inr (.inr 36)] V2 (fun z3 V3 => z_Ex (z_MS d) 119 Q true 55 [some (.inr (.inr 36)), some (.inl a0), some (.inl a1), some (.inl 0), some (.inl (-1)), some (.inl (z_sub (z_shl 1 (V3 37 8)) 1)), some (.inl 0)] [] 0 0 V3)))))) :
    z_MS (d + 1) 119 true [.inr (.inr 36), .inl a0, .inl a1] V Q := by
  show z_Ex (z_MS d) 119 Q true 0 [some (.inr (.inr 36)), some (.inl a0), some (.inl a1), none, none, none, none] [] 0 0 V
  refine ze_iload_n (pc := 0) zr_119_0 rfl ?_
  refine ze_iconst (pc := 1) zr_119_1 (by decide) ?_
  refine ze_iconst (pc := 2) zr_119_2 (by decide) ?_
  refine ze_aload_n (pc := 3) zr_119_3 rfl ?_
  refine ze_getfield (pc := 4) (v := .inr (.inr 37)) zr_119_4 rfl rfl ?_
  refine ze_getfield (pc := 7) (v := .inl (V 37 7)) zr_119_7 rfl rfl ?_
  refine ze_ishl (pc := 10) zr_119_10 ?_
  refine ze_iconst (pc := 11) zr_119_11 (by decide) ?_
  refine ze_isub (pc := 12) zr_119_12 ?_
  refine zq_callS1 (pc := 13) (as := [.inl a0, .inl 0, .inl (z_sub (z_shl 1 (V 37 7)) 1)]) (r := []) (kc2 := 0) (ks2 := 0) zr_119_13 rfl rfl rfl rfl ⟨rfl, rfl⟩ ⟨rfl, rfl, rfl⟩ h (fun z1 V1 h => ?_)
  refine zq_if_eq (pc := 16) (t := 28) zr_119_16 (by decide) (z_toif h) (fun h => ?_) (fun h => ?_)
  · refine ze_iconst (pc := 28) zr_119_28 (by decide) ?_
    exact zq_ret1 (pc := 29) zr_119_29 rfl h
  · refine ze_iload_n (pc := 19) zr_119_19 rfl ?_
    refine ze_iconst (pc := 20) zr_119_20 (by decide) ?_
    refine ze_iconst (pc := 21) zr_119_21 (by decide) ?_
    refine zq_callS1 (pc := 22) (as := [.inl a1, .inl 0, .inl 2]) (r := []) (kc2 := 0) (ks2 := 0) zr_119_22 rfl rfl rfl rfl ⟨rfl, rfl⟩ ⟨rfl, rfl, rfl⟩ h (fun z2 V2 h => ?_)
    refine zq_if_ne (pc := 25) (t := 30) zr_119_25 (by decide) (z_toif h) (fun h => ?_) (fun h => ?_)
    · refine ze_iconst (pc := 28) zr_119_28 (by decide) ?_
      exact zq_ret1 (pc := 29) zr_119_29 rfl h
    · refine ze_aload_n (pc := 30) zr_119_30 rfl ?_
      refine zq_callV0 (pc := 31) (as := [.inr (.inr 36)]) (r := []) (kc2 := 0) (ks2 := 0) zr_119_31 rfl (by decide) rfl rfl rfl rfl ⟨rfl, rfl⟩ rfl h (fun z3 V3 h => ?_)
      refine ze_iconst (pc := 34) zr_119_34 (by decide) ?_
      refine zq_istore_n (pc := 35) (ls2 := [some (.inr (.inr 36)), some (.inl a0), some (.inl a1), some (.inl 0), none, none, none]) zr_119_35 rfl rfl ?_
      refine ze_iconst (pc := 36) zr_119_36 (by decide) ?_
      refine zq_istore (pc := 37) (ls2 := [some (.inr (.inr 36)), some (.inl a0), some (.inl a1), some (.inl 0), some (.inl (-1)), none, none]) zr_119_37 rfl rfl ?_
      refine ze_iconst (pc := 39) zr_119_39 (by decide) ?_
      refine ze_aload_n (pc := 40) zr_119_40 rfl ?_
      refine ze_getfield (pc := 41) (v := .inr (.inr 37)) zr_119_41 rfl rfl ?_
      refine ze_getfield (pc := 44) (v := .inl (V3 37 8)) zr_119_44 rfl rfl ?_
      refine ze_ishl (pc := 47) zr_119_47 ?_
      refine ze_iconst (pc := 48) zr_119_48 (by decide) ?_
      refine ze_isub (pc := 49) zr_119_49 ?_
      refine zq_istore (pc := 50) (ls2 := [some (.inr (.inr 36)), some (.inl a0), some (.inl a1), some (.inl 0), some (.inl (-1)), some (.inl (z_sub (z_shl 1 (V3 37 8)) 1)), none]) zr_119_50 rfl rfl ?_
      refine ze_iconst (pc := 52) zr_119_52 (by decide) ?_
      refine zq_istore (pc := 53) (ls2 := [some (.inr (.inr 36)), some (.inl a0), some (.inl a1), some (.inl 0), some (.inl (-1)), some (.inl (z_sub (z_shl 1 (V3 37 8)) 1)), some (.inl 0)]) zr_119_53 rfl rfl ?_
      exact h
theorem zb119_36_p55 {d : Nat} {Q : Int → z_M → Prop} (l1 : Int) (l2 : Int) (l3 : Int) (l4 : Int) (l5 : Int) (l6 : Int) {V : z_M}
    (h : zI (l6 < (z_shl 1 (V 37 8))) (z_MS d 142 true [.inr (.inr 36), .inl l6] V (fun z5601 V5601 => zI (z5601 = l1) (zI (l4 = (-1)) (z_Ex (z_MS d) 119 Q true 55 [some (.inr (.inr 36)), some (.inl l1), some (.inl l2), some (.inl (z_add l3 1)), some (.inl l6), some (.inl (z_and l5 l6)), some (.inl (z_add l6 1))] [] 0 0 V5601) (z_MS d 256 true [.inl l6] V5601 (fun z5602 V5602 => z_MS d 256 true [.inl l4] V5602 (fun z5603 V5603 => zI (z5602 < z5603) (z_Ex (z_MS d) 119 Q true 55 [some (.inr (.inr 36)), some (.inl l1), some (.inl l2), some (.inl (z_add l3 1)), some (.inl l6), some (.inl (z_and l5 l6)), some (.inl (z_add l6 1))] [] 0 0 V5603) (z_Ex (z_MS d) 119 Q true 55 [some (.inr (.inr 36)), some (.inl l1), some (.inl l2), some (.inl (z_add l3 1)), some (.inl l4), some (.inl (z_and l5 l6)), some (.inl (z_add l6 1))] [] 0 0 V5603))))) (z_Ex (z_MS d) 119 Q true 55 [some (.inr (.inr 36)), some (.inl l1), some (.inl l2), some (.inl l3), some (.inl l4), some (.inl l5), some (.inl (z_add l6 1))] [] 0 0 V5601))) (zI (l2 = 0) (Q l3 V) (zI (l3 = 0) (Q (-1) V) (Q (if l2 = 1 then l4 else l5) V)))) :
    z_Ex (z_MS d) 119 Q true 55 [some (.inr (.inr 36)), some (.inl l1), some (.inl l2), some (.inl l3), some (.inl l4), some (.inl l5), some (.inl l6)] [] 0 0 V := by
  refine ze_iload (pc := 55) zr_119_55 rfl ?_
  refine ze_iconst (pc := 57) zr_119_57 (by decide) ?_
  refine ze_aload_n (pc := 58) zr_119_58 rfl ?_
  refine ze_getfield (pc := 59) (v := .inr (.inr 37)) zr_119_59 rfl rfl ?_
  refine ze_getfield (pc := 62) (v := .inl (V 37 8)) zr_119_62 rfl rfl ?_
  refine ze_ishl (pc := 65) zr_119_65 ?_
  refine zq_icmp_ge (pc := 66) (t := 118) zr_119_66 (by decide) (z_toif h) (fun h => ?_) (fun h => ?_)
  · refine ze_aload_n (pc := 69) zr_119_69 rfl ?_
    refine ze_iload (pc := 70) zr_119_70 rfl ?_
    refine zq_callV1 (pc := 72) (as := [.inr (.inr 36), .inl l6]) (r := []) (kc2 := 0) (ks2 := 0) zr_119_72 rfl (by decide) rfl rfl rfl rfl ⟨rfl, rfl⟩ ⟨rfl, rfl, rfl⟩ h (fun z5601 V5601 h => ?_)
    refine ze_iload_n (pc := 75) zr_119_75 rfl ?_
    refine zq_icmp_ne (pc := 76) (t := 112) zr_119_76 (by decide) (z_toif h) (fun h => ?_) (fun h => ?_)
    · refine zq_iinc (pc := 79) (ls2 := [some (.inr (.inr 36)), some (.inl l1), some (.inl l2), some (.inl (z_add l3 1)), some (.inl l4), some (.inl l5), some (.inl l6)]) zr_119_79 rfl rfl rfl ?_
      refine ze_iload (pc := 82) zr_119_82 rfl ?_
      refine ze_iload (pc := 84) zr_119_84 rfl ?_
      refine ze_iand (pc := 86) zr_119_86 ?_
      refine zq_istore (pc := 87) (ls2 := [some (.inr (.inr 36)), some (.inl l1), some (.inl l2), some (.inl (z_add l3 1)), some (.inl l4), some (.inl (z_and l5 l6)), some (.inl l6)]) zr_119_87 rfl rfl ?_
      refine ze_iload (pc := 89) zr_119_89 rfl ?_
      refine ze_iconst (pc := 91) zr_119_91 (by decide) ?_
      refine zq_icmp_eq (pc := 92) (t := 108) zr_119_92 (by decide) (z_toif h) (fun h => ?_) (fun h => ?_)
      · refine ze_iload (pc := 108) zr_119_108 rfl ?_
        refine zq_istore (pc := 110) (ls2 := [some (.inr (.inr 36)), some (.inl l1), some (.inl l2), some (.inl (z_add l3 1)), some (.inl l6), some (.inl (z_and l5 l6)), some (.inl l6)]) zr_119_110 rfl rfl ?_
        refine zq_iinc (pc := 112) (ls2 := [some (.inr (.inr 36)), some (.inl l1), some (.inl l2), some (.inl (z_add l3 1)), some (.inl l6), some (.inl (z_and l5 l6)), some (.inl (z_add l6 1))]) zr_119_112 rfl rfl rfl ?_
        refine ze_goto (pc := 115) (t := 55) zr_119_115 (by decide) ?_
        exact h
      · refine ze_iload (pc := 95) zr_119_95 rfl ?_
        refine zq_callS1 (pc := 97) (as := [.inl l6]) (r := []) (kc2 := 0) (ks2 := 0) zr_119_97 rfl rfl rfl rfl ⟨rfl, rfl⟩ ⟨rfl, rfl, rfl⟩ h (fun z5602 V5602 h => ?_)
        refine ze_iload (pc := 100) zr_119_100 rfl ?_
        refine zq_callS1 (pc := 102) (as := [.inl l4]) (r := [.inl z5602]) (kc2 := 0) (ks2 := 0) zr_119_102 rfl rfl rfl rfl ⟨rfl, rfl⟩ ⟨rfl, rfl, rfl⟩ h (fun z5603 V5603 h => ?_)
        refine zq_icmp_ge (pc := 105) (t := 112) zr_119_105 (by decide) (z_toif h) (fun h => ?_) (fun h => ?_)
        · refine ze_iload (pc := 108) zr_119_108 rfl ?_
          refine zq_istore (pc := 110) (ls2 := [some (.inr (.inr 36)), some (.inl l1), some (.inl l2), some (.inl (z_add l3 1)), some (.inl l6), some (.inl (z_and l5 l6)), some (.inl l6)]) zr_119_110 rfl rfl ?_
          refine zq_iinc (pc := 112) (ls2 := [some (.inr (.inr 36)), some (.inl l1), some (.inl l2), some (.inl (z_add l3 1)), some (.inl l6), some (.inl (z_and l5 l6)), some (.inl (z_add l6 1))]) zr_119_112 rfl rfl rfl ?_
          refine ze_goto (pc := 115) (t := 55) zr_119_115 (by decide) ?_
          exact h
        · refine zq_iinc (pc := 112) (ls2 := [some (.inr (.inr 36)), some (.inl l1), some (.inl l2), some (.inl (z_add l3 1)), some (.inl l4), some (.inl (z_and l5 l6)), some (.inl (z_add l6 1))]) zr_119_112 rfl rfl rfl ?_
          refine ze_goto (pc := 115) (t := 55) zr_119_115 (by decide) ?_
          exact h
    · refine zq_iinc (pc := 112) (ls2 := [some (.inr (.inr 36)), some (.inl l1), some (.inl l2), some (.inl l3), some (.inl l4), some (.inl l5), some (.inl (z_add l6 1))]) zr_119_112 rfl rfl rfl ?_
      refine ze_goto (pc := 115) (t := 55) zr_119_115 (by decide) ?_
      exact h
  · refine ze_iload_n (pc := 118) zr_119_118 rfl ?_
    refine zq_if_ne (pc := 119) (t := 124) zr_119_119 (by decide) (z_toif h) (fun h => ?_) (fun h => ?_)
    · refine ze_iload_n (pc := 122) zr_119_122 rfl ?_
      exact zq_ret1 (pc := 123) zr_119_123 rfl h
    · refine ze_iload_n (pc := 124) zr_119_124 rfl ?_
      refine zq_if_ne (pc := 125) (t := 130) zr_119_125 (by decide) (z_toif h) (fun h => ?_) (fun h => ?_)
      · refine ze_iconst (pc := 128) zr_119_128 (by decide) ?_
        exact zq_ret1 (pc := 129) zr_119_129 rfl h
      · refine ze_iload_n (pc := 130) zr_119_130 rfl ?_
        refine ze_iconst (pc := 131) zr_119_131 (by decide) ?_
        have j132 : z_Ex (z_MS d) 119 Q true 142 [some (.inr (.inr 36)), some (.inl l1), some (.inl l2), some (.inl l3), some (.inl l4), some (.inl l5), some (.inl l6)] [.inl (if l2 = 1 then l4 else l5)] 0 0 V := by
          exact zq_ret1 (pc := 142) zr_119_142 rfl h
        refine ze_icmp_ne (pc := 132) (t := 140) zr_119_132 (by decide) (fun hc => ?_) (fun hc => ?_)
        · rw [if_pos (show l2 = 1 from hc)] at j132
          refine ze_iload (pc := 135) zr_119_135 rfl ?_
          refine ze_goto (pc := 137) (t := 142) zr_119_137 (by decide) ?_
          exact j132
        · rw [if_neg (show ¬ (l2 = 1) from hc)] at j132
          refine ze_iload (pc := 140) zr_119_140 rfl ?_
          exact j132
theorem zb120_36 {d : Nat} {Q : Int → z_M → Prop} (a0 : Int) {V : z_M}
    (h : z_MS d 143 true [.inr (.inr 36)] V (fun z1 V1 => zI (a0 = (-1)) (Q (z_sub (V1 37 7) z1) V1) (z_MS d 133 true [.inl a0, .inl 0, .inl (z_sub z1 1)] V1 (fun z2 V2 => zI (z2 = 0) (Q (-1) V2) (z_Ex (z_MS d) 120 Q true 41 [some (.inr (.inr 36)), some (.inl a0), some (.inl z1), some (.inl (-1)), some (.inl (-1)), some (.inl 0)] [] 0 0 V2))))) :
    z_MS (d + 1) 120 true [.inr (.inr 36), .inl a0] V Q := by
  show z_Ex (z_MS d) 120 Q true 0 [some (.inr (.inr 36)), some (.inl a0), none, none, none, none] [] 0 0 V
  refine ze_aload_n (pc := 0) zr_120_0 rfl ?_
  refine zq_callV1 (pc := 1) (as := [.inr (.inr 36)]) (r := []) (kc2 := 0) (ks2 := 0) zr_120_1 rfl (by decide) rfl rfl rfl rfl ⟨rfl, rfl⟩ ⟨rfl, rfl, rfl⟩ h (fun z1 V1 h => ?_)
  refine zq_istore_n (pc := 4) (ls2 := [some (.inr (.inr 36)), some (.inl a0), some (.inl z1), none, none, none]) zr_120_4 rfl rfl ?_
  refine ze_iload_n (pc := 5) zr_120_5 rfl ?_
  refine ze_iconst (pc := 6) zr_120_6 (by decide) ?_
  refine zq_icmp_ne (pc := 7) (t := 20) zr_120_7 (by decide) (z_toif h) (fun h => ?_) (fun h => ?_)
  · refine ze_aload_n (pc := 10) zr_120_10 rfl ?_
    refine ze_getfield (pc := 11) (v := .inr (.inr 37)) zr_120_11 rfl rfl ?_
    refine ze_getfield (pc := 14) (v := .inl (V1 37 7)) zr_120_14 rfl rfl ?_
    refine ze_iload_n (pc := 17) zr_120_17 rfl ?_
    refine ze_isub (pc := 18) zr_120_18 ?_
    exact zq_ret1 (pc := 19) zr_120_19 rfl h
  · refine ze_iload_n (pc := 20) zr_120_20 rfl ?_
    refine ze_iconst (pc := 21) zr_120_21 (by decide) ?_
    refine ze_iload_n (pc := 22) zr_120_22 rfl ?_
    refine ze_iconst (pc := 23) zr_120_23 (by decide) ?_
    refine ze_isub (pc := 24) zr_120_24 ?_
    refine zq_callS1 (pc := 25) (as := [.inl a0, .inl 0, .inl (z_sub z1 1)]) (r := []) (kc2 := 0) (ks2 := 0) zr_120_25 rfl rfl rfl rfl ⟨rfl, rfl⟩ ⟨rfl, rfl, rfl⟩ h (fun z2 V2 h => ?_)
    refine zq_if_ne (pc := 28) (t := 33) zr_120_28 (by decide) (z_toif h) (fun h => ?_) (fun h => ?_)
    · refine ze_iconst (pc := 31) zr_120_31 (by decide) ?_
      exact zq_ret1 (pc := 32) zr_120_32 rfl h
    · refine ze_iconst (pc := 33) zr_120_33 (by decide) ?_
      refine zq_istore_n (pc := 34) (ls2 := [some (.inr (.inr 36)), some (.inl a0), some (.inl z1), some (.inl (-1)), none, none]) zr_120_34 rfl rfl ?_
      refine ze_iconst (pc := 35) zr_120_35 (by decide) ?_
      refine zq_istore (pc := 36) (ls2 := [some (.inr (.inr 36)), some (.inl a0), some (.inl z1), some (.inl (-1)), some (.inl (-1)), none]) zr_120_36 rfl rfl ?_
      refine ze_iconst (pc := 38) zr_120_38 (by decide) ?_
      refine zq_istore (pc := 39) (ls2 := [some (.inr (.inr 36)), some (.inl a0), some (.inl z1), some (.inl (-1)), some (.inl (-1)), some (.inl 0)]) zr_120_39 rfl rfl ?_
      exact h
theorem zb120_36_p41 {d : Nat} {Q : Int → z_M → Prop} (l1 : Int) (l2 : Int) (l3 : Int) (l4 : Int) (l5 : Int) {V : z_M}
    (h : zI (l5 < (V 37 7)) (zI (l3 < l1) (zGu (0 ≤ l5 ∧ l5 < 12) (∀ x64 : Int, x64 = V 139 l5.toNat → zI (x64 = (z_sub (z_sub l2 l3) 1)) (zI (l4 = (-1)) (z_Ex (z_MS d) 120 Q true 41 [some (.inr (.inr 36)), some (.inl l1), some (.inl l2), some (.inl (z_add l3 1)), some (.inl l5), some (.inl (z_add l5 1))] [] 0 0 V) (z_MS d 89 true [.inr (.inr 37), .inl l4, .inl l5] V (fun z4201 V4201 => zI (z4201 = 0) (z_Ex (z_MS d) 120 Q true 41 [some (.inr (.inr 36)), some (.inl l1), some (.inl l2), some (.inl l3), some (.inl l4), some (.inl (z_add l5 1))] [] 0 0 V4201) (z_Ex (z_MS d) 120 Q true 41 [some (.inr (.inr 36)), some (.inl l1), some (.inl l2), some (.inl (z_add l3 1)), some (.inl l5), some (.inl (z_add l5 1))] [] 0 0 V4201)))) (z_Ex (z_MS d) 120 Q true 41 [some (.inr (.inr 36)), some (.inl l1), some (.inl l2), some (.inl l3), some (.inl l4), some (.inl (z_add l5 1))] [] 0 0 V))) (Q l4 V)) (Q l4 V)) :
    z_Ex (z_MS d) 120 Q true 41 [some (.inr (.inr 36)), some (.inl l1), some (.inl l2), some (.inl l3), some (.inl l4), some (.inl l5)] [] 0 0 V := by
  refine ze_iload (pc := 41) zr_120_41 rfl ?_
  refine ze_aload_n (pc := 43) zr_120_43 rfl ?_
  refine ze_getfield (pc := 44) (v := .inr (.inr 37)) zr_120_44 rfl rfl ?_
  refine ze_getfield (pc := 47) (v := .inl (V 37 7)) zr_120_47 rfl rfl ?_
  refine zq_icmp_ge (pc := 50) (t := 106) zr_120_50 (by decide) (z_toif h) (fun h => ?_) (fun h => ?_)
  · refine ze_iload_n (pc := 53) zr_120_53 rfl ?_
    refine ze_iload_n (pc := 54) zr_120_54 rfl ?_
    refine zq_icmp_ge (pc := 55) (t := 106) zr_120_55 (by decide) (z_toif h) (fun h => ?_) (fun h => ?_)
    · refine ze_aload_n (pc := 58) zr_120_58 rfl ?_
      refine ze_getfield (pc := 59) (v := .inr (.inr 139)) zr_120_59 rfl rfl ?_
      refine ze_iload (pc := 62) zr_120_62 rfl ?_
      refine z_gk h (fun g64 h => ?_)
      refine zl_iaload (pc := 64) zr_120_64 rfl rfl g64 h (fun x64 h => ?_)
      refine ze_iload_n (pc := 65) zr_120_65 rfl ?_
      refine ze_iload_n (pc := 66) zr_120_66 rfl ?_
      refine ze_isub (pc := 67) zr_120_67 ?_
      refine ze_iconst (pc := 68) zr_120_68 (by decide) ?_
      refine ze_isub (pc := 69) zr_120_69 ?_
      refine zq_icmp_ne (pc := 70) (t := 100) zr_120_70 (by decide) (z_toif h) (fun h => ?_) (fun h => ?_)
      · refine ze_iload (pc := 73) zr_120_73 rfl ?_
        refine ze_iconst (pc := 75) zr_120_75 (by decide) ?_
        refine zq_icmp_eq (pc := 76) (t := 93) zr_120_76 (by decide) (z_toif h) (fun h => ?_) (fun h => ?_)
        · refine ze_iload (pc := 93) zr_120_93 rfl ?_
          refine zq_istore (pc := 95) (ls2 := [some (.inr (.inr 36)), some (.inl l1), some (.inl l2), some (.inl l3), some (.inl l5), some (.inl l5)]) zr_120_95 rfl rfl ?_
          refine zq_iinc (pc := 97) (ls2 := [some (.inr (.inr 36)), some (.inl l1), some (.inl l2), some (.inl (z_add l3 1)), some (.inl l5), some (.inl l5)]) zr_120_97 rfl rfl rfl ?_
          refine zq_iinc (pc := 100) (ls2 := [some (.inr (.inr 36)), some (.inl l1), some (.inl l2), some (.inl (z_add l3 1)), some (.inl l5), some (.inl (z_add l5 1))]) zr_120_100 rfl rfl rfl ?_
          refine ze_goto (pc := 103) (t := 41) zr_120_103 (by decide) ?_
          exact h
        · refine ze_aload_n (pc := 79) zr_120_79 rfl ?_
          refine ze_getfield (pc := 80) (v := .inr (.inr 37)) zr_120_80 rfl rfl ?_
          refine ze_iload (pc := 83) zr_120_83 rfl ?_
          refine ze_iload (pc := 85) zr_120_85 rfl ?_
          refine zq_callV1 (pc := 87) (as := [.inr (.inr 37), .inl l4, .inl l5]) (r := []) (kc2 := 0) (ks2 := 0) zr_120_87 rfl (by decide) rfl rfl rfl rfl ⟨rfl, rfl⟩ ⟨rfl, rfl, rfl⟩ h (fun z4201 V4201 h => ?_)
          refine zq_if_eq (pc := 90) (t := 100) zr_120_90 (by decide) (z_toif h) (fun h => ?_) (fun h => ?_)
          · refine zq_iinc (pc := 100) (ls2 := [some (.inr (.inr 36)), some (.inl l1), some (.inl l2), some (.inl l3), some (.inl l4), some (.inl (z_add l5 1))]) zr_120_100 rfl rfl rfl ?_
            refine ze_goto (pc := 103) (t := 41) zr_120_103 (by decide) ?_
            exact h
          · refine ze_iload (pc := 93) zr_120_93 rfl ?_
            refine zq_istore (pc := 95) (ls2 := [some (.inr (.inr 36)), some (.inl l1), some (.inl l2), some (.inl l3), some (.inl l5), some (.inl l5)]) zr_120_95 rfl rfl ?_
            refine zq_iinc (pc := 97) (ls2 := [some (.inr (.inr 36)), some (.inl l1), some (.inl l2), some (.inl (z_add l3 1)), some (.inl l5), some (.inl l5)]) zr_120_97 rfl rfl rfl ?_
            refine zq_iinc (pc := 100) (ls2 := [some (.inr (.inr 36)), some (.inl l1), some (.inl l2), some (.inl (z_add l3 1)), some (.inl l5), some (.inl (z_add l5 1))]) zr_120_100 rfl rfl rfl ?_
            refine ze_goto (pc := 103) (t := 41) zr_120_103 (by decide) ?_
            exact h
      · refine zq_iinc (pc := 100) (ls2 := [some (.inr (.inr 36)), some (.inl l1), some (.inl l2), some (.inl l3), some (.inl l4), some (.inl (z_add l5 1))]) zr_120_100 rfl rfl rfl ?_
        refine ze_goto (pc := 103) (t := 41) zr_120_103 (by decide) ?_
        exact h
    · refine ze_iload (pc := 106) zr_120_106 rfl ?_
      exact zq_ret1 (pc := 108) zr_120_108 rfl h
  · refine ze_iload (pc := 106) zr_120_106 rfl ?_
    exact zq_ret1 (pc := 108) zr_120_108 rfl h
theorem zb121_36 {d : Nat} {Q : Int → z_M → Prop} (a0 : Int) {V : z_M}
    (h : z_MS d 134 true [.inl 0, .inl a0] V (fun z1 V1 => zI (z1 = 0) (z_MS d 130 true [.inr (.inr 36), .inl (-1)] V1 (fun z4 V4 => Q z4 V4)) (z_MS d 81 true [.inr (.inr 37), .inl a0] V1 (fun z2 V2 => z_MS d 132 true [.inr (.inr 36), .inl z2] V2 (fun z3 V3 => Q z3 V3))))) :
    z_MS (d + 1) 121 true [.inr (.inr 36), .inl a0] V Q := by
  show z_Ex (z_MS d) 121 Q true 0 [some (.inr (.inr 36)), some (.inl a0)] [] 0 0 V
  refine ze_iconst (pc := 0) zr_121_0 (by decide) ?_
  refine ze_iload_n (pc := 1) zr_121_1 rfl ?_
  refine zq_callS1 (pc := 2) (as := [.inl 0, .inl a0]) (r := []) (kc2 := 0) (ks2 := 0) zr_121_2 rfl rfl rfl rfl ⟨rfl, rfl⟩ ⟨rfl, rfl, rfl⟩ h (fun z1 V1 h => ?_)
  refine zq_if_ne (pc := 5) (t := 14) zr_121_5 (by decide) (z_toif h) (fun h => ?_) (fun h => ?_)
  · refine ze_aload_n (pc := 8) zr_121_8 rfl ?_
    refine ze_iconst (pc := 9) zr_121_9 (by decide) ?_
    refine zq_callV1 (pc := 10) (as := [.inr (.inr 36), .inl (-1)]) (r := []) (kc2 := 0) (ks2 := 0) zr_121_10 rfl (by decide) rfl rfl rfl rfl ⟨rfl, rfl⟩ ⟨rfl, rfl, rfl⟩ h (fun z4 V4 h => ?_)
    exact zq_ret1 (pc := 13) zr_121_13 rfl h
  · refine ze_aload_n (pc := 14) zr_121_14 rfl ?_
    refine ze_aload_n (pc := 15) zr_121_15 rfl ?_
    refine ze_getfield (pc := 16) (v := .inr (.inr 37)) zr_121_16 rfl rfl ?_
    refine ze_iload_n (pc := 19) zr_121_19 rfl ?_
    refine zq_callV1 (pc := 20) (as := [.inr (.inr 37), .inl a0]) (r := [.inr (.inr 36)]) (kc2 := 0) (ks2 := 0) zr_121_20 rfl (by decide) rfl rfl rfl rfl ⟨rfl, rfl⟩ ⟨rfl, rfl, rfl⟩ h (fun z2 V2 h => ?_)
    refine zq_callV1 (pc := 23) (as := [.inr (.inr 36), .inl z2]) (r := []) (kc2 := 0) (ks2 := 0) zr_121_23 rfl (by decide) rfl rfl rfl rfl ⟨rfl, rfl⟩ ⟨rfl, rfl, rfl⟩ h (fun z3 V3 h => ?_)
    exact zq_ret1 (pc := 26) zr_121_26 rfl h
theorem zb122_36 {d : Nat} {Q : Int → z_M → Prop}  {V : z_M}
    (h : ∀ W1, W1 = z_up V 37 12 0 → Q (V 37 12) W1) :
    z_MS (d + 1) 122 true [.inr (.inr 36)] V Q := by
  show z_Ex (z_MS d) 122 Q true 0 [some (.inr (.inr 36)), none] [] 0 0 V
  refine ze_aload_n (pc := 0) zr_122_0 rfl ?_
  refine ze_getfield (pc := 1) (v := .inr (.inr 37)) zr_122_1 rfl rfl ?_
  refine ze_getfield (pc := 4) (v := .inl (V 37 12)) zr_122_4 rfl rfl ?_
  refine zq_istore_n (pc := 7) (ls2 := [some (.inr (.inr 36)), some (.inl (V 37 12))]) zr_122_7 rfl rfl ?_
  refine ze_aload_n (pc := 8) zr_122_8 rfl ?_
  refine ze_getfield (pc := 9) (v := .inr (.inr 37)) zr_122_9 rfl rfl ?_
  refine ze_iconst (pc := 12) zr_122_12 (by decide) ?_
  refine zq_putI (pc := 13) zr_122_13 (by decide) rfl h (fun W1 h => ?_)
  refine ze_iload_n (pc := 16) zr_122_16 rfl ?_
  exact zq_ret1 (pc := 17) zr_122_17 rfl h
theorem zb123_36 {d : Nat} {Q : Int → z_M → Prop} (a0 : Int) (a1 : Int) {V : z_M}
    (h : z_MS d 133 true [.inl a0, .inl 0, .inl 8] V (fun z1 V1 => zI (z1 = 0) (Q (-1) V1) (zI ((V1 37 12) = 0) (Q (-1) V1) (zI (a1 < (-1)) (Q (-1) V1) (z_Ex (z_MS d) 123 Q true 32 [some (.inr (.inr 36)), some (.inl a0), some (.inl a1), some (.inl 0), some (.inl 0)] [] 0 0 V1))))) :
    z_MS (d + 1) 123 true [.inr (.inr 36), .inl a0, .inl a1] V Q := by
  show z_Ex (z_MS d) 123 Q true 0 [some (.inr (.inr 36)), some (.inl a0), some (.inl a1), none, none] [] 0 0 V
  refine ze_iload_n (pc := 0) zr_123_0 rfl ?_
  refine ze_iconst (pc := 1) zr_123_1 (by decide) ?_
  refine ze_bipush (pc := 2) zr_123_2 (by decide) ?_
  refine zq_callS1 (pc := 4) (as := [.inl a0, .inl 0, .inl 8]) (r := []) (kc2 := 0) (ks2 := 0) zr_123_4 rfl rfl rfl rfl ⟨rfl, rfl⟩ ⟨rfl, rfl, rfl⟩ h (fun z1 V1 h => ?_)
  refine zq_if_eq (pc := 7) (t := 25) zr_123_7 (by decide) (z_toif h) (fun h => ?_) (fun h => ?_)
  · refine ze_iconst (pc := 25) zr_123_25 (by decide) ?_
    exact zq_ret1 (pc := 26) zr_123_26 rfl h
  · refine ze_aload_n (pc := 10) zr_123_10 rfl ?_
    refine ze_getfield (pc := 11) (v := .inr (.inr 37)) zr_123_11 rfl rfl ?_
    refine ze_getfield (pc := 14) (v := .inl (V1 37 12)) zr_123_14 rfl rfl ?_
    refine zq_if_eq (pc := 17) (t := 25) zr_123_17 (by decide) (z_toif h) (fun h => ?_) (fun h => ?_)
    · refine ze_iconst (pc := 25) zr_123_25 (by decide) ?_
      exact zq_ret1 (pc := 26) zr_123_26 rfl h
    · refine ze_iload_n (pc := 20) zr_123_20 rfl ?_
      refine ze_iconst (pc := 21) zr_123_21 (by decide) ?_
      refine zq_icmp_ge (pc := 22) (t := 27) zr_123_22 (by decide) (z_toif h) (fun h => ?_) (fun h => ?_)
      · refine ze_iconst (pc := 25) zr_123_25 (by decide) ?_
        exact zq_ret1 (pc := 26) zr_123_26 rfl h
      · refine ze_iconst (pc := 27) zr_123_27 (by decide) ?_
        refine zq_istore_n (pc := 28) (ls2 := [some (.inr (.inr 36)), some (.inl a0), some (.inl a1), some (.inl 0), none]) zr_123_28 rfl rfl ?_
        refine ze_iconst (pc := 29) zr_123_29 (by decide) ?_
        refine zq_istore (pc := 30) (ls2 := [some (.inr (.inr 36)), some (.inl a0), some (.inl a1), some (.inl 0), some (.inl 0)]) zr_123_30 rfl rfl ?_
        exact h
theorem zb123_36_p32 {d : Nat} {Q : Int → z_M → Prop} (l1 : Int) (l2 : Int) (l3 : Int) (l4 : Int) {V : z_M}
    (h : zI (l4 < (V 37 7)) (z_MS d 90 true [.inr (.inr 37), .inl l4, .inl l1] V (fun z3301 V3301 => zI (z3301 = 0) (z_Ex (z_MS d) 123 Q true 32 [some (.inr (.inr 36)), some (.inl l1), some (.inl l2), some (.inl l3), some (.inl (z_add l4 1))] [] 0 0 V3301) (zI (l3 = l2) (Q l4 V3301) (z_Ex (z_MS d) 123 Q true 32 [some (.inr (.inr 36)), some (.inl l1), some (.inl l2), some (.inl (z_add l3 1)), some (.inl (z_add l4 1))] [] 0 0 V3301)))) (Q (if l2 = (-1) then l3 else -1) V)) :
    z_Ex (z_MS d) 123 Q true 32 [some (.inr (.inr 36)), some (.inl l1), some (.inl l2), some (.inl l3), some (.inl l4)] [] 0 0 V := by
  refine ze_iload (pc := 32) zr_123_32 rfl ?_
  refine ze_aload_n (pc := 34) zr_123_34 rfl ?_
  refine ze_getfield (pc := 35) (v := .inr (.inr 37)) zr_123_35 rfl rfl ?_
  refine ze_getfield (pc := 38) (v := .inl (V 37 7)) zr_123_38 rfl rfl ?_
  refine zq_icmp_ge (pc := 41) (t := 74) zr_123_41 (by decide) (z_toif h) (fun h => ?_) (fun h => ?_)
  · refine ze_aload_n (pc := 44) zr_123_44 rfl ?_
    refine ze_getfield (pc := 45) (v := .inr (.inr 37)) zr_123_45 rfl rfl ?_
    refine ze_iload (pc := 48) zr_123_48 rfl ?_
    refine ze_iload_n (pc := 50) zr_123_50 rfl ?_
    refine zq_callV1 (pc := 51) (as := [.inr (.inr 37), .inl l4, .inl l1]) (r := []) (kc2 := 0) (ks2 := 0) zr_123_51 rfl (by decide) rfl rfl rfl rfl ⟨rfl, rfl⟩ ⟨rfl, rfl, rfl⟩ h (fun z3301 V3301 h => ?_)
    refine zq_if_eq (pc := 54) (t := 68) zr_123_54 (by decide) (z_toif h) (fun h => ?_) (fun h => ?_)
    · refine zq_iinc (pc := 68) (ls2 := [some (.inr (.inr 36)), some (.inl l1), some (.inl l2), some (.inl l3), some (.inl (z_add l4 1))]) zr_123_68 rfl rfl rfl ?_
      refine ze_goto (pc := 71) (t := 32) zr_123_71 (by decide) ?_
      exact h
    · refine ze_iload_n (pc := 57) zr_123_57 rfl ?_
      refine ze_iload_n (pc := 58) zr_123_58 rfl ?_
      refine zq_icmp_ne (pc := 59) (t := 65) zr_123_59 (by decide) (z_toif h) (fun h => ?_) (fun h => ?_)
      · refine ze_iload (pc := 62) zr_123_62 rfl ?_
        exact zq_ret1 (pc := 64) zr_123_64 rfl h
      · refine zq_iinc (pc := 65) (ls2 := [some (.inr (.inr 36)), some (.inl l1), some (.inl l2), some (.inl (z_add l3 1)), some (.inl l4)]) zr_123_65 rfl rfl rfl ?_
        refine zq_iinc (pc := 68) (ls2 := [some (.inr (.inr 36)), some (.inl l1), some (.inl l2), some (.inl (z_add l3 1)), some (.inl (z_add l4 1))]) zr_123_68 rfl rfl rfl ?_
        refine ze_goto (pc := 71) (t := 32) zr_123_71 (by decide) ?_
        exact h
  · refine ze_iload_n (pc := 74) zr_123_74 rfl ?_
    refine ze_iconst (pc := 75) zr_123_75 (by decide) ?_
    have j76 : z_Ex (z_MS d) 123 Q true 84 [some (.inr (.inr 36)), some (.inl l1), some (.inl l2), some (.inl l3), some (.inl l4)] [.inl (if l2 = (-1) then l3 else -1)] 0 0 V := by
      exact zq_ret1 (pc := 84) zr_123_84 rfl h
    refine ze_icmp_ne (pc := 76) (t := 83) zr_123_76 (by decide) (fun hc => ?_) (fun hc => ?_)
    · rw [if_pos (show l2 = (-1) from hc)] at j76
      refine ze_iload_n (pc := 79) zr_123_79 rfl ?_
      refine ze_goto (pc := 80) (t := 84) zr_123_80 (by decide) ?_
      exact j76
    · rw [if_neg (show ¬ (l2 = (-1)) from hc)] at j76
      refine ze_iconst (pc := 83) zr_123_83 (by decide) ?_
      exact j76
theorem zb124_36 {d : Nat} {Q : Int → z_M → Prop} (a0 : Int) (a1 : Int) {V : z_M}
    (h : z_MS d 133 true [.inl a0, .inl 0, .inl 1000000] V (fun z1 V1 => zI (z1 = 0) (z_MS d 130 true [.inr (.inr 36), .inl (-1)] V1 (fun z2 V2 => Q z2 V2)) (z_MS d 133 true [.inl a1, .inl 1, .inl 20] V1 (fun z3 V3 => zI (z3 = 0) (z_MS d 130 true [.inr (.inr 36), .inl (-1)] V3 (fun z7 V7 => Q z7 V7)) (z_MS d 139 true [.inr (.inr 36)] V3 (fun z4 V4 => z_MS d 12 true [.inr (.inr 134), .inr (.inr 37), .inr (.inr 97), .inl a0, .inl a1] V4 (fun z5 V5 => z_MS d 131 true [.inr (.inr 36), .inl z5] V5 (fun z6 V6 => Q z6 V6)))))))) :
    z_MS (d + 1) 124 true [.inr (.inr 36), .inl a0, .inl a1] V Q := by
  show z_Ex (z_MS d) 124 Q true 0 [some (.inr (.inr 36)), some (.inl a0), some (.inl a1)] [] 0 0 V
  refine ze_iload_n (pc := 0) zr_124_0 rfl ?_
  refine ze_iconst (pc := 1) zr_124_1 (by decide) ?_
  refine ze_ldcw (pc := 2) (z := 1000000) zr_124_2 (by decide) rfl ?_
  refine zq_callS1 (pc := 5) (as := [.inl a0, .inl 0, .inl 1000000]) (r := []) (kc2 := 0) (ks2 := 0) zr_124_5 rfl rfl rfl rfl ⟨rfl, rfl⟩ ⟨rfl, rfl, rfl⟩ h (fun z1 V1 h => ?_)
  refine zq_if_eq (pc := 8) (t := 21) zr_124_8 (by decide) (z_toif h) (fun h => ?_) (fun h => ?_)
  · refine ze_aload_n (pc := 21) zr_124_21 rfl ?_
    refine ze_iconst (pc := 22) zr_124_22 (by decide) ?_
    refine zq_callV1 (pc := 23) (as := [.inr (.inr 36), .inl (-1)]) (r := []) (kc2 := 0) (ks2 := 0) zr_124_23 rfl (by decide) rfl rfl rfl rfl ⟨rfl, rfl⟩ ⟨rfl, rfl, rfl⟩ h (fun z2 V2 h => ?_)
    exact zq_ret1 (pc := 26) zr_124_26 rfl h
  · refine ze_iload_n (pc := 11) zr_124_11 rfl ?_
    refine ze_iconst (pc := 12) zr_124_12 (by decide) ?_
    refine ze_bipush (pc := 13) zr_124_13 (by decide) ?_
    refine zq_callS1 (pc := 15) (as := [.inl a1, .inl 1, .inl 20]) (r := []) (kc2 := 0) (ks2 := 0) zr_124_15 rfl rfl rfl rfl ⟨rfl, rfl⟩ ⟨rfl, rfl, rfl⟩ h (fun z3 V3 h => ?_)
    refine zq_if_ne (pc := 18) (t := 27) zr_124_18 (by decide) (z_toif h) (fun h => ?_) (fun h => ?_)
    · refine ze_aload_n (pc := 21) zr_124_21 rfl ?_
      refine ze_iconst (pc := 22) zr_124_22 (by decide) ?_
      refine zq_callV1 (pc := 23) (as := [.inr (.inr 36), .inl (-1)]) (r := []) (kc2 := 0) (ks2 := 0) zr_124_23 rfl (by decide) rfl rfl rfl rfl ⟨rfl, rfl⟩ ⟨rfl, rfl, rfl⟩ h (fun z7 V7 h => ?_)
      exact zq_ret1 (pc := 26) zr_124_26 rfl h
    · refine ze_aload_n (pc := 27) zr_124_27 rfl ?_
      refine zq_callV0 (pc := 28) (as := [.inr (.inr 36)]) (r := []) (kc2 := 0) (ks2 := 0) zr_124_28 rfl (by decide) rfl rfl rfl rfl ⟨rfl, rfl⟩ rfl h (fun z4 V4 h => ?_)
      refine ze_aload_n (pc := 31) zr_124_31 rfl ?_
      refine ze_aload_n (pc := 32) zr_124_32 rfl ?_
      refine ze_getfield (pc := 33) (v := .inr (.inr 134)) zr_124_33 rfl rfl ?_
      refine ze_aload_n (pc := 36) zr_124_36 rfl ?_
      refine ze_getfield (pc := 37) (v := .inr (.inr 37)) zr_124_37 rfl rfl ?_
      refine ze_aload_n (pc := 40) zr_124_40 rfl ?_
      refine ze_getfield (pc := 41) (v := .inr (.inr 97)) zr_124_41 rfl rfl ?_
      refine ze_iload_n (pc := 44) zr_124_44 rfl ?_
      refine ze_iload_n (pc := 45) zr_124_45 rfl ?_
      refine zq_callV1 (pc := 46) (as := [.inr (.inr 134), .inr (.inr 37), .inr (.inr 97), .inl a0, .inl a1]) (r := [.inr (.inr 36)]) (kc2 := 0) (ks2 := 0) zr_124_46 rfl (by decide) rfl rfl rfl rfl ⟨rfl, rfl⟩ ⟨rfl, rfl, rfl⟩ h (fun z5 V5 h => ?_)
      refine zq_callV1 (pc := 49) (as := [.inr (.inr 36), .inl z5]) (r := []) (kc2 := 0) (ks2 := 0) zr_124_49 rfl (by decide) rfl rfl rfl rfl ⟨rfl, rfl⟩ ⟨rfl, rfl, rfl⟩ h (fun z6 V6 h => ?_)
      exact zq_ret1 (pc := 52) zr_124_52 rfl h
theorem zb125_36 {d : Nat} {Q : Int → z_M → Prop} (a0 : Int) (a1 : Int) {V : z_M}
    (h : z_MS d 133 true [.inl a0, .inl 0, .inl (z_sub (V 134 1) 1)] V (fun z1 V1 => zI (z1 = 0) (Q (-1) V1) (z_MS d 133 true [.inl a1, .inl 0, .inl 2] V1 (fun z2 V2 => zI (z2 = 0) (Q (-1) V2) (zGu (0 ≤ a1 ∧ a1 < 3) (∀ x36 : Nat, x36 = z_rr true V2 135 a1.toNat → zGu (z_kd x36 = 101) (zGu (0 ≤ a0 ∧ a0 < z_len' V2 x36) (∀ x38 : Int, x38 = V2 x36 a0.toNat → Q x38 V2)))))))) :
    z_MS (d + 1) 125 true [.inr (.inr 36), .inl a0, .inl a1] V Q := by
  show z_Ex (z_MS d) 125 Q true 0 [some (.inr (.inr 36)), some (.inl a0), some (.inl a1)] [] 0 0 V
  refine ze_iload_n (pc := 0) zr_125_0 rfl ?_
  refine ze_iconst (pc := 1) zr_125_1 (by decide) ?_
  refine ze_aload_n (pc := 2) zr_125_2 rfl ?_
  refine ze_getfield (pc := 3) (v := .inr (.inr 134)) zr_125_3 rfl rfl ?_
  refine ze_getfield (pc := 6) (v := .inl (V 134 1)) zr_125_6 rfl rfl ?_
  refine ze_iconst (pc := 9) zr_125_9 (by decide) ?_
  refine ze_isub (pc := 10) zr_125_10 ?_
  refine zq_callS1 (pc := 11) (as := [.inl a0, .inl 0, .inl (z_sub (V 134 1) 1)]) (r := []) (kc2 := 0) (ks2 := 0) zr_125_11 rfl rfl rfl rfl ⟨rfl, rfl⟩ ⟨rfl, rfl, rfl⟩ h (fun z1 V1 h => ?_)
  refine zq_if_eq (pc := 14) (t := 26) zr_125_14 (by decide) (z_toif h) (fun h => ?_) (fun h => ?_)
  · refine ze_iconst (pc := 26) zr_125_26 (by decide) ?_
    exact zq_ret1 (pc := 27) zr_125_27 rfl h
  · refine ze_iload_n (pc := 17) zr_125_17 rfl ?_
    refine ze_iconst (pc := 18) zr_125_18 (by decide) ?_
    refine ze_iconst (pc := 19) zr_125_19 (by decide) ?_
    refine zq_callS1 (pc := 20) (as := [.inl a1, .inl 0, .inl 2]) (r := []) (kc2 := 0) (ks2 := 0) zr_125_20 rfl rfl rfl rfl ⟨rfl, rfl⟩ ⟨rfl, rfl, rfl⟩ h (fun z2 V2 h => ?_)
    refine zq_if_ne (pc := 23) (t := 28) zr_125_23 (by decide) (z_toif h) (fun h => ?_) (fun h => ?_)
    · refine ze_iconst (pc := 26) zr_125_26 (by decide) ?_
      exact zq_ret1 (pc := 27) zr_125_27 rfl h
    · refine ze_aload_n (pc := 28) zr_125_28 rfl ?_
      refine ze_getfield (pc := 29) (v := .inr (.inr 134)) zr_125_29 rfl rfl ?_
      refine ze_getfield (pc := 32) (v := .inr (.inr 135)) zr_125_32 rfl rfl ?_
      refine ze_iload_n (pc := 35) zr_125_35 rfl ?_
      refine z_gk h (fun g36 h => ?_)
      refine zl_aaload (pc := 36) zr_125_36 (by decide) rfl g36 h (fun x36 h => ?_)
      refine ze_iload_n (pc := 37) zr_125_37 rfl ?_
      refine z_gk h (fun k38 h => ?_)
      refine z_gk h (fun g38 h => ?_)
      refine zl_ialoadv (pc := 38) zr_125_38 k38 g38 h (fun x38 h => ?_)
      exact zq_ret1 (pc := 39) zr_125_39 rfl h
theorem zb126_36 {d : Nat} {Q : Int → z_M → Prop} (a0 : Int) {V : z_M}
    (h : z_MS d 133 true [.inl a0, .inl 0, .inl 1] V (fun z1 V1 => zI (z1 = 0) (z_MS d 130 true [.inr (.inr 36), .inl (-1)] V1 (fun z4 V4 => Q z4 V4)) (zGu (0 ≤ a0 ∧ a0 < 2) (∀ x20 : Nat, x20 = z_rr true V1 53 a0.toNat → zGu (z_kd x20 = z_rc 73 ∧ 0 < z_rc 73) (z_MS d 73 true [.inr (.inr x20), .inr (.inr 37)] V1 (fun z2 V2 => zGu (0 ≤ a0 ∧ a0 < 2) (∀ W1, W1 = z_up V2 86 a0.toNat 1 → z_MS d 131 true [.inr (.inr 36), .inl 0] W1 (fun z3 V3 => Q z3 V3)))))))) :
    z_MS (d + 1) 126 true [.inr (.inr 36), .inl a0] V Q := by
  show z_Ex (z_MS d) 126 Q true 0 [some (.inr (.inr 36)), some (.inl a0)] [] 0 0 V
  refine ze_iload_n (pc := 0) zr_126_0 rfl ?_
  refine ze_iconst (pc := 1) zr_126_1 (by decide) ?_
  refine ze_iconst (pc := 2) zr_126_2 (by decide) ?_
  refine zq_callS1 (pc := 3) (as := [.inl a0, .inl 0, .inl 1]) (r := []) (kc2 := 0) (ks2 := 0) zr_126_3 rfl rfl rfl rfl ⟨rfl, rfl⟩ ⟨rfl, rfl, rfl⟩ h (fun z1 V1 h => ?_)
  refine zq_if_ne (pc := 6) (t := 15) zr_126_6 (by decide) (z_toif h) (fun h => ?_) (fun h => ?_)
  · refine ze_aload_n (pc := 9) zr_126_9 rfl ?_
    refine ze_iconst (pc := 10) zr_126_10 (by decide) ?_
    refine zq_callV1 (pc := 11) (as := [.inr (.inr 36), .inl (-1)]) (r := []) (kc2 := 0) (ks2 := 0) zr_126_11 rfl (by decide) rfl rfl rfl rfl ⟨rfl, rfl⟩ ⟨rfl, rfl, rfl⟩ h (fun z4 V4 h => ?_)
    exact zq_ret1 (pc := 14) zr_126_14 rfl h
  · refine ze_aload_n (pc := 15) zr_126_15 rfl ?_
    refine ze_getfield (pc := 16) (v := .inr (.inr 53)) zr_126_16 rfl rfl ?_
    refine ze_iload_n (pc := 19) zr_126_19 rfl ?_
    refine z_gk h (fun g20 h => ?_)
    refine zl_aaload (pc := 20) zr_126_20 (by decide) rfl g20 h (fun x20 h => ?_)
    refine ze_aload_n (pc := 21) zr_126_21 rfl ?_
    refine ze_getfield (pc := 22) (v := .inr (.inr 37)) zr_126_22 rfl rfl ?_
    refine z_gk h (fun g25 h => ?_)
    refine zq_callV0 (pc := 25) (as := [.inr (.inr x20), .inr (.inr 37)]) (r := []) (kc2 := 0) (ks2 := 0) zr_126_25 rfl g25 rfl rfl rfl rfl ⟨rfl, rfl⟩ rfl h (fun z2 V2 h => ?_)
    refine ze_aload_n (pc := 28) zr_126_28 rfl ?_
    refine ze_getfield (pc := 29) (v := .inr (.inr 86)) zr_126_29 rfl rfl ?_
    refine ze_iload_n (pc := 32) zr_126_32 rfl ?_
    refine ze_iconst (pc := 33) zr_126_33 (by decide) ?_
    refine z_gk h (fun g34 h => ?_)
    refine zq_bastore (pc := 34) zr_126_34 (by decide) (by decide) rfl g34 rfl h (fun W1 h => ?_)
    refine ze_aload_n (pc := 35) zr_126_35 rfl ?_
    refine ze_iconst (pc := 36) zr_126_36 (by decide) ?_
    refine zq_callV1 (pc := 37) (as := [.inr (.inr 36), .inl 0]) (r := []) (kc2 := 0) (ks2 := 0) zr_126_37 rfl (by decide) rfl rfl rfl rfl ⟨rfl, rfl⟩ ⟨rfl, rfl, rfl⟩ h (fun z3 V3 h => ?_)
    exact zq_ret1 (pc := 40) zr_126_40 rfl h
theorem zb127_36 {d : Nat} {Q : Int → z_M → Prop} (a0 : Int) {V : z_M}
    (h : z_MS d 133 true [.inl a0, .inl 0, .inl 1] V (fun z1 V1 => zI (z1 = 0) (z_MS d 130 true [.inr (.inr 36), .inl (-1)] V1 (fun z5 V5 => Q z5 V5)) (zGu (0 ≤ a0 ∧ a0 < 2) (∀ x20 : Int, x20 = V1 86 a0.toNat → zI (x20 = 0) (z_MS d 130 true [.inr (.inr 36), .inl (-2)] V1 (fun z4 V4 => Q z4 V4)) (zGu (0 ≤ a0 ∧ a0 < 2) (∀ x40 : Nat, x40 = z_rr true V1 53 a0.toNat → z_MS d 73 true [.inr (.inr 37), .inr (.inr x40)] V1 (fun z2 V2 => z_MS d 131 true [.inr (.inr 36), .inl 0] V2 (fun z3 V3 => Q z3 V3)))))))) :
    z_MS (d + 1) 127 true [.inr (.inr 36), .inl a0] V Q := by
  show z_Ex (z_MS d) 127 Q true 0 [some (.inr (.inr 36)), some (.inl a0)] [] 0 0 V
  refine ze_iload_n (pc := 0) zr_127_0 rfl ?_
  refine ze_iconst (pc := 1) zr_127_1 (by decide) ?_
  refine ze_iconst (pc := 2) zr_127_2 (by decide) ?_
  refine zq_callS1 (pc := 3) (as := [.inl a0, .inl 0, .inl 1]) (r := []) (kc2 := 0) (ks2 := 0) zr_127_3 rfl rfl rfl rfl ⟨rfl, rfl⟩ ⟨rfl, rfl, rfl⟩ h (fun z1 V1 h => ?_)
  refine zq_if_ne (pc := 6) (t := 15) zr_127_6 (by decide) (z_toif h) (fun h => ?_) (fun h => ?_)
  · refine ze_aload_n (pc := 9) zr_127_9 rfl ?_
    refine ze_iconst (pc := 10) zr_127_10 (by decide) ?_
    refine zq_callV1 (pc := 11) (as := [.inr (.inr 36), .inl (-1)]) (r := []) (kc2 := 0) (ks2 := 0) zr_127_11 rfl (by decide) rfl rfl rfl rfl ⟨rfl, rfl⟩ ⟨rfl, rfl, rfl⟩ h (fun z5 V5 h => ?_)
    exact zq_ret1 (pc := 14) zr_127_14 rfl h
  · refine ze_aload_n (pc := 15) zr_127_15 rfl ?_
    refine ze_getfield (pc := 16) (v := .inr (.inr 86)) zr_127_16 rfl rfl ?_
    refine ze_iload_n (pc := 19) zr_127_19 rfl ?_
    refine z_gk h (fun g20 h => ?_)
    refine zl_baload (pc := 20) zr_127_20 (by decide) rfl g20 h (fun x20 h => ?_)
    refine zq_if_ne (pc := 21) (t := 31) zr_127_21 (by decide) (z_toif h) (fun h => ?_) (fun h => ?_)
    · refine ze_aload_n (pc := 24) zr_127_24 rfl ?_
      refine ze_bipush (pc := 25) zr_127_25 (by decide) ?_
      refine zq_callV1 (pc := 27) (as := [.inr (.inr 36), .inl (-2)]) (r := []) (kc2 := 0) (ks2 := 0) zr_127_27 rfl (by decide) rfl rfl rfl rfl ⟨rfl, rfl⟩ ⟨rfl, rfl, rfl⟩ h (fun z4 V4 h => ?_)
      exact zq_ret1 (pc := 30) zr_127_30 rfl h
    · refine ze_aload_n (pc := 31) zr_127_31 rfl ?_
      refine ze_getfield (pc := 32) (v := .inr (.inr 37)) zr_127_32 rfl rfl ?_
      refine ze_aload_n (pc := 35) zr_127_35 rfl ?_
      refine ze_getfield (pc := 36) (v := .inr (.inr 53)) zr_127_36 rfl rfl ?_
      refine ze_iload_n (pc := 39) zr_127_39 rfl ?_
      refine z_gk h (fun g40 h => ?_)
      refine zl_aaload (pc := 40) zr_127_40 (by decide) rfl g40 h (fun x40 h => ?_)
      refine zq_callV0 (pc := 41) (as := [.inr (.inr 37), .inr (.inr x40)]) (r := []) (kc2 := 0) (ks2 := 0) zr_127_41 rfl (by decide) rfl rfl rfl rfl ⟨rfl, rfl⟩ rfl h (fun z2 V2 h => ?_)
      refine ze_aload_n (pc := 44) zr_127_44 rfl ?_
      refine ze_iconst (pc := 45) zr_127_45 (by decide) ?_
      refine zq_callV1 (pc := 46) (as := [.inr (.inr 36), .inl 0]) (r := []) (kc2 := 0) (ks2 := 0) zr_127_46 rfl (by decide) rfl rfl rfl rfl ⟨rfl, rfl⟩ ⟨rfl, rfl, rfl⟩ h (fun z3 V3 h => ?_)
      exact zq_ret1 (pc := 49) zr_127_49 rfl h
theorem zb128_36 {d : Nat} {Q : Int → z_M → Prop} (a0 : Int) {V : z_M}
    (h : zI (a0 = 0) (Q (V 37 7) V) (zI (a0 = 1) (Q (V 37 8) V) (zI (a0 = 2) (Q (V 37 9) V) (zI (a0 = 3) (Q (V 37 11) V) (zI (a0 = 4) (z_MS d 84 true [.inr (.inr 37)] V (fun z1 V1 => Q z1 V1)) (zI (a0 = 5) (Q (V 37 12) V) (zI (a0 = 6) (Q (V 87 1) V) (zI (a0 = 7) (Q (V 140 1) V) (zI (a0 = 8) (Q (V 140 2) V) (zI (a0 = 9) (Q (V 140 3) V) (zI (a0 = 10) (Q (V 140 5) V) (zI (a0 = 11) (Q (V 140 6) V) (zI (a0 = 12) (Q (V 37 10) V) (zI (a0 = 13) (Q (V 46 0) V) (zI (a0 = 14) (Q (V 46 1) V) (Q (-1) V)))))))))))))))) :
    z_MS (d + 1) 128 true [.inr (.inr 36), .inl a0] V Q := by
  show z_Ex (z_MS d) 128 Q true 0 [some (.inr (.inr 36)), some (.inl a0)] [] 0 0 V
  refine ze_iload_n (pc := 0) zr_128_0 rfl ?_
  refine zq_sw (pc := 1) (l := [75, 83, 91, 99, 107, 115, 123, 131, 138, 145, 152, 159, 167, 175, 185]) zr_128_1 (by decide) rfl ?_
  refine zq_swc (n := 1) (z_toif h) rfl (fun h => ?_) (fun h => ?_)
  · refine zq_to (t := 76) (by decide) ?_
    refine ze_aload_n (pc := 76) zr_128_76 rfl ?_
    refine ze_getfield (pc := 77) (v := .inr (.inr 37)) zr_128_77 rfl rfl ?_
    refine ze_getfield (pc := 80) (v := .inl (V 37 7)) zr_128_80 rfl rfl ?_
    exact zq_ret1 (pc := 83) zr_128_83 rfl h
  · refine zq_swc (n := 2) (z_toif h) rfl (fun h => ?_) (fun h => ?_)
    · refine zq_to (t := 84) (by decide) ?_
      refine ze_aload_n (pc := 84) zr_128_84 rfl ?_
      refine ze_getfield (pc := 85) (v := .inr (.inr 37)) zr_128_85 rfl rfl ?_
      refine ze_getfield (pc := 88) (v := .inl (V 37 8)) zr_128_88 rfl rfl ?_
      exact zq_ret1 (pc := 91) zr_128_91 rfl h
    · refine zq_swc (n := 3) (z_toif h) rfl (fun h => ?_) (fun h => ?_)
      · refine zq_to (t := 92) (by decide) ?_
        refine ze_aload_n (pc := 92) zr_128_92 rfl ?_
        refine ze_getfield (pc := 93) (v := .inr (.inr 37)) zr_128_93 rfl rfl ?_
        refine ze_getfield (pc := 96) (v := .inl (V 37 9)) zr_128_96 rfl rfl ?_
        exact zq_ret1 (pc := 99) zr_128_99 rfl h
      · refine zq_swc (n := 4) (z_toif h) rfl (fun h => ?_) (fun h => ?_)
        · refine zq_to (t := 100) (by decide) ?_
          refine ze_aload_n (pc := 100) zr_128_100 rfl ?_
          refine ze_getfield (pc := 101) (v := .inr (.inr 37)) zr_128_101 rfl rfl ?_
          refine ze_getfield (pc := 104) (v := .inl (V 37 11)) zr_128_104 rfl rfl ?_
          exact zq_ret1 (pc := 107) zr_128_107 rfl h
        · refine zq_swc (n := 5) (z_toif h) rfl (fun h => ?_) (fun h => ?_)
          · refine zq_to (t := 108) (by decide) ?_
            refine ze_aload_n (pc := 108) zr_128_108 rfl ?_
            refine ze_getfield (pc := 109) (v := .inr (.inr 37)) zr_128_109 rfl rfl ?_
            refine zq_callV1 (pc := 112) (as := [.inr (.inr 37)]) (r := []) (kc2 := 0) (ks2 := 0) zr_128_112 rfl (by decide) rfl rfl rfl rfl ⟨rfl, rfl⟩ ⟨rfl, rfl, rfl⟩ h (fun z1 V1 h => ?_)
            exact zq_ret1 (pc := 115) zr_128_115 rfl h
          · refine zq_swc (n := 6) (z_toif h) rfl (fun h => ?_) (fun h => ?_)
            · refine zq_to (t := 116) (by decide) ?_
              refine ze_aload_n (pc := 116) zr_128_116 rfl ?_
              refine ze_getfield (pc := 117) (v := .inr (.inr 37)) zr_128_117 rfl rfl ?_
              refine ze_getfield (pc := 120) (v := .inl (V 37 12)) zr_128_120 rfl rfl ?_
              exact zq_ret1 (pc := 123) zr_128_123 rfl h
            · refine zq_swc (n := 7) (z_toif h) rfl (fun h => ?_) (fun h => ?_)
              · refine zq_to (t := 124) (by decide) ?_
                refine ze_aload_n (pc := 124) zr_128_124 rfl ?_
                refine ze_getfield (pc := 125) (v := .inr (.inr 87)) zr_128_125 rfl rfl ?_
                refine ze_getfield (pc := 128) (v := .inl (V 87 1)) zr_128_128 rfl rfl ?_
                exact zq_ret1 (pc := 131) zr_128_131 rfl h
              · refine zq_swc (n := 8) (z_toif h) rfl (fun h => ?_) (fun h => ?_)
                · refine zq_to (t := 132) (by decide) ?_
                  refine ze_aload_n (pc := 132) zr_128_132 rfl ?_
                  refine ze_getfield (pc := 133) (v := .inr (.inr 140)) zr_128_133 rfl rfl ?_
                  refine ze_iconst (pc := 136) zr_128_136 (by decide) ?_
                  refine zq_iaload (pc := 137) (v := .inl (V 140 1)) zr_128_137 rfl rfl (by decide) rfl ?_
                  exact zq_ret1 (pc := 138) zr_128_138 rfl h
                · refine zq_swc (n := 9) (z_toif h) rfl (fun h => ?_) (fun h => ?_)
                  · refine zq_to (t := 139) (by decide) ?_
                    refine ze_aload_n (pc := 139) zr_128_139 rfl ?_
                    refine ze_getfield (pc := 140) (v := .inr (.inr 140)) zr_128_140 rfl rfl ?_
                    refine ze_iconst (pc := 143) zr_128_143 (by decide) ?_
                    refine zq_iaload (pc := 144) (v := .inl (V 140 2)) zr_128_144 rfl rfl (by decide) rfl ?_
                    exact zq_ret1 (pc := 145) zr_128_145 rfl h
                  · refine zq_swc (n := 10) (z_toif h) rfl (fun h => ?_) (fun h => ?_)
                    · refine zq_to (t := 146) (by decide) ?_
                      refine ze_aload_n (pc := 146) zr_128_146 rfl ?_
                      refine ze_getfield (pc := 147) (v := .inr (.inr 140)) zr_128_147 rfl rfl ?_
                      refine ze_iconst (pc := 150) zr_128_150 (by decide) ?_
                      refine zq_iaload (pc := 151) (v := .inl (V 140 3)) zr_128_151 rfl rfl (by decide) rfl ?_
                      exact zq_ret1 (pc := 152) zr_128_152 rfl h
                    · refine zq_swc (n := 11) (z_toif h) rfl (fun h => ?_) (fun h => ?_)
                      · refine zq_to (t := 153) (by decide) ?_
                        refine ze_aload_n (pc := 153) zr_128_153 rfl ?_
                        refine ze_getfield (pc := 154) (v := .inr (.inr 140)) zr_128_154 rfl rfl ?_
                        refine ze_iconst (pc := 157) zr_128_157 (by decide) ?_
                        refine zq_iaload (pc := 158) (v := .inl (V 140 5)) zr_128_158 rfl rfl (by decide) rfl ?_
                        exact zq_ret1 (pc := 159) zr_128_159 rfl h
                      · refine zq_swc (n := 12) (z_toif h) rfl (fun h => ?_) (fun h => ?_)
                        · refine zq_to (t := 160) (by decide) ?_
                          refine ze_aload_n (pc := 160) zr_128_160 rfl ?_
                          refine ze_getfield (pc := 161) (v := .inr (.inr 140)) zr_128_161 rfl rfl ?_
                          refine ze_bipush (pc := 164) zr_128_164 (by decide) ?_
                          refine zq_iaload (pc := 166) (v := .inl (V 140 6)) zr_128_166 rfl rfl (by decide) rfl ?_
                          exact zq_ret1 (pc := 167) zr_128_167 rfl h
                        · refine zq_swc (n := 13) (z_toif h) rfl (fun h => ?_) (fun h => ?_)
                          · refine zq_to (t := 168) (by decide) ?_
                            refine ze_aload_n (pc := 168) zr_128_168 rfl ?_
                            refine ze_getfield (pc := 169) (v := .inr (.inr 37)) zr_128_169 rfl rfl ?_
                            refine ze_getfield (pc := 172) (v := .inl (V 37 10)) zr_128_172 rfl rfl ?_
                            exact zq_ret1 (pc := 175) zr_128_175 rfl h
                          · refine zq_swc (n := 14) (z_toif h) rfl (fun h => ?_) (fun h => ?_)
                            · refine zq_to (t := 176) (by decide) ?_
                              refine ze_aload_n (pc := 176) zr_128_176 rfl ?_
                              refine ze_getfield (pc := 177) (v := .inr (.inr 37)) zr_128_177 rfl rfl ?_
                              refine ze_getfield (pc := 180) (v := .inr (.inr 46)) zr_128_180 rfl rfl ?_
                              refine ze_iconst (pc := 183) zr_128_183 (by decide) ?_
                              refine zq_iaload (pc := 184) (v := .inl (V 46 0)) zr_128_184 rfl rfl (by decide) rfl ?_
                              exact zq_ret1 (pc := 185) zr_128_185 rfl h
                            · refine zq_swc (n := 15) (z_toif h) rfl (fun h => ?_) (fun h => ?_)
                              · refine zq_to (t := 186) (by decide) ?_
                                refine ze_aload_n (pc := 186) zr_128_186 rfl ?_
                                refine ze_getfield (pc := 187) (v := .inr (.inr 37)) zr_128_187 rfl rfl ?_
                                refine ze_getfield (pc := 190) (v := .inr (.inr 46)) zr_128_190 rfl rfl ?_
                                refine ze_iconst (pc := 193) zr_128_193 (by decide) ?_
                                refine zq_iaload (pc := 194) (v := .inl (V 46 1)) zr_128_194 rfl rfl (by decide) rfl ?_
                                exact zq_ret1 (pc := 195) zr_128_195 rfl h
                              · refine zq_swn ?_
                                refine zq_to (t := 196) (by decide) ?_
                                refine ze_iconst (pc := 196) zr_128_196 (by decide) ?_
                                exact zq_ret1 (pc := 197) zr_128_197 rfl h
theorem zb129_36 {d : Nat} {Q : Int → z_M → Prop}  {V : z_M}
    (h : Q (V 36 15) V) :
    z_MS (d + 1) 129 true [.inr (.inr 36)] V Q := by
  show z_Ex (z_MS d) 129 Q true 0 [some (.inr (.inr 36))] [] 0 0 V
  refine ze_aload_n (pc := 0) zr_129_0 rfl ?_
  refine ze_getfield (pc := 1) (v := .inl (V 36 15)) zr_129_1 rfl rfl ?_
  exact zq_ret1 (pc := 4) zr_129_4 rfl h
theorem zb130_36 {d : Nat} {Q : Int → z_M → Prop} (a0 : Int) {V : z_M}
    (h : ∀ W1, W1 = z_up V 36 15 a0 → z_MS d 133 true [.inl (z_neg a0), .inl 0, .inl (z_sub 7 1)] W1 (fun z1 V1 => zI (z1 = 0) (Q a0 V1) (zGu (0 ≤ (z_neg a0) ∧ (z_neg a0) < 7) (∀ x28 : Int, x28 = V1 140 (z_neg a0).toNat → zGu (0 ≤ (z_neg a0) ∧ (z_neg a0) < 7) (∀ W2, W2 = z_up V1 140 (z_neg a0).toNat (z_add x28 1) → Q a0 W2))))) :
    z_MS (d + 1) 130 true [.inr (.inr 36), .inl a0] V Q := by
  show z_Ex (z_MS d) 130 Q true 0 [some (.inr (.inr 36)), some (.inl a0)] [] 0 0 V
  refine ze_aload_n (pc := 0) zr_130_0 rfl ?_
  refine ze_iload_n (pc := 1) zr_130_1 rfl ?_
  refine zq_putI (pc := 2) zr_130_2 (by decide) rfl h (fun W1 h => ?_)
  refine ze_iload_n (pc := 5) zr_130_5 rfl ?_
  refine ze_ineg (pc := 6) zr_130_6 ?_
  refine ze_iconst (pc := 7) zr_130_7 (by decide) ?_
  refine ze_aload_n (pc := 8) zr_130_8 rfl ?_
  refine ze_getfield (pc := 9) (v := .inr (.inr 140)) zr_130_9 rfl rfl ?_
  refine ze_length (pc := 12) (z := 7) zr_130_12 (by decide) rfl ?_
  refine ze_iconst (pc := 13) zr_130_13 (by decide) ?_
  refine ze_isub (pc := 14) zr_130_14 ?_
  refine zq_callS1 (pc := 15) (as := [.inl (z_neg a0), .inl 0, .inl (z_sub 7 1)]) (r := []) (kc2 := 0) (ks2 := 0) zr_130_15 rfl rfl rfl rfl ⟨rfl, rfl⟩ ⟨rfl, rfl, rfl⟩ h (fun z1 V1 h => ?_)
  refine zq_if_eq (pc := 18) (t := 32) zr_130_18 (by decide) (z_toif h) (fun h => ?_) (fun h => ?_)
  · refine ze_iload_n (pc := 32) zr_130_32 rfl ?_
    exact zq_ret1 (pc := 33) zr_130_33 rfl h
  · refine ze_aload_n (pc := 21) zr_130_21 rfl ?_
    refine ze_getfield (pc := 22) (v := .inr (.inr 140)) zr_130_22 rfl rfl ?_
    refine ze_iload_n (pc := 25) zr_130_25 rfl ?_
    refine ze_ineg (pc := 26) zr_130_26 ?_
    refine zq_dup2 (pc := 27) zr_130_27 rfl rfl ?_
    refine z_gk h (fun g28 h => ?_)
    refine zl_iaload (pc := 28) zr_130_28 rfl rfl g28 h (fun x28 h => ?_)
    refine ze_iconst (pc := 29) zr_130_29 (by decide) ?_
    refine ze_iadd (pc := 30) zr_130_30 ?_
    refine z_gk h (fun g31 h => ?_)
    refine zq_iastore (pc := 31) zr_130_31 (by decide) rfl g31 rfl h (fun W2 h => ?_)
    refine ze_iload_n (pc := 32) zr_130_32 rfl ?_
    exact zq_ret1 (pc := 33) zr_130_33 rfl h
theorem zb131_36 {d : Nat} {Q : Int → z_M → Prop} (a0 : Int) {V : z_M}
    (h : ∀ W1, W1 = z_up V 36 15 0 → ∀ W2, W2 = z_up W1 119 1 0 → ∀ W3, W3 = z_up W2 123 1 0 → Q a0 W3) :
    z_MS (d + 1) 131 true [.inr (.inr 36), .inl a0] V Q := by
  show z_Ex (z_MS d) 131 Q true 0 [some (.inr (.inr 36)), some (.inl a0)] [] 0 0 V
  refine ze_aload_n (pc := 0) zr_131_0 rfl ?_
  refine ze_iconst (pc := 1) zr_131_1 (by decide) ?_
  refine zq_putI (pc := 2) zr_131_2 (by decide) rfl h (fun W1 h => ?_)
  refine ze_aload_n (pc := 5) zr_131_5 rfl ?_
  refine ze_getfield (pc := 6) (v := .inr (.inr 118)) zr_131_6 rfl rfl ?_
  refine ze_getfield (pc := 9) (v := .inr (.inr 119)) zr_131_9 rfl rfl ?_
  refine ze_iconst (pc := 12) zr_131_12 (by decide) ?_
  refine zq_putZ (pc := 13) zr_131_13 (by decide) rfl (by decide) h (fun W2 h => ?_)
  refine ze_aload_n (pc := 16) zr_131_16 rfl ?_
  refine ze_getfield (pc := 17) (v := .inr (.inr 122)) zr_131_17 rfl rfl ?_
  refine ze_getfield (pc := 20) (v := .inr (.inr 123)) zr_131_20 rfl rfl ?_
  refine ze_iconst (pc := 23) zr_131_23 (by decide) ?_
  refine zq_putZ (pc := 24) zr_131_24 (by decide) rfl (by decide) h (fun W3 h => ?_)
  refine ze_iload_n (pc := 27) zr_131_27 rfl ?_
  exact zq_ret1 (pc := 28) zr_131_28 rfl h
theorem zb132_36 {d : Nat} {Q : Int → z_M → Prop} (a0 : Int) {V : z_M}
    (h : zI (a0 = (-1)) (z_MS d 130 true [.inr (.inr 36), .inl (-5)] V (fun z2 V2 => Q z2 V2)) (z_MS d 131 true [.inr (.inr 36), .inl a0] V (fun z1 V1 => Q z1 V1))) :
    z_MS (d + 1) 132 true [.inr (.inr 36), .inl a0] V Q := by
  show z_Ex (z_MS d) 132 Q true 0 [some (.inr (.inr 36)), some (.inl a0)] [] 0 0 V
  refine ze_iload_n (pc := 0) zr_132_0 rfl ?_
  refine ze_iconst (pc := 1) zr_132_1 (by decide) ?_
  refine zq_icmp_ne (pc := 2) (t := 14) zr_132_2 (by decide) (z_toif h) (fun h => ?_) (fun h => ?_)
  · refine ze_aload_n (pc := 5) zr_132_5 rfl ?_
    refine ze_bipush (pc := 6) zr_132_6 (by decide) ?_
    refine zq_callV1 (pc := 8) (as := [.inr (.inr 36), .inl (-5)]) (r := []) (kc2 := 0) (ks2 := 0) zr_132_8 rfl (by decide) rfl rfl rfl rfl ⟨rfl, rfl⟩ ⟨rfl, rfl, rfl⟩ h (fun z2 V2 h => ?_)
    refine ze_goto (pc := 11) (t := 19) zr_132_11 (by decide) ?_
    exact zq_ret1 (pc := 19) zr_132_19 rfl h
  · refine ze_aload_n (pc := 14) zr_132_14 rfl ?_
    refine ze_iload_n (pc := 15) zr_132_15 rfl ?_
    refine zq_callV1 (pc := 16) (as := [.inr (.inr 36), .inl a0]) (r := []) (kc2 := 0) (ks2 := 0) zr_132_16 rfl (by decide) rfl rfl rfl rfl ⟨rfl, rfl⟩ ⟨rfl, rfl, rfl⟩ h (fun z1 V1 h => ?_)
    exact zq_ret1 (pc := 19) zr_132_19 rfl h
theorem zb133 {d : Nat} {Q : Int → z_M → Prop} (a0 : Int) (a1 : Int) (a2 : Int) {V : z_M}
    (h : Q (if a0 < a1 then 0 else (if a2 < a0 then 0 else 1)) V) :
    z_MS (d + 1) 133 true [.inl a0, .inl a1, .inl a2] V Q := by
  show z_Ex (z_MS d) 133 Q true 0 [some (.inl a0), some (.inl a1), some (.inl a2)] [] 0 0 V
  refine ze_iload_n (pc := 0) zr_133_0 rfl ?_
  refine ze_iload_n (pc := 1) zr_133_1 rfl ?_
  have j2 : z_Ex (z_MS d) 133 Q true 15 [some (.inl a0), some (.inl a1), some (.inl a2)] [.inl (if a0 < a1 then 0 else (if a2 < a0 then 0 else 1))] 0 0 V := by
    exact zq_ret4 (pc := 15) zr_133_15 rfl (by (repeat' split) <;> decide) h
  refine ze_icmp_gt (pc := 2) (t := 14) zr_133_2 (by decide) (fun hc => ?_) (fun hc => ?_)
  · rw [if_pos (show a0 < a1 from hc)] at j2
    refine ze_iconst (pc := 14) zr_133_14 (by decide) ?_
    exact j2
  · rw [if_neg (show ¬ (a0 < a1) from hc)] at j2
    refine ze_iload_n (pc := 5) zr_133_5 rfl ?_
    refine ze_iload_n (pc := 6) zr_133_6 rfl ?_
    refine ze_icmp_gt (pc := 7) (t := 14) zr_133_7 (by decide) (fun hc => ?_) (fun hc => ?_)
    · rw [if_pos (show a2 < a0 from hc)] at j2
      refine ze_iconst (pc := 14) zr_133_14 (by decide) ?_
      exact j2
    · rw [if_neg (show ¬ (a2 < a0) from hc)] at j2
      refine ze_iconst (pc := 10) zr_133_10 (by decide) ?_
      refine ze_goto (pc := 11) (t := 15) zr_133_11 (by decide) ?_
      exact j2
theorem zb134 {d : Nat} {Q : Int → z_M → Prop} (a0 : Int) (a1 : Int) {V : z_M}
    (h : z_MS d 133 true [.inl a0, .inl 0, .inl 3] V (fun z1 V1 => zI (z1 = 0) (Q 0 V1) (zGu (0 ≤ a0 ∧ a0 < 4) (∀ x14 : Int, x14 = V1 2 a0.toNat → zGu (0 ≤ a0 ∧ a0 < 4) (∀ x19 : Int, x19 = V1 3 a0.toNat → z_MS d 133 true [.inl a1, .inl x14, .inl x19] V1 (fun z2 V2 => Q (if z2 = 0 then 0 else 1) V2)))))) :
    z_MS (d + 1) 134 true [.inl a0, .inl a1] V Q := by
  show z_Ex (z_MS d) 134 Q true 0 [some (.inl a0), some (.inl a1)] [] 0 0 V
  refine ze_iload_n (pc := 0) zr_134_0 rfl ?_
  refine ze_iconst (pc := 1) zr_134_1 (by decide) ?_
  refine ze_iconst (pc := 2) zr_134_2 (by decide) ?_
  refine zq_callS1 (pc := 3) (as := [.inl a0, .inl 0, .inl 3]) (r := []) (kc2 := 0) (ks2 := 0) zr_134_3 rfl rfl rfl rfl ⟨rfl, rfl⟩ ⟨rfl, rfl, rfl⟩ h (fun z1 V1 h => ?_)
  refine zq_if_eq (pc := 6) (t := 30) zr_134_6 (by decide) (z_toif h) (fun h => ?_) (fun h => ?_)
  · refine ze_iconst (pc := 30) zr_134_30 (by decide) ?_
    exact zq_ret4 (pc := 31) zr_134_31 rfl (by decide) h
  · refine ze_iload_n (pc := 9) zr_134_9 rfl ?_
    refine ze_static (pc := 10) zr_134_10 rfl (by decide) ?_
    refine ze_iload_n (pc := 13) zr_134_13 rfl ?_
    refine z_gk h (fun g14 h => ?_)
    refine zl_iaload (pc := 14) zr_134_14 rfl rfl g14 h (fun x14 h => ?_)
    refine ze_static (pc := 15) zr_134_15 rfl (by decide) ?_
    refine ze_iload_n (pc := 18) zr_134_18 rfl ?_
    refine z_gk h (fun g19 h => ?_)
    refine zl_iaload (pc := 19) zr_134_19 rfl rfl g19 h (fun x19 h => ?_)
    refine zq_callS1 (pc := 20) (as := [.inl a1, .inl x14, .inl x19]) (r := []) (kc2 := 0) (ks2 := 0) zr_134_20 rfl rfl rfl rfl ⟨rfl, rfl⟩ ⟨rfl, rfl, rfl⟩ h (fun z2 V2 h => ?_)
    have j23 : z_Ex (z_MS d) 134 Q true 31 [some (.inl a0), some (.inl a1)] [.inl (if z2 = 0 then 0 else 1)] 0 0 V2 := by
      exact zq_ret4 (pc := 31) zr_134_31 rfl (by (repeat' split) <;> decide) h
    refine ze_if_eq (pc := 23) (t := 30) zr_134_23 (by decide) (fun hc => ?_) (fun hc => ?_)
    · rw [if_pos (show z2 = 0 from hc)] at j23
      refine ze_iconst (pc := 30) zr_134_30 (by decide) ?_
      exact j23
    · rw [if_neg (show ¬ (z2 = 0) from hc)] at j23
      refine ze_iconst (pc := 26) zr_134_26 (by decide) ?_
      refine ze_goto (pc := 27) (t := 31) zr_134_27 (by decide) ?_
      exact j23
theorem zb135 {d : Nat} {Q : Int → z_M → Prop} (a0 : Int) (a1 : Int) {V : z_M}
    (h : z_MS d 133 true [.inl a0, .inl 0, .inl 1] V (fun z1 V1 => zI (z1 = 0) (Q 0 V1) (zGu (0 ≤ a0 ∧ a0 < 2) (∀ x15 : Int, x15 = V1 4 a0.toNat → z_MS d 133 true [.inl a1, .inl 1, .inl x15] V1 (fun z2 V2 => Q (if z2 = 0 then 0 else 1) V2))))) :
    z_MS (d + 1) 135 true [.inl a0, .inl a1] V Q := by
  show z_Ex (z_MS d) 135 Q true 0 [some (.inl a0), some (.inl a1)] [] 0 0 V
  refine ze_iload_n (pc := 0) zr_135_0 rfl ?_
  refine ze_iconst (pc := 1) zr_135_1 (by decide) ?_
  refine ze_iconst (pc := 2) zr_135_2 (by decide) ?_
  refine zq_callS1 (pc := 3) (as := [.inl a0, .inl 0, .inl 1]) (r := []) (kc2 := 0) (ks2 := 0) zr_135_3 rfl rfl rfl rfl ⟨rfl, rfl⟩ ⟨rfl, rfl, rfl⟩ h (fun z1 V1 h => ?_)
  refine zq_if_eq (pc := 6) (t := 26) zr_135_6 (by decide) (z_toif h) (fun h => ?_) (fun h => ?_)
  · refine ze_iconst (pc := 26) zr_135_26 (by decide) ?_
    exact zq_ret4 (pc := 27) zr_135_27 rfl (by decide) h
  · refine ze_iload_n (pc := 9) zr_135_9 rfl ?_
    refine ze_iconst (pc := 10) zr_135_10 (by decide) ?_
    refine ze_static (pc := 11) zr_135_11 rfl (by decide) ?_
    refine ze_iload_n (pc := 14) zr_135_14 rfl ?_
    refine z_gk h (fun g15 h => ?_)
    refine zl_iaload (pc := 15) zr_135_15 rfl rfl g15 h (fun x15 h => ?_)
    refine zq_callS1 (pc := 16) (as := [.inl a1, .inl 1, .inl x15]) (r := []) (kc2 := 0) (ks2 := 0) zr_135_16 rfl rfl rfl rfl ⟨rfl, rfl⟩ ⟨rfl, rfl, rfl⟩ h (fun z2 V2 h => ?_)
    have j19 : z_Ex (z_MS d) 135 Q true 27 [some (.inl a0), some (.inl a1)] [.inl (if z2 = 0 then 0 else 1)] 0 0 V2 := by
      exact zq_ret4 (pc := 27) zr_135_27 rfl (by (repeat' split) <;> decide) h
    refine ze_if_eq (pc := 19) (t := 26) zr_135_19 (by decide) (fun hc => ?_) (fun hc => ?_)
    · rw [if_pos (show z2 = 0 from hc)] at j19
      refine ze_iconst (pc := 26) zr_135_26 (by decide) ?_
      exact j19
    · rw [if_neg (show ¬ (z2 = 0) from hc)] at j19
      refine ze_iconst (pc := 22) zr_135_22 (by decide) ?_
      refine ze_goto (pc := 23) (t := 27) zr_135_23 (by decide) ?_
      exact j19
theorem zb136_46 {d : Nat} {Q : Int → z_M → Prop} (a1 : Int) (a2 : Int) {V : z_M}
    (h : zGu (0 ≤ a1 ∧ a1 < 2) (∀ x2 : Int, x2 = V 46 a1.toNat → zGu (0 ≤ a1 ∧ a1 < 2) (∀ W1, W1 = z_up V 46 a1.toNat a2 → Q x2 W1))) :
    z_MS (d + 1) 136 true [.inr (.inr 46), .inl a1, .inl a2] V Q := by
  show z_Ex (z_MS d) 136 Q true 0 [some (.inr (.inr 46)), some (.inl a1), some (.inl a2), none] [] 0 0 V
  refine ze_aload_n (pc := 0) zr_136_0 rfl ?_
  refine ze_iload_n (pc := 1) zr_136_1 rfl ?_
  refine z_gk h (fun g2 h => ?_)
  refine zl_iaload (pc := 2) zr_136_2 rfl rfl g2 h (fun x2 h => ?_)
  refine zq_istore_n (pc := 3) (ls2 := [some (.inr (.inr 46)), some (.inl a1), some (.inl a2), some (.inl x2)]) zr_136_3 rfl rfl ?_
  refine ze_aload_n (pc := 4) zr_136_4 rfl ?_
  refine ze_iload_n (pc := 5) zr_136_5 rfl ?_
  refine ze_iload_n (pc := 6) zr_136_6 rfl ?_
  refine z_gk h (fun g7 h => ?_)
  refine zq_iastore (pc := 7) zr_136_7 (by decide) rfl g7 rfl h (fun W1 h => ?_)
  refine ze_iload_n (pc := 8) zr_136_8 rfl ?_
  exact zq_ret1 (pc := 9) zr_136_9 rfl h
theorem zb136_v {d : Nat} {Q : Int → z_M → Prop} (a0 : Nat) (a1 : Int) (a2 : Int) {V : z_M}
    (h : zGu (z_kd a0 = 101) (zGu (0 ≤ a1 ∧ a1 < z_len' V a0) (∀ x2 : Int, x2 = V a0 a1.toNat → zGu (z_kd a0 = 101 ∧ 36 ≤ a0) (zGu (0 ≤ a1 ∧ a1 < z_len' V a0) (∀ W1, W1 = z_up V a0 a1.toNat a2 → Q x2 W1))))) :
    z_MS (d + 1) 136 true [.inr (.inr a0), .inl a1, .inl a2] V Q := by
  show z_Ex (z_MS d) 136 Q true 0 [some (.inr (.inr a0)), some (.inl a1), some (.inl a2), none] [] 0 0 V
  refine ze_aload_n (pc := 0) zr_136_0 rfl ?_
  refine ze_iload_n (pc := 1) zr_136_1 rfl ?_
  refine z_gk h (fun k2 h => ?_)
  refine z_gk h (fun g2 h => ?_)
  refine zl_ialoadv (pc := 2) zr_136_2 k2 g2 h (fun x2 h => ?_)
  refine zq_istore_n (pc := 3) (ls2 := [some (.inr (.inr a0)), some (.inl a1), some (.inl a2), some (.inl x2)]) zr_136_3 rfl rfl ?_
  refine ze_aload_n (pc := 4) zr_136_4 rfl ?_
  refine ze_iload_n (pc := 5) zr_136_5 rfl ?_
  refine ze_iload_n (pc := 6) zr_136_6 rfl ?_
  refine z_gk h (fun k7 h => ?_)
  refine z_gk h (fun g7 h => ?_)
  refine zq_iastorev (pc := 7) zr_136_7 k7 g7 rfl h (fun W1 h => ?_)
  refine ze_iload_n (pc := 8) zr_136_8 rfl ?_
  exact zq_ret1 (pc := 9) zr_136_9 rfl h
theorem zb137_36 {d : Nat} {Q : Int → z_M → Prop} (a0 : Int) {V : z_M}
    (h : zI ((z_add a0 2) < (V 87 1)) (zGu (0 ≤ a0 ∧ a0 < 400) (∀ x23 : Int, x23 = V 88 a0.toNat → zGu (0 ≤ (z_add a0 1) ∧ (z_add a0 1) < 400) (∀ x35 : Int, x35 = V 88 (z_add a0 1).toNat → zGu (0 ≤ (z_add a0 2) ∧ (z_add a0 2) < 400) (∀ x47 : Int, x47 = V 88 (z_add a0 2).toNat → z_MS d 134 true [.inl 0, .inl x23] V (fun z1 V1 => zI (z1 = 0) (zI ((0 : Int) = 0) (Q 0 V1) (z_MS d 77 true [.inr (.inr 37), .inl x23, .inl x35, .inl x47] V1 (fun z2 V2 => Q (if z2 = (-1) then 0 else 1) V2))) (z_MS d 134 true [.inl 1, .inl x35] V1 (fun z3 V3 => zI (z3 = 0) (zI ((0 : Int) = 0) (Q 0 V3) (z_MS d 77 true [.inr (.inr 37), .inl x23, .inl x35, .inl x47] V3 (fun z4 V4 => Q (if z4 = (-1) then 0 else 1) V4))) (z_MS d 134 true [.inl 2, .inl x47] V3 (fun z5 V5 => zI ((if z5 = 0 then 0 else 1 : Int) = 0) (Q 0 V5) (z_MS d 77 true [.inr (.inr 37), .inl x23, .inl x35, .inl x47] V5 (fun z6 V6 => Q (if z6 = (-1) then 0 else 1) V6))))))))))) (Q 0 V)) :
    z_MS (d + 1) 137 true [.inr (.inr 36), .inl a0] V Q := by
  show z_Ex (z_MS d) 137 Q true 0 [some (.inr (.inr 36)), some (.inl a0), none, none, none, none] [] 0 0 V
  refine ze_iload_n (pc := 0) zr_137_0 rfl ?_
  refine ze_iconst (pc := 1) zr_137_1 (by decide) ?_
  refine ze_iadd (pc := 2) zr_137_2 ?_
  refine ze_aload_n (pc := 3) zr_137_3 rfl ?_
  refine ze_getfield (pc := 4) (v := .inr (.inr 87)) zr_137_4 rfl rfl ?_
  refine ze_getfield (pc := 7) (v := .inl (V 87 1)) zr_137_7 rfl rfl ?_
  refine zq_icmp_lt (pc := 10) (t := 15) zr_137_10 (by decide) (z_toif h) (fun h => ?_) (fun h => ?_)
  · refine ze_aload_n (pc := 15) zr_137_15 rfl ?_
    refine ze_getfield (pc := 16) (v := .inr (.inr 87)) zr_137_16 rfl rfl ?_
    refine ze_getfield (pc := 19) (v := .inr (.inr 88)) zr_137_19 rfl rfl ?_
    refine ze_iload_n (pc := 22) zr_137_22 rfl ?_
    refine z_gk h (fun g23 h => ?_)
    refine zl_iaload (pc := 23) zr_137_23 rfl rfl g23 h (fun x23 h => ?_)
    refine zq_istore_n (pc := 24) (ls2 := [some (.inr (.inr 36)), some (.inl a0), some (.inl x23), none, none, none]) zr_137_24 rfl rfl ?_
    refine ze_aload_n (pc := 25) zr_137_25 rfl ?_
    refine ze_getfield (pc := 26) (v := .inr (.inr 87)) zr_137_26 rfl rfl ?_
    refine ze_getfield (pc := 29) (v := .inr (.inr 88)) zr_137_29 rfl rfl ?_
    refine ze_iload_n (pc := 32) zr_137_32 rfl ?_
    refine ze_iconst (pc := 33) zr_137_33 (by decide) ?_
    refine ze_iadd (pc := 34) zr_137_34 ?_
    refine z_gk h (fun g35 h => ?_)
    refine zl_iaload (pc := 35) zr_137_35 rfl rfl g35 h (fun x35 h => ?_)
    refine zq_istore_n (pc := 36) (ls2 := [some (.inr (.inr 36)), some (.inl a0), some (.inl x23), some (.inl x35), none, none]) zr_137_36 rfl rfl ?_
    refine ze_aload_n (pc := 37) zr_137_37 rfl ?_
    refine ze_getfield (pc := 38) (v := .inr (.inr 87)) zr_137_38 rfl rfl ?_
    refine ze_getfield (pc := 41) (v := .inr (.inr 88)) zr_137_41 rfl rfl ?_
    refine ze_iload_n (pc := 44) zr_137_44 rfl ?_
    refine ze_iconst (pc := 45) zr_137_45 (by decide) ?_
    refine ze_iadd (pc := 46) zr_137_46 ?_
    refine z_gk h (fun g47 h => ?_)
    refine zl_iaload (pc := 47) zr_137_47 rfl rfl g47 h (fun x47 h => ?_)
    refine zq_istore (pc := 48) (ls2 := [some (.inr (.inr 36)), some (.inl a0), some (.inl x23), some (.inl x35), some (.inl x47), none]) zr_137_48 rfl rfl ?_
    refine ze_iconst (pc := 50) zr_137_50 (by decide) ?_
    refine ze_iload_n (pc := 51) zr_137_51 rfl ?_
    refine zq_callS1 (pc := 52) (as := [.inl 0, .inl x23]) (r := []) (kc2 := 0) (ks2 := 0) zr_137_52 rfl rfl rfl rfl ⟨rfl, rfl⟩ ⟨rfl, rfl, rfl⟩ h (fun z1 V1 h => ?_)
    refine zq_if_eq (pc := 55) (t := 79) zr_137_55 (by decide) (z_toif h) (fun h => ?_) (fun h => ?_)
    · refine ze_iconst (pc := 79) zr_137_79 (by decide) ?_
      refine zq_istore (pc := 80) (ls2 := [some (.inr (.inr 36)), some (.inl a0), some (.inl x23), some (.inl x35), some (.inl x47), some (.inl 0)]) zr_137_80 rfl rfl ?_
      refine ze_iload (pc := 82) zr_137_82 rfl ?_
      refine zq_if_eq (pc := 84) (t := 106) zr_137_84 (by decide) (z_toif h) (fun h => ?_) (fun h => ?_)
      · refine ze_iconst (pc := 106) zr_137_106 (by decide) ?_
        exact zq_ret4 (pc := 107) zr_137_107 rfl (by decide) h
      · refine ze_aload_n (pc := 87) zr_137_87 rfl ?_
        refine ze_getfield (pc := 88) (v := .inr (.inr 37)) zr_137_88 rfl rfl ?_
        refine ze_iload_n (pc := 91) zr_137_91 rfl ?_
        refine ze_iload_n (pc := 92) zr_137_92 rfl ?_
        refine ze_iload (pc := 93) zr_137_93 rfl ?_
        refine zq_callV1 (pc := 95) (as := [.inr (.inr 37), .inl x23, .inl x35, .inl x47]) (r := []) (kc2 := 0) (ks2 := 0) zr_137_95 rfl (by decide) rfl rfl rfl rfl ⟨rfl, rfl⟩ ⟨rfl, rfl, rfl⟩ h (fun z2 V2 h => ?_)
        refine ze_iconst (pc := 98) zr_137_98 (by decide) ?_
        have j99 : z_Ex (z_MS d) 137 Q true 107 [some (.inr (.inr 36)), some (.inl a0), some (.inl x23), some (.inl x35), some (.inl x47), some (.inl 0)] [.inl (if z2 = (-1) then 0 else 1)] 0 0 V2 := by
          exact zq_ret4 (pc := 107) zr_137_107 rfl (by (repeat' split) <;> decide) h
        refine ze_icmp_eq (pc := 99) (t := 106) zr_137_99 (by decide) (fun hc => ?_) (fun hc => ?_)
        · rw [if_pos (show z2 = (-1) from hc)] at j99
          refine ze_iconst (pc := 106) zr_137_106 (by decide) ?_
          exact j99
        · rw [if_neg (show ¬ (z2 = (-1)) from hc)] at j99
          refine ze_iconst (pc := 102) zr_137_102 (by decide) ?_
          refine ze_goto (pc := 103) (t := 107) zr_137_103 (by decide) ?_
          exact j99
    · refine ze_iconst (pc := 58) zr_137_58 (by decide) ?_
      refine ze_iload_n (pc := 59) zr_137_59 rfl ?_
      refine zq_callS1 (pc := 60) (as := [.inl 1, .inl x35]) (r := []) (kc2 := 0) (ks2 := 0) zr_137_60 rfl rfl rfl rfl ⟨rfl, rfl⟩ ⟨rfl, rfl, rfl⟩ h (fun z3 V3 h => ?_)
      refine zq_if_eq (pc := 63) (t := 79) zr_137_63 (by decide) (z_toif h) (fun h => ?_) (fun h => ?_)
      · refine ze_iconst (pc := 79) zr_137_79 (by decide) ?_
        refine zq_istore (pc := 80) (ls2 := [some (.inr (.inr 36)), some (.inl a0), some (.inl x23), some (.inl x35), some (.inl x47), some (.inl 0)]) zr_137_80 rfl rfl ?_
        refine ze_iload (pc := 82) zr_137_82 rfl ?_
        refine zq_if_eq (pc := 84) (t := 106) zr_137_84 (by decide) (z_toif h) (fun h => ?_) (fun h => ?_)
        · refine ze_iconst (pc := 106) zr_137_106 (by decide) ?_
          exact zq_ret4 (pc := 107) zr_137_107 rfl (by decide) h
        · refine ze_aload_n (pc := 87) zr_137_87 rfl ?_
          refine ze_getfield (pc := 88) (v := .inr (.inr 37)) zr_137_88 rfl rfl ?_
          refine ze_iload_n (pc := 91) zr_137_91 rfl ?_
          refine ze_iload_n (pc := 92) zr_137_92 rfl ?_
          refine ze_iload (pc := 93) zr_137_93 rfl ?_
          refine zq_callV1 (pc := 95) (as := [.inr (.inr 37), .inl x23, .inl x35, .inl x47]) (r := []) (kc2 := 0) (ks2 := 0) zr_137_95 rfl (by decide) rfl rfl rfl rfl ⟨rfl, rfl⟩ ⟨rfl, rfl, rfl⟩ h (fun z4 V4 h => ?_)
          refine ze_iconst (pc := 98) zr_137_98 (by decide) ?_
          have j99 : z_Ex (z_MS d) 137 Q true 107 [some (.inr (.inr 36)), some (.inl a0), some (.inl x23), some (.inl x35), some (.inl x47), some (.inl 0)] [.inl (if z4 = (-1) then 0 else 1)] 0 0 V4 := by
            exact zq_ret4 (pc := 107) zr_137_107 rfl (by (repeat' split) <;> decide) h
          refine ze_icmp_eq (pc := 99) (t := 106) zr_137_99 (by decide) (fun hc => ?_) (fun hc => ?_)
          · rw [if_pos (show z4 = (-1) from hc)] at j99
            refine ze_iconst (pc := 106) zr_137_106 (by decide) ?_
            exact j99
          · rw [if_neg (show ¬ (z4 = (-1)) from hc)] at j99
            refine ze_iconst (pc := 102) zr_137_102 (by decide) ?_
            refine ze_goto (pc := 103) (t := 107) zr_137_103 (by decide) ?_
            exact j99
      · refine ze_iconst (pc := 66) zr_137_66 (by decide) ?_
        refine ze_iload (pc := 67) zr_137_67 rfl ?_
        refine zq_callS1 (pc := 69) (as := [.inl 2, .inl x47]) (r := []) (kc2 := 0) (ks2 := 0) zr_137_69 rfl rfl rfl rfl ⟨rfl, rfl⟩ ⟨rfl, rfl, rfl⟩ h (fun z5 V5 h => ?_)
        have j72 : z_Ex (z_MS d) 137 Q true 80 [some (.inr (.inr 36)), some (.inl a0), some (.inl x23), some (.inl x35), some (.inl x47), none] [.inl (if z5 = 0 then 0 else 1)] 0 0 V5 := by
          refine zq_istore (pc := 80) (ls2 := [some (.inr (.inr 36)), some (.inl a0), some (.inl x23), some (.inl x35), some (.inl x47), some (.inl (if z5 = 0 then 0 else 1))]) zr_137_80 rfl rfl ?_
          refine ze_iload (pc := 82) zr_137_82 rfl ?_
          refine zq_if_eq (pc := 84) (t := 106) zr_137_84 (by decide) (z_toif h) (fun h => ?_) (fun h => ?_)
          · refine ze_iconst (pc := 106) zr_137_106 (by decide) ?_
            exact zq_ret4 (pc := 107) zr_137_107 rfl (by decide) h
          · refine ze_aload_n (pc := 87) zr_137_87 rfl ?_
            refine ze_getfield (pc := 88) (v := .inr (.inr 37)) zr_137_88 rfl rfl ?_
            refine ze_iload_n (pc := 91) zr_137_91 rfl ?_
            refine ze_iload_n (pc := 92) zr_137_92 rfl ?_
            refine ze_iload (pc := 93) zr_137_93 rfl ?_
            refine zq_callV1 (pc := 95) (as := [.inr (.inr 37), .inl x23, .inl x35, .inl x47]) (r := []) (kc2 := 0) (ks2 := 0) zr_137_95 rfl (by decide) rfl rfl rfl rfl ⟨rfl, rfl⟩ ⟨rfl, rfl, rfl⟩ h (fun z6 V6 h => ?_)
            refine ze_iconst (pc := 98) zr_137_98 (by decide) ?_
            have j99 : z_Ex (z_MS d) 137 Q true 107 [some (.inr (.inr 36)), some (.inl a0), some (.inl x23), some (.inl x35), some (.inl x47), some (.inl (if z5 = 0 then 0 else 1))] [.inl (if z6 = (-1) then 0 else 1)] 0 0 V6 := by
              exact zq_ret4 (pc := 107) zr_137_107 rfl (by (repeat' split) <;> decide) h
            refine ze_icmp_eq (pc := 99) (t := 106) zr_137_99 (by decide) (fun hc => ?_) (fun hc => ?_)
            · rw [if_pos (show z6 = (-1) from hc)] at j99
              refine ze_iconst (pc := 106) zr_137_106 (by decide) ?_
              exact j99
            · rw [if_neg (show ¬ (z6 = (-1)) from hc)] at j99
              refine ze_iconst (pc := 102) zr_137_102 (by decide) ?_
              refine ze_goto (pc := 103) (t := 107) zr_137_103 (by decide) ?_
              exact j99
        refine ze_if_eq (pc := 72) (t := 79) zr_137_72 (by decide) (fun hc => ?_) (fun hc => ?_)
        · rw [if_pos (show z5 = 0 from hc)] at j72
          refine ze_iconst (pc := 79) zr_137_79 (by decide) ?_
          exact j72
        · rw [if_neg (show ¬ (z5 = 0) from hc)] at j72
          refine ze_iconst (pc := 75) zr_137_75 (by decide) ?_
          refine ze_goto (pc := 76) (t := 80) zr_137_76 (by decide) ?_
          exact j72
  · refine ze_iconst (pc := 13) zr_137_13 (by decide) ?_
    exact zq_ret4 (pc := 14) zr_137_14 rfl (by decide) h
theorem zb138_36 {d : Nat} {Q : Int → z_M → Prop} (a0 : Int) {V : z_M}
    (h : z_MS d 48 true [.inr (.inr 97), .inr (.inr 37), .inr (.inr 6)] V (fun z1 V1 => z_MS d 49 true [.inr (.inr 97), .inr (.inr 37), .inr (.inr 94), .inl a0] V1 (fun z2 V2 => Q 0 V2))) :
    z_MS (d + 1) 138 true [.inr (.inr 36), .inl a0] V Q := by
  show z_Ex (z_MS d) 138 Q true 0 [some (.inr (.inr 36)), some (.inl a0)] [] 0 0 V
  refine ze_aload_n (pc := 0) zr_138_0 rfl ?_
  refine ze_getfield (pc := 1) (v := .inr (.inr 97)) zr_138_1 rfl rfl ?_
  refine ze_aload_n (pc := 4) zr_138_4 rfl ?_
  refine ze_getfield (pc := 5) (v := .inr (.inr 37)) zr_138_5 rfl rfl ?_
  refine ze_static (pc := 8) zr_138_8 rfl (by decide) ?_
  refine zq_callV0 (pc := 11) (as := [.inr (.inr 97), .inr (.inr 37), .inr (.inr 6)]) (r := []) (kc2 := 0) (ks2 := 0) zr_138_11 rfl (by decide) rfl rfl rfl rfl ⟨rfl, rfl⟩ rfl h (fun z1 V1 h => ?_)
  refine ze_aload_n (pc := 14) zr_138_14 rfl ?_
  refine ze_getfield (pc := 15) (v := .inr (.inr 97)) zr_138_15 rfl rfl ?_
  refine ze_aload_n (pc := 18) zr_138_18 rfl ?_
  refine ze_getfield (pc := 19) (v := .inr (.inr 37)) zr_138_19 rfl rfl ?_
  refine ze_aload_n (pc := 22) zr_138_22 rfl ?_
  refine ze_getfield (pc := 23) (v := .inr (.inr 94)) zr_138_23 rfl rfl ?_
  refine ze_iload_n (pc := 26) zr_138_26 rfl ?_
  refine zq_callV0 (pc := 27) (as := [.inr (.inr 97), .inr (.inr 37), .inr (.inr 94), .inl a0]) (r := []) (kc2 := 0) (ks2 := 0) zr_138_27 rfl (by decide) rfl rfl rfl rfl ⟨rfl, rfl⟩ rfl h (fun z2 V2 h => ?_)
  exact ze_vret (pc := 30) zr_138_30 rfl h
theorem zb139_36 {d : Nat} {Q : Int → z_M → Prop}  {V : z_M}
    (h : z_MS d 48 true [.inr (.inr 97), .inr (.inr 37), .inr (.inr 6)] V (fun z1 V1 => z_Ex (z_MS d) 139 Q true 16 [some (.inr (.inr 36)), some (.inl 0)] [] 0 0 V1)) :
    z_MS (d + 1) 139 true [.inr (.inr 36)] V Q := by
  show z_Ex (z_MS d) 139 Q true 0 [some (.inr (.inr 36)), none] [] 0 0 V
  refine ze_aload_n (pc := 0) zr_139_0 rfl ?_
  refine ze_getfield (pc := 1) (v := .inr (.inr 97)) zr_139_1 rfl rfl ?_
  refine ze_aload_n (pc := 4) zr_139_4 rfl ?_
  refine ze_getfield (pc := 5) (v := .inr (.inr 37)) zr_139_5 rfl rfl ?_
  refine ze_static (pc := 8) zr_139_8 rfl (by decide) ?_
  refine zq_callV0 (pc := 11) (as := [.inr (.inr 97), .inr (.inr 37), .inr (.inr 6)]) (r := []) (kc2 := 0) (ks2 := 0) zr_139_11 rfl (by decide) rfl rfl rfl rfl ⟨rfl, rfl⟩ rfl h (fun z1 V1 h => ?_)
  refine ze_iconst (pc := 14) zr_139_14 (by decide) ?_
  refine zq_istore_n (pc := 15) (ls2 := [some (.inr (.inr 36)), some (.inl 0)]) zr_139_15 rfl rfl ?_
  exact h
theorem zb139_36_p16 {d : Nat} {Q : Int → z_M → Prop} (l1 : Int) {V : z_M}
    (h : zI (l1 < (V 37 8)) (z_MS d 49 true [.inr (.inr 97), .inr (.inr 37), .inr (.inr 94), .inl l1] V (fun z1701 V1701 => z_Ex (z_MS d) 139 Q true 16 [some (.inr (.inr 36)), some (.inl (z_add l1 1))] [] 0 0 V1701)) (Q 0 V)) :
    z_Ex (z_MS d) 139 Q true 16 [some (.inr (.inr 36)), some (.inl l1)] [] 0 0 V := by
  refine ze_iload_n (pc := 16) zr_139_16 rfl ?_
  refine ze_aload_n (pc := 17) zr_139_17 rfl ?_
  refine ze_getfield (pc := 18) (v := .inr (.inr 37)) zr_139_18 rfl rfl ?_
  refine ze_getfield (pc := 21) (v := .inl (V 37 8)) zr_139_21 rfl rfl ?_
  refine zq_icmp_ge (pc := 24) (t := 49) zr_139_24 (by decide) (z_toif h) (fun h => ?_) (fun h => ?_)
  · refine ze_aload_n (pc := 27) zr_139_27 rfl ?_
    refine ze_getfield (pc := 28) (v := .inr (.inr 97)) zr_139_28 rfl rfl ?_
    refine ze_aload_n (pc := 31) zr_139_31 rfl ?_
    refine ze_getfield (pc := 32) (v := .inr (.inr 37)) zr_139_32 rfl rfl ?_
    refine ze_aload_n (pc := 35) zr_139_35 rfl ?_
    refine ze_getfield (pc := 36) (v := .inr (.inr 94)) zr_139_36 rfl rfl ?_
    refine ze_iload_n (pc := 39) zr_139_39 rfl ?_
    refine zq_callV0 (pc := 40) (as := [.inr (.inr 97), .inr (.inr 37), .inr (.inr 94), .inl l1]) (r := []) (kc2 := 0) (ks2 := 0) zr_139_40 rfl (by decide) rfl rfl rfl rfl ⟨rfl, rfl⟩ rfl h (fun z1701 V1701 h => ?_)
    refine zq_iinc (pc := 43) (ls2 := [some (.inr (.inr 36)), some (.inl (z_add l1 1))]) zr_139_43 rfl rfl rfl ?_
    refine ze_goto (pc := 46) (t := 16) zr_139_46 (by decide) ?_
    exact h
  · exact ze_vret (pc := 49) zr_139_49 rfl h
theorem zb140_36 {d : Nat} {Q : Int → z_M → Prop}  {V : z_M}
    (h : z_MS d 139 true [.inr (.inr 36)] V (fun z1 V1 => z_MS d 61 true [.inr (.inr 97), .inr (.inr 37), .inr (.inr 6)] V1 (fun z2 V2 => Q z2 V2))) :
    z_MS (d + 1) 140 true [.inr (.inr 36)] V Q := by
  show z_Ex (z_MS d) 140 Q true 0 [some (.inr (.inr 36))] [] 0 0 V
  refine ze_aload_n (pc := 0) zr_140_0 rfl ?_
  refine zq_callV0 (pc := 1) (as := [.inr (.inr 36)]) (r := []) (kc2 := 0) (ks2 := 0) zr_140_1 rfl (by decide) rfl rfl rfl rfl ⟨rfl, rfl⟩ rfl h (fun z1 V1 h => ?_)
  refine ze_aload_n (pc := 4) zr_140_4 rfl ?_
  refine ze_getfield (pc := 5) (v := .inr (.inr 97)) zr_140_5 rfl rfl ?_
  refine ze_aload_n (pc := 8) zr_140_8 rfl ?_
  refine ze_getfield (pc := 9) (v := .inr (.inr 37)) zr_140_9 rfl rfl ?_
  refine ze_static (pc := 12) zr_140_12 rfl (by decide) ?_
  refine zq_callV1 (pc := 15) (as := [.inr (.inr 97), .inr (.inr 37), .inr (.inr 6)]) (r := []) (kc2 := 0) (ks2 := 0) zr_140_15 rfl (by decide) rfl rfl rfl rfl ⟨rfl, rfl⟩ ⟨rfl, rfl, rfl⟩ h (fun z2 V2 h => ?_)
  exact zq_ret1 (pc := 18) zr_140_18 rfl h
theorem zb141_36 {d : Nat} {Q : Int → z_M → Prop} (a0 : Int) (a1 : Int) (a2 : Int) {V : z_M}
    (h : z_MS d 76 true [.inr (.inr 37), .inl a1] V (fun z1 V1 => zI (z1 = 0) (Q (-1) V1) (zI ((V1 37 7) = 0) (Q (-1) V1) (z_MS d 138 true [.inr (.inr 36), .inl a1] V1 (fun z2 V2 => z_MS d 8 true [.inr (.inr 117), .inr (.inr 97), .inl a1, .inl a0] V2 (fun z3 V3 => z_MS d 10 true [.inr (.inr 117), .inl a2] V3 (fun z4 V4 => Q z4 V4))))))) :
    z_MS (d + 1) 141 true [.inr (.inr 36), .inl a0, .inl a1, .inl a2] V Q := by
  show z_Ex (z_MS d) 141 Q true 0 [some (.inr (.inr 36)), some (.inl a0), some (.inl a1), some (.inl a2)] [] 0 0 V
  refine ze_aload_n (pc := 0) zr_141_0 rfl ?_
  refine ze_getfield (pc := 1) (v := .inr (.inr 37)) zr_141_1 rfl rfl ?_
  refine ze_iload_n (pc := 4) zr_141_4 rfl ?_
  refine zq_callV1 (pc := 5) (as := [.inr (.inr 37), .inl a1]) (r := []) (kc2 := 0) (ks2 := 0) zr_141_5 rfl (by decide) rfl rfl rfl rfl ⟨rfl, rfl⟩ ⟨rfl, rfl, rfl⟩ h (fun z1 V1 h => ?_)
  refine zq_if_eq (pc := 8) (t := 21) zr_141_8 (by decide) (z_toif h) (fun h => ?_) (fun h => ?_)
  · refine ze_iconst (pc := 21) zr_141_21 (by decide) ?_
    exact zq_ret1 (pc := 22) zr_141_22 rfl h
  · refine ze_aload_n (pc := 11) zr_141_11 rfl ?_
    refine ze_getfield (pc := 12) (v := .inr (.inr 37)) zr_141_12 rfl rfl ?_
    refine ze_getfield (pc := 15) (v := .inl (V1 37 7)) zr_141_15 rfl rfl ?_
    refine zq_if_ne (pc := 18) (t := 23) zr_141_18 (by decide) (z_toif h) (fun h => ?_) (fun h => ?_)
    · refine ze_iconst (pc := 21) zr_141_21 (by decide) ?_
      exact zq_ret1 (pc := 22) zr_141_22 rfl h
    · refine ze_aload_n (pc := 23) zr_141_23 rfl ?_
      refine ze_iload_n (pc := 24) zr_141_24 rfl ?_
      refine zq_callV0 (pc := 25) (as := [.inr (.inr 36), .inl a1]) (r := []) (kc2 := 0) (ks2 := 0) zr_141_25 rfl (by decide) rfl rfl rfl rfl ⟨rfl, rfl⟩ rfl h (fun z2 V2 h => ?_)
      refine ze_aload_n (pc := 28) zr_141_28 rfl ?_
      refine ze_getfield (pc := 29) (v := .inr (.inr 117)) zr_141_29 rfl rfl ?_
      refine ze_aload_n (pc := 32) zr_141_32 rfl ?_
      refine ze_getfield (pc := 33) (v := .inr (.inr 97)) zr_141_33 rfl rfl ?_
      refine ze_iload_n (pc := 36) zr_141_36 rfl ?_
      refine ze_iload_n (pc := 37) zr_141_37 rfl ?_
      refine zq_callV0 (pc := 38) (as := [.inr (.inr 117), .inr (.inr 97), .inl a1, .inl a0]) (r := []) (kc2 := 0) (ks2 := 0) zr_141_38 rfl (by decide) rfl rfl rfl rfl ⟨rfl, rfl⟩ rfl h (fun z3 V3 h => ?_)
      refine ze_aload_n (pc := 41) zr_141_41 rfl ?_
      refine ze_getfield (pc := 42) (v := .inr (.inr 117)) zr_141_42 rfl rfl ?_
      refine ze_iload_n (pc := 45) zr_141_45 rfl ?_
      refine zq_callV1 (pc := 46) (as := [.inr (.inr 117), .inl a2]) (r := []) (kc2 := 0) (ks2 := 0) zr_141_46 rfl (by decide) rfl rfl rfl rfl ⟨rfl, rfl⟩ ⟨rfl, rfl, rfl⟩ h (fun z4 V4 h => ?_)
      exact zq_ret1 (pc := 49) zr_141_49 rfl h
theorem zb142_36 {d : Nat} {Q : Int → z_M → Prop} (a0 : Int) {V : z_M}
    (h : z_Ex (z_MS d) 142 Q true 4 [some (.inr (.inr 36)), some (.inl a0), some (.inl 0), some (.inl 0), none] [] 0 0 V) :
    z_MS (d + 1) 142 true [.inr (.inr 36), .inl a0] V Q := by
  show z_Ex (z_MS d) 142 Q true 0 [some (.inr (.inr 36)), some (.inl a0), none, none, none] [] 0 0 V
  refine ze_iconst (pc := 0) zr_142_0 (by decide) ?_
  refine zq_istore_n (pc := 1) (ls2 := [some (.inr (.inr 36)), some (.inl a0), some (.inl 0), none, none]) zr_142_1 rfl rfl ?_
  refine ze_iconst (pc := 2) zr_142_2 (by decide) ?_
  refine zq_istore_n (pc := 3) (ls2 := [some (.inr (.inr 36)), some (.inl a0), some (.inl 0), some (.inl 0), none]) zr_142_3 rfl rfl ?_
  exact h
theorem zb142_36_p4 {d : Nat} {Q : Int → z_M → Prop} (l1 : Int) (l2 : Int) (l3 : Int) (o4 : Option z_V) {V : z_M}
    (h : zI (l3 < (V 37 8)) (zI ((z_and (z_shr l1 l3) 1) = 0) (z_Ex (z_MS d) 142 Q true 4 [some (.inr (.inr 36)), some (.inl l1), some (.inl l2), some (.inl (z_add l3 1)), o4] [] 0 0 V) (z_MS d 58 true [.inr (.inr 97), .inl l3] V (fun z501 V501 => zI (z501 = (-1)) (Q (-1) V501) (z_Ex (z_MS d) 142 Q true 4 [some (.inr (.inr 36)), some (.inl l1), some (.inl (z_or l2 z501)), some (.inl (z_add l3 1)), some (.inl z501)] [] 0 0 V501)))) (Q l2 V)) :
    z_Ex (z_MS d) 142 Q true 4 [some (.inr (.inr 36)), some (.inl l1), some (.inl l2), some (.inl l3), o4] [] 0 0 V := by
  refine ze_iload_n (pc := 4) zr_142_4 rfl ?_
  refine ze_aload_n (pc := 5) zr_142_5 rfl ?_
  refine ze_getfield (pc := 6) (v := .inr (.inr 37)) zr_142_6 rfl rfl ?_
  refine ze_getfield (pc := 9) (v := .inl (V 37 8)) zr_142_9 rfl rfl ?_
  refine zq_icmp_ge (pc := 12) (t := 52) zr_142_12 (by decide) (z_toif h) (fun h => ?_) (fun h => ?_)
  · refine ze_iload_n (pc := 15) zr_142_15 rfl ?_
    refine ze_iload_n (pc := 16) zr_142_16 rfl ?_
    refine ze_ishr (pc := 17) zr_142_17 ?_
    refine ze_iconst (pc := 18) zr_142_18 (by decide) ?_
    refine ze_iand (pc := 19) zr_142_19 ?_
    refine zq_if_eq (pc := 20) (t := 46) zr_142_20 (by decide) (z_toif h) (fun h => ?_) (fun h => ?_)
    · refine zq_iinc (pc := 46) (ls2 := [some (.inr (.inr 36)), some (.inl l1), some (.inl l2), some (.inl (z_add l3 1)), o4]) zr_142_46 rfl rfl rfl ?_
      refine ze_goto (pc := 49) (t := 4) zr_142_49 (by decide) ?_
      exact h
    · refine ze_aload_n (pc := 23) zr_142_23 rfl ?_
      refine ze_getfield (pc := 24) (v := .inr (.inr 97)) zr_142_24 rfl rfl ?_
      refine ze_iload_n (pc := 27) zr_142_27 rfl ?_
      refine zq_callV1 (pc := 28) (as := [.inr (.inr 97), .inl l3]) (r := []) (kc2 := 0) (ks2 := 0) zr_142_28 rfl (by decide) rfl rfl rfl rfl ⟨rfl, rfl⟩ ⟨rfl, rfl, rfl⟩ h (fun z501 V501 h => ?_)
      refine zq_istore (pc := 31) (ls2 := [some (.inr (.inr 36)), some (.inl l1), some (.inl l2), some (.inl l3), some (.inl z501)]) zr_142_31 rfl rfl ?_
      refine ze_iload (pc := 33) zr_142_33 rfl ?_
      refine ze_iconst (pc := 35) zr_142_35 (by decide) ?_
      refine zq_icmp_ne (pc := 36) (t := 41) zr_142_36 (by decide) (z_toif h) (fun h => ?_) (fun h => ?_)
      · refine ze_iconst (pc := 39) zr_142_39 (by decide) ?_
        exact zq_ret1 (pc := 40) zr_142_40 rfl h
      · refine ze_iload_n (pc := 41) zr_142_41 rfl ?_
        refine ze_iload (pc := 42) zr_142_42 rfl ?_
        refine ze_ior (pc := 44) zr_142_44 ?_
        refine zq_istore_n (pc := 45) (ls2 := [some (.inr (.inr 36)), some (.inl l1), some (.inl (z_or l2 z501)), some (.inl l3), some (.inl z501)]) zr_142_45 rfl rfl ?_
        refine zq_iinc (pc := 46) (ls2 := [some (.inr (.inr 36)), some (.inl l1), some (.inl (z_or l2 z501)), some (.inl (z_add l3 1)), some (.inl z501)]) zr_142_46 rfl rfl rfl ?_
        refine ze_goto (pc := 49) (t := 4) zr_142_49 (by decide) ?_
        exact h
  · refine ze_iload_n (pc := 52) zr_142_52 rfl ?_
    exact zq_ret1 (pc := 53) zr_142_53 rfl h
theorem zb143_36 {d : Nat} {Q : Int → z_M → Prop}  {V : z_M}
    (h : z_Ex (z_MS d) 143 Q true 12 [some (.inr (.inr 36)), some (.inl 0), some (.inl (z_sub (V 37 7) 1)), none, none] [] 0 0 V) :
    z_MS (d + 1) 143 true [.inr (.inr 36)] V Q := by
  show z_Ex (z_MS d) 143 Q true 0 [some (.inr (.inr 36)), none, none, none, none] [] 0 0 V
  refine ze_iconst (pc := 0) zr_143_0 (by decide) ?_
  refine zq_istore_n (pc := 1) (ls2 := [some (.inr (.inr 36)), some (.inl 0), none, none, none]) zr_143_1 rfl rfl ?_
  refine ze_aload_n (pc := 2) zr_143_2 rfl ?_
  refine ze_getfield (pc := 3) (v := .inr (.inr 37)) zr_143_3 rfl rfl ?_
  refine ze_getfield (pc := 6) (v := .inl (V 37 7)) zr_143_6 rfl rfl ?_
  refine ze_iconst (pc := 9) zr_143_9 (by decide) ?_
  refine ze_isub (pc := 10) zr_143_10 ?_
  refine zq_istore_n (pc := 11) (ls2 := [some (.inr (.inr 36)), some (.inl 0), some (.inl (z_sub (V 37 7) 1)), none, none]) zr_143_11 rfl rfl ?_
  exact h
theorem zb143_36_p12 {d : Nat} {Q : Int → z_M → Prop} (l1 : Int) (l2 : Int) (o3 : Option z_V) (o4 : Option z_V) {V : z_M}
    (h : zI (l2 < 0) (Q l1 V) (z_Ex (z_MS d) 143 Q true 23 [some (.inr (.inr 36)), some (.inl l1), some (.inl l2), some (.inl 0), some (.inl (z_add l2 1))] [] 0 0 V)) :
    z_Ex (z_MS d) 143 Q true 12 [some (.inr (.inr 36)), some (.inl l1), some (.inl l2), o3, o4] [] 0 0 V := by
  refine ze_iload_n (pc := 12) zr_143_12 rfl ?_
  refine zq_if_lt (pc := 13) (t := 89) zr_143_13 (by decide) (z_toif h) (fun h => ?_) (fun h => ?_)
  · refine ze_iload_n (pc := 89) zr_143_89 rfl ?_
    exact zq_ret1 (pc := 90) zr_143_90 rfl h
  · refine ze_iconst (pc := 16) zr_143_16 (by decide) ?_
    refine zq_istore_n (pc := 17) (ls2 := [some (.inr (.inr 36)), some (.inl l1), some (.inl l2), some (.inl 0), o4]) zr_143_17 rfl rfl ?_
    refine ze_iload_n (pc := 18) zr_143_18 rfl ?_
    refine ze_iconst (pc := 19) zr_143_19 (by decide) ?_
    refine ze_iadd (pc := 20) zr_143_20 ?_
    refine zq_istore (pc := 21) (ls2 := [some (.inr (.inr 36)), some (.inl l1), some (.inl l2), some (.inl 0), some (.inl (z_add l2 1))]) zr_143_21 rfl rfl ?_
    exact h
theorem zb143_36_p23 {d : Nat} {Q : Int → z_M → Prop} (l1 : Int) (l2 : Int) (l3 : Int) (l4 : Int) {V : z_M}
    (h : zI (l4 < (V 37 7)) (z_MS d 89 true [.inr (.inr 37), .inl l2, .inl l4] V (fun z2401 V2401 => zI (z2401 = 0) (z_Ex (z_MS d) 143 Q true 23 [some (.inr (.inr 36)), some (.inl l1), some (.inl l2), some (.inl l3), some (.inl (z_add l4 1))] [] 0 0 V2401) (zGu (0 ≤ l4 ∧ l4 < 12) (∀ x55 : Int, x55 = V2401 139 l4.toNat → z_Ex (z_MS d) 143 Q true 23 [some (.inr (.inr 36)), some (.inl l1), some (.inl l2), some (.inl (z_max l3 x55)), some (.inl (z_add l4 1))] [] 0 0 V2401)))) (zGu (0 ≤ l2 ∧ l2 < 12) (∀ W2401, W2401 = z_up V 139 l2.toNat (z_add l3 1) → z_Ex (z_MS d) 143 Q true 12 [some (.inr (.inr 36)), some (.inl (z_max l1 (z_add l3 1))), some (.inl (z_add l2 (-1))), some (.inl l3), some (.inl l4)] [] 0 0 W2401))) :
    z_Ex (z_MS d) 143 Q true 23 [some (.inr (.inr 36)), some (.inl l1), some (.inl l2), some (.inl l3), some (.inl l4)] [] 0 0 V := by
  refine ze_iload (pc := 23) zr_143_23 rfl ?_
  refine ze_aload_n (pc := 25) zr_143_25 rfl ?_
  refine ze_getfield (pc := 26) (v := .inr (.inr 37)) zr_143_26 rfl rfl ?_
  refine ze_getfield (pc := 29) (v := .inl (V 37 7)) zr_143_29 rfl rfl ?_
  refine zq_icmp_ge (pc := 32) (t := 66) zr_143_32 (by decide) (z_toif h) (fun h => ?_) (fun h => ?_)
  · refine ze_aload_n (pc := 35) zr_143_35 rfl ?_
    refine ze_getfield (pc := 36) (v := .inr (.inr 37)) zr_143_36 rfl rfl ?_
    refine ze_iload_n (pc := 39) zr_143_39 rfl ?_
    refine ze_iload (pc := 40) zr_143_40 rfl ?_
    refine zq_callV1 (pc := 42) (as := [.inr (.inr 37), .inl l2, .inl l4]) (r := []) (kc2 := 0) (ks2 := 0) zr_143_42 rfl (by decide) rfl rfl rfl rfl ⟨rfl, rfl⟩ ⟨rfl, rfl, rfl⟩ h (fun z2401 V2401 h => ?_)
    refine zq_if_eq (pc := 45) (t := 60) zr_143_45 (by decide) (z_toif h) (fun h => ?_) (fun h => ?_)
    · refine zq_iinc (pc := 60) (ls2 := [some (.inr (.inr 36)), some (.inl l1), some (.inl l2), some (.inl l3), some (.inl (z_add l4 1))]) zr_143_60 rfl rfl rfl ?_
      refine ze_goto (pc := 63) (t := 23) zr_143_63 (by decide) ?_
      exact h
    · refine ze_iload_n (pc := 48) zr_143_48 rfl ?_
      refine ze_aload_n (pc := 49) zr_143_49 rfl ?_
      refine ze_getfield (pc := 50) (v := .inr (.inr 139)) zr_143_50 rfl rfl ?_
      refine ze_iload (pc := 53) zr_143_53 rfl ?_
      refine z_gk h (fun g55 h => ?_)
      refine zl_iaload (pc := 55) zr_143_55 rfl rfl g55 h (fun x55 h => ?_)
      refine zq_max (pc := 56) zr_143_56 (Nat.le_of_ble_eq_true rfl) ?_
      refine zq_istore_n (pc := 59) (ls2 := [some (.inr (.inr 36)), some (.inl l1), some (.inl l2), some (.inl (z_max l3 x55)), some (.inl l4)]) zr_143_59 rfl rfl ?_
      refine zq_iinc (pc := 60) (ls2 := [some (.inr (.inr 36)), some (.inl l1), some (.inl l2), some (.inl (z_max l3 x55)), some (.inl (z_add l4 1))]) zr_143_60 rfl rfl rfl ?_
      refine ze_goto (pc := 63) (t := 23) zr_143_63 (by decide) ?_
      exact h
  · refine ze_aload_n (pc := 66) zr_143_66 rfl ?_
    refine ze_getfield (pc := 67) (v := .inr (.inr 139)) zr_143_67 rfl rfl ?_
    refine ze_iload_n (pc := 70) zr_143_70 rfl ?_
    refine ze_iload_n (pc := 71) zr_143_71 rfl ?_
    refine ze_iconst (pc := 72) zr_143_72 (by decide) ?_
    refine ze_iadd (pc := 73) zr_143_73 ?_
    refine z_gk h (fun g74 h => ?_)
    refine zq_iastore (pc := 74) zr_143_74 (by decide) rfl g74 rfl h (fun W2401 h => ?_)
    refine ze_iload_n (pc := 75) zr_143_75 rfl ?_
    refine ze_iload_n (pc := 76) zr_143_76 rfl ?_
    refine ze_iconst (pc := 77) zr_143_77 (by decide) ?_
    refine ze_iadd (pc := 78) zr_143_78 ?_
    refine zq_max (pc := 79) zr_143_79 (Nat.le_of_ble_eq_true rfl) ?_
    refine zq_istore_n (pc := 82) (ls2 := [some (.inr (.inr 36)), some (.inl (z_max l1 (z_add l3 1))), some (.inl l2), some (.inl l3), some (.inl l4)]) zr_143_82 rfl rfl ?_
    refine zq_iinc (pc := 83) (ls2 := [some (.inr (.inr 36)), some (.inl (z_max l1 (z_add l3 1))), some (.inl (z_add l2 (-1))), some (.inl l3), some (.inl l4)]) zr_143_83 rfl rfl rfl ?_
    refine ze_goto (pc := 86) (t := 12) zr_143_86 (by decide) ?_
    exact h
