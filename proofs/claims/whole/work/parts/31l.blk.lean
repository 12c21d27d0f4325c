/-! blocks of rows: printed by a program (blk2.py) -/
theorem zb239_141 {d : Nat} {Q : Int → z_M → Prop}  {V : z_M}
    (h : z_MS d 154 true [.inr (.inr 141)] V (fun z1 V1 => z_Ex (z_MS d) 239 Q true 9 [some (.inr (.inr 141)), some (.inl 0), some (.inl (z_sub z1 1)), none, none] [] 0 0 V1)) :
    z_MS (d + 1) 239 true [.inr (.inr 141)] V Q := by
  show z_Ex (z_MS d) 239 Q true 0 [some (.inr (.inr 141)), none, none, none, none] [] 0 0 V
  refine ze_iconst (pc := 0) zr_239_0 (by decide) ?_
  refine zq_istore_n (pc := 1) (ls2 := [some (.inr (.inr 141)), some (.inl 0), none, none, none]) zr_239_1 rfl rfl ?_
  refine ze_aload_n (pc := 2) zr_239_2 rfl ?_
  refine zq_callV1 (pc := 3) (as := [.inr (.inr 141)]) (r := []) (kc2 := 0) (ks2 := 0) zr_239_3 rfl (by decide) rfl rfl rfl rfl ⟨rfl, rfl⟩ ⟨rfl, rfl, rfl⟩ h (fun z1 V1 h => ?_)
  refine ze_iconst (pc := 6) zr_239_6 (by decide) ?_
  refine ze_isub (pc := 7) zr_239_7 ?_
  refine zq_istore_n (pc := 8) (ls2 := [some (.inr (.inr 141)), some (.inl 0), some (.inl (z_sub z1 1)), none, none]) zr_239_8 rfl rfl ?_
  exact h
theorem zb239_141_p9 {d : Nat} {Q : Int → z_M → Prop} (l1 : Int) (l2 : Int) (o3 : Option z_V) (o4 : Option z_V) {V : z_M}
    (h : zI (l2 < 0) (Q l1 V) (zGu (0 ≤ l2 ∧ l2 < 12) (∀ W1001, W1001 = z_up V 167 l2.toNat 1 → z_Ex (z_MS d) 239 Q true 24 [some (.inr (.inr 141)), some (.inl l1), some (.inl l2), some (.inl (z_add l2 1)), o4] [] 0 0 W1001))) :
    z_Ex (z_MS d) 239 Q true 9 [some (.inr (.inr 141)), some (.inl l1), some (.inl l2), o3, o4] [] 0 0 V := by
  refine ze_iload_n (pc := 9) zr_239_9 rfl ?_
  refine zq_if_lt (pc := 10) (t := 132) zr_239_10 (by decide) (z_toif h) (fun h => ?_) (fun h => ?_)
  · refine ze_iload_n (pc := 132) zr_239_132 rfl ?_
    exact zq_ret1 (pc := 133) zr_239_133 rfl h
  · refine ze_aload_n (pc := 13) zr_239_13 rfl ?_
    refine ze_getfield (pc := 14) (v := .inr (.inr 167)) zr_239_14 rfl rfl ?_
    refine ze_iload_n (pc := 17) zr_239_17 rfl ?_
    refine ze_iconst (pc := 18) zr_239_18 (by decide) ?_
    refine z_gk h (fun g19 h => ?_)
    refine zq_iastore (pc := 19) zr_239_19 (by decide) rfl g19 rfl h (fun W1001 h => ?_)
    refine ze_iload_n (pc := 20) zr_239_20 rfl ?_
    refine ze_iconst (pc := 21) zr_239_21 (by decide) ?_
    refine ze_iadd (pc := 22) zr_239_22 ?_
    refine zq_istore_n (pc := 23) (ls2 := [some (.inr (.inr 141)), some (.inl l1), some (.inl l2), some (.inl (z_add l2 1)), o4]) zr_239_23 rfl rfl ?_
    exact h
theorem zb239_141_p24 {d : Nat} {Q : Int → z_M → Prop} (l1 : Int) (l2 : Int) (l3 : Int) (o4 : Option z_V) {V : z_M}
    (h : z_MS d 154 true [.inr (.inr 141)] V (fun z2501 V2501 => zI (l3 < z2501) (z_MS d 157 true [.inr (.inr 141), .inl l3, .inl 0] V2501 (fun z2502 V2502 => z_MS d 157 true [.inr (.inr 141), .inl l2, .inl 0] V2502 (fun z2503 V2503 => z_Ex (z_MS d) 239 Q true 52 [some (.inr (.inr 141)), some (.inl l1), some (.inl l2), some (.inl l3), o4] [.inl (if z2503 < z2502 then 0 else 1)] 0 0 V2503))) (zGu (0 ≤ l2 ∧ l2 < 12) (∀ x110 : Int, x110 = V2501 167 l2.toNat → zI (l1 < x110) (zGu (0 ≤ l2 ∧ l2 < 12) (∀ x120 : Int, x120 = V2501 167 l2.toNat → z_Ex (z_MS d) 239 Q true 9 [some (.inr (.inr 141)), some (.inl x120), some (.inl (z_add l2 (-1))), some (.inl l3), o4] [] 0 0 V2501)) (z_Ex (z_MS d) 239 Q true 9 [some (.inr (.inr 141)), some (.inl l1), some (.inl (z_add l2 (-1))), some (.inl l3), o4] [] 0 0 V2501))))) :
    z_Ex (z_MS d) 239 Q true 24 [some (.inr (.inr 141)), some (.inl l1), some (.inl l2), some (.inl l3), o4] [] 0 0 V := by
  refine ze_iload_n (pc := 24) zr_239_24 rfl ?_
  refine ze_aload_n (pc := 25) zr_239_25 rfl ?_
  refine zq_callV1 (pc := 26) (as := [.inr (.inr 141)]) (r := [.inl l3]) (kc2 := 0) (ks2 := 0) zr_239_26 rfl (by decide) rfl rfl rfl rfl ⟨rfl, rfl⟩ ⟨rfl, rfl, rfl⟩ h (fun z2501 V2501 h => ?_)
  refine zq_icmp_ge (pc := 29) (t := 105) zr_239_29 (by decide) (z_toif h) (fun h => ?_) (fun h => ?_)
  · refine ze_aload_n (pc := 32) zr_239_32 rfl ?_
    refine ze_iload_n (pc := 33) zr_239_33 rfl ?_
    refine ze_iconst (pc := 34) zr_239_34 (by decide) ?_
    refine zq_callV1 (pc := 35) (as := [.inr (.inr 141), .inl l3, .inl 0]) (r := []) (kc2 := 0) (ks2 := 0) zr_239_35 rfl (by decide) rfl rfl rfl rfl ⟨rfl, rfl⟩ ⟨rfl, rfl, rfl⟩ h (fun z2502 V2502 h => ?_)
    refine ze_aload_n (pc := 38) zr_239_38 rfl ?_
    refine ze_iload_n (pc := 39) zr_239_39 rfl ?_
    refine ze_iconst (pc := 40) zr_239_40 (by decide) ?_
    refine zq_callV1 (pc := 41) (as := [.inr (.inr 141), .inl l2, .inl 0]) (r := [.inl z2502]) (kc2 := 0) (ks2 := 0) zr_239_41 rfl (by decide) rfl rfl rfl rfl ⟨rfl, rfl⟩ ⟨rfl, rfl, rfl⟩ h (fun z2503 V2503 h => ?_)
    have j44 : z_Ex (z_MS d) 239 Q true 52 [some (.inr (.inr 141)), some (.inl l1), some (.inl l2), some (.inl l3), o4] [.inl (if z2503 < z2502 then 0 else 1)] 0 0 V2503 := by
      exact h
    refine ze_icmp_gt (pc := 44) (t := 51) zr_239_44 (by decide) (fun hc => ?_) (fun hc => ?_)
    · rw [if_pos (show z2503 < z2502 from hc)] at j44
      refine ze_iconst (pc := 51) zr_239_51 (by decide) ?_
      exact j44
    · rw [if_neg (show ¬ (z2503 < z2502) from hc)] at j44
      refine ze_iconst (pc := 47) zr_239_47 (by decide) ?_
      refine ze_goto (pc := 48) (t := 52) zr_239_48 (by decide) ?_
      exact j44
  · refine ze_aload_n (pc := 105) zr_239_105 rfl ?_
    refine ze_getfield (pc := 106) (v := .inr (.inr 167)) zr_239_106 rfl rfl ?_
    refine ze_iload_n (pc := 109) zr_239_109 rfl ?_
    refine z_gk h (fun g110 h => ?_)
    refine zl_iaload (pc := 110) zr_239_110 rfl rfl g110 h (fun x110 h => ?_)
    refine ze_iload_n (pc := 111) zr_239_111 rfl ?_
    refine zq_icmp_le (pc := 112) (t := 124) zr_239_112 (by decide) (z_toif h) (fun h => ?_) (fun h => ?_)
    · refine ze_aload_n (pc := 115) zr_239_115 rfl ?_
      refine ze_getfield (pc := 116) (v := .inr (.inr 167)) zr_239_116 rfl rfl ?_
      refine ze_iload_n (pc := 119) zr_239_119 rfl ?_
      refine z_gk h (fun g120 h => ?_)
      refine zl_iaload (pc := 120) zr_239_120 rfl rfl g120 h (fun x120 h => ?_)
      refine ze_goto (pc := 121) (t := 125) zr_239_121 (by decide) ?_
      refine zq_istore_n (pc := 125) (ls2 := [some (.inr (.inr 141)), some (.inl x120), some (.inl l2), some (.inl l3), o4]) zr_239_125 rfl rfl ?_
      refine zq_iinc (pc := 126) (ls2 := [some (.inr (.inr 141)), some (.inl x120), some (.inl (z_add l2 (-1))), some (.inl l3), o4]) zr_239_126 rfl rfl rfl ?_
      refine ze_goto (pc := 129) (t := 9) zr_239_129 (by decide) ?_
      exact h
    · refine ze_iload_n (pc := 124) zr_239_124 rfl ?_
      refine zq_istore_n (pc := 125) (ls2 := [some (.inr (.inr 141)), some (.inl l1), some (.inl l2), some (.inl l3), o4]) zr_239_125 rfl rfl ?_
      refine zq_iinc (pc := 126) (ls2 := [some (.inr (.inr 141)), some (.inl l1), some (.inl (z_add l2 (-1))), some (.inl l3), o4]) zr_239_126 rfl rfl rfl ?_
      refine ze_goto (pc := 129) (t := 9) zr_239_129 (by decide) ?_
      exact h
theorem zb239_141_p52 {d : Nat} {Q : Int → z_M → Prop} (l1 : Int) (l2 : Int) (l3 : Int) (o4 : Option z_V) (s0 : Int) {V : z_M}
    (h : zI (s0 = 0) (z_Ex (z_MS d) 239 Q true 92 [some (.inr (.inr 141)), some (.inl l1), some (.inl l2), some (.inl l3), some (.inl s0)] [.inl l2, .inr (.inr 167)] 0 0 V) (zGu (0 ≤ l3 ∧ l3 < 12) (∀ x69 : Int, x69 = V 167 l3.toNat → zGu (0 ≤ l2 ∧ l2 < 12) (∀ x77 : Int, x77 = V 167 l2.toNat → zI (x77 < (z_add x69 1)) (zGu (0 ≤ l3 ∧ l3 < 12) (∀ x86 : Int, x86 = V 167 l3.toNat → z_Ex (z_MS d) 239 Q true 98 [some (.inr (.inr 141)), some (.inl l1), some (.inl l2), some (.inl l3), some (.inl s0)] [.inl (z_add x86 1), .inl l2, .inr (.inr 167)] 0 0 V)) (z_Ex (z_MS d) 239 Q true 92 [some (.inr (.inr 141)), some (.inl l1), some (.inl l2), some (.inl l3), some (.inl s0)] [.inl l2, .inr (.inr 167)] 0 0 V))))) :
    z_Ex (z_MS d) 239 Q true 52 [some (.inr (.inr 141)), some (.inl l1), some (.inl l2), some (.inl l3), o4] [.inl s0] 0 0 V := by
  refine zq_istore (pc := 52) (ls2 := [some (.inr (.inr 141)), some (.inl l1), some (.inl l2), some (.inl l3), some (.inl s0)]) zr_239_52 rfl rfl ?_
  refine ze_aload_n (pc := 54) zr_239_54 rfl ?_
  refine ze_getfield (pc := 55) (v := .inr (.inr 167)) zr_239_55 rfl rfl ?_
  refine ze_iload_n (pc := 58) zr_239_58 rfl ?_
  refine ze_iload (pc := 59) zr_239_59 rfl ?_
  refine zq_if_eq (pc := 61) (t := 92) zr_239_61 (by decide) (z_toif h) (fun h => ?_) (fun h => ?_)
  · exact h
  · refine ze_aload_n (pc := 64) zr_239_64 rfl ?_
    refine ze_getfield (pc := 65) (v := .inr (.inr 167)) zr_239_65 rfl rfl ?_
    refine ze_iload_n (pc := 68) zr_239_68 rfl ?_
    refine z_gk h (fun g69 h => ?_)
    refine zl_iaload (pc := 69) zr_239_69 rfl rfl g69 h (fun x69 h => ?_)
    refine ze_iconst (pc := 70) zr_239_70 (by decide) ?_
    refine ze_iadd (pc := 71) zr_239_71 ?_
    refine ze_aload_n (pc := 72) zr_239_72 rfl ?_
    refine ze_getfield (pc := 73) (v := .inr (.inr 167)) zr_239_73 rfl rfl ?_
    refine ze_iload_n (pc := 76) zr_239_76 rfl ?_
    refine z_gk h (fun g77 h => ?_)
    refine zl_iaload (pc := 77) zr_239_77 rfl rfl g77 h (fun x77 h => ?_)
    refine zq_icmp_le (pc := 78) (t := 92) zr_239_78 (by decide) (z_toif h) (fun h => ?_) (fun h => ?_)
    · refine ze_aload_n (pc := 81) zr_239_81 rfl ?_
      refine ze_getfield (pc := 82) (v := .inr (.inr 167)) zr_239_82 rfl rfl ?_
      refine ze_iload_n (pc := 85) zr_239_85 rfl ?_
      refine z_gk h (fun g86 h => ?_)
      refine zl_iaload (pc := 86) zr_239_86 rfl rfl g86 h (fun x86 h => ?_)
      refine ze_iconst (pc := 87) zr_239_87 (by decide) ?_
      refine ze_iadd (pc := 88) zr_239_88 ?_
      refine ze_goto (pc := 89) (t := 98) zr_239_89 (by decide) ?_
      exact h
    · exact h
theorem zb239_141_p92 {d : Nat} {Q : Int → z_M → Prop} (l1 : Int) (l2 : Int) (l3 : Int) (o4 : Option z_V) (s1 : Int) {V : z_M}
    (h : zGu (0 ≤ l2 ∧ l2 < 12) (∀ x97 : Int, x97 = V 167 l2.toNat → z_Ex (z_MS d) 239 Q true 98 [some (.inr (.inr 141)), some (.inl l1), some (.inl l2), some (.inl l3), o4] [.inl x97, .inl s1, .inr (.inr 167)] 0 0 V)) :
    z_Ex (z_MS d) 239 Q true 92 [some (.inr (.inr 141)), some (.inl l1), some (.inl l2), some (.inl l3), o4] [.inl s1, .inr (.inr 167)] 0 0 V := by
  refine ze_aload_n (pc := 92) zr_239_92 rfl ?_
  refine ze_getfield (pc := 93) (v := .inr (.inr 167)) zr_239_93 rfl rfl ?_
  refine ze_iload_n (pc := 96) zr_239_96 rfl ?_
  refine z_gk h (fun g97 h => ?_)
  refine zl_iaload (pc := 97) zr_239_97 rfl rfl g97 h (fun x97 h => ?_)
  exact h
theorem zb239_141_p98 {d : Nat} {Q : Int → z_M → Prop} (l1 : Int) (l2 : Int) (l3 : Int) (o4 : Option z_V) (s1 : Int) (s2 : Int) {V : z_M}
    (h : zGu (0 ≤ s1 ∧ s1 < 12) (∀ W9901, W9901 = z_up V 167 s1.toNat s2 → z_Ex (z_MS d) 239 Q true 24 [some (.inr (.inr 141)), some (.inl l1), some (.inl l2), some (.inl (z_add l3 1)), o4] [] 0 0 W9901)) :
    z_Ex (z_MS d) 239 Q true 98 [some (.inr (.inr 141)), some (.inl l1), some (.inl l2), some (.inl l3), o4] [.inl s2, .inl s1, .inr (.inr 167)] 0 0 V := by
  refine z_gk h (fun g98 h => ?_)
  refine zq_iastore (pc := 98) zr_239_98 (by decide) rfl g98 rfl h (fun W9901 h => ?_)
  refine zq_iinc (pc := 99) (ls2 := [some (.inr (.inr 141)), some (.inl l1), some (.inl l2), some (.inl (z_add l3 1)), o4]) zr_239_99 rfl rfl rfl ?_
  refine ze_goto (pc := 102) (t := 24) zr_239_102 (by decide) ?_
  exact h
theorem zb240_141 {d : Nat} {Q : Int → z_M → Prop} (a0 : Int) {V : z_M}
    (h : ∀ W1, W1 = z_up V 141 0 0 → z_MS d 239 true [.inr (.inr 141)] W1 (fun z1 V1 => zI (a0 = (-1)) (z_MS d 154 true [.inr (.inr 141)] V1 (fun z3 V3 => Q (z_sub z3 z1) V3)) (z_MS d 145 true [.inr (.inl a0), .inr (.inl 0), .inr (.inl (z_lsub z1 1))] V1 (fun z2 V2 => zI (z2 = 0) (Q (-1) V2) (z_Ex (z_MS d) 240 Q true 42 [some (.inr (.inr 141)), some (.inl a0), some (.inl z1), some (.inl (-1)), some (.inl 0), none] [] 0 0 V2))))) :
    z_MS (d + 1) 240 true [.inr (.inr 141), .inl a0] V Q := by
  show z_Ex (z_MS d) 240 Q true 0 [some (.inr (.inr 141)), some (.inl a0), none, none, none, none] [] 0 0 V
  refine ze_aload_n (pc := 0) zr_240_0 rfl ?_
  refine ze_iconst (pc := 1) zr_240_1 (by decide) ?_
  refine zq_putI (pc := 2) zr_240_2 (by decide) rfl h (fun W1 h => ?_)
  refine ze_aload_n (pc := 5) zr_240_5 rfl ?_
  refine zq_callV1 (pc := 6) (as := [.inr (.inr 141)]) (r := []) (kc2 := 0) (ks2 := 0) zr_240_6 rfl (by decide) rfl rfl rfl rfl ⟨rfl, rfl⟩ ⟨rfl, rfl, rfl⟩ h (fun z1 V1 h => ?_)
  refine zq_istore_n (pc := 9) (ls2 := [some (.inr (.inr 141)), some (.inl a0), some (.inl z1), none, none, none]) zr_240_9 rfl rfl ?_
  refine ze_iload_n (pc := 10) zr_240_10 rfl ?_
  refine ze_iconst (pc := 11) zr_240_11 (by decide) ?_
  refine zq_icmp_ne (pc := 12) (t := 22) zr_240_12 (by decide) (z_toif h) (fun h => ?_) (fun h => ?_)
  · refine ze_aload_n (pc := 15) zr_240_15 rfl ?_
    refine zq_callV1 (pc := 16) (as := [.inr (.inr 141)]) (r := []) (kc2 := 0) (ks2 := 0) zr_240_16 rfl (by decide) rfl rfl rfl rfl ⟨rfl, rfl⟩ ⟨rfl, rfl, rfl⟩ h (fun z3 V3 h => ?_)
    refine ze_iload_n (pc := 19) zr_240_19 rfl ?_
    refine ze_isub (pc := 20) zr_240_20 ?_
    exact zq_ret1 (pc := 21) zr_240_21 rfl h
  · refine ze_iload_n (pc := 22) zr_240_22 rfl ?_
    refine ze_i2l (pc := 23) zr_240_23 ?_
    refine ze_lconst (pc := 24) zr_240_24 ?_
    refine ze_iload_n (pc := 25) zr_240_25 rfl ?_
    refine ze_i2l (pc := 26) zr_240_26 ?_
    refine ze_lconst (pc := 27) zr_240_27 ?_
    refine ze_lsub (pc := 28) zr_240_28 ?_
    refine zq_callS1 (pc := 29) (as := [.inr (.inl a0), .inr (.inl 0), .inr (.inl (z_lsub z1 1))]) (r := []) (kc2 := 0) (ks2 := 0) zr_240_29 rfl rfl rfl rfl ⟨rfl, rfl⟩ ⟨rfl, rfl, rfl⟩ h (fun z2 V2 h => ?_)
    refine zq_if_ne (pc := 32) (t := 37) zr_240_32 (by decide) (z_toif h) (fun h => ?_) (fun h => ?_)
    · refine ze_iconst (pc := 35) zr_240_35 (by decide) ?_
      exact zq_ret1 (pc := 36) zr_240_36 rfl h
    · refine ze_iconst (pc := 37) zr_240_37 (by decide) ?_
      refine zq_istore_n (pc := 38) (ls2 := [some (.inr (.inr 141)), some (.inl a0), some (.inl z1), some (.inl (-1)), none, none]) zr_240_38 rfl rfl ?_
      refine ze_iconst (pc := 39) zr_240_39 (by decide) ?_
      refine zq_istore (pc := 40) (ls2 := [some (.inr (.inr 141)), some (.inl a0), some (.inl z1), some (.inl (-1)), some (.inl 0), none]) zr_240_40 rfl rfl ?_
      exact h
theorem zb240_141_p42 {d : Nat} {Q : Int → z_M → Prop} (l1 : Int) (l2 : Int) (l3 : Int) (l4 : Int) (o5 : Option z_V) {V : z_M}
    (h : zI (l1 < l4) (Q l3 V) (z_Ex (z_MS d) 240 Q true 53 [some (.inr (.inr 141)), some (.inl l1), some (.inl l2), some (.inl l3), some (.inl l4), some (.inl (z_add l3 1))] [] 0 0 V)) :
    z_Ex (z_MS d) 240 Q true 42 [some (.inr (.inr 141)), some (.inl l1), some (.inl l2), some (.inl l3), some (.inl l4), o5] [] 0 0 V := by
  refine ze_iload (pc := 42) zr_240_42 rfl ?_
  refine ze_iload_n (pc := 44) zr_240_44 rfl ?_
  refine zq_icmp_gt (pc := 45) (t := 103) zr_240_45 (by decide) (z_toif h) (fun h => ?_) (fun h => ?_)
  · refine ze_iload_n (pc := 103) zr_240_103 rfl ?_
    exact zq_ret1 (pc := 104) zr_240_104 rfl h
  · refine ze_iload_n (pc := 48) zr_240_48 rfl ?_
    refine ze_iconst (pc := 49) zr_240_49 (by decide) ?_
    refine ze_iadd (pc := 50) zr_240_50 ?_
    refine zq_istore (pc := 51) (ls2 := [some (.inr (.inr 141)), some (.inl l1), some (.inl l2), some (.inl l3), some (.inl l4), some (.inl (z_add l3 1))]) zr_240_51 rfl rfl ?_
    exact h
theorem zb240_141_p53 {d : Nat} {Q : Int → z_M → Prop} (l1 : Int) (l2 : Int) (l3 : Int) (l4 : Int) (l5 : Int) {V : z_M}
    (h : zGu (0 ≤ l5 ∧ l5 < 12) (∀ x59 : Int, x59 = V 167 l5.toNat → zI (x59 = (z_sub l2 l4)) (zI (l3 = (-1)) (z_Ex (z_MS d) 240 Q true 42 [some (.inr (.inr 141)), some (.inl l1), some (.inl l2), some (.inl l5), some (.inl (z_add l4 1)), some (.inl l5)] [] 0 0 V) (z_MS d 157 true [.inr (.inr 141), .inl l5, .inl 0] V (fun z5401 V5401 => z_MS d 157 true [.inr (.inr 141), .inl l3, .inl 0] V5401 (fun z5402 V5402 => zI (z5402 < z5401) (z_Ex (z_MS d) 240 Q true 53 [some (.inr (.inr 141)), some (.inl l1), some (.inl l2), some (.inl l3), some (.inl l4), some (.inl (z_add l5 1))] [] 0 0 V5402) (z_Ex (z_MS d) 240 Q true 42 [some (.inr (.inr 141)), some (.inl l1), some (.inl l2), some (.inl l5), some (.inl (z_add l4 1)), some (.inl l5)] [] 0 0 V5402))))) (z_Ex (z_MS d) 240 Q true 53 [some (.inr (.inr 141)), some (.inl l1), some (.inl l2), some (.inl l3), some (.inl l4), some (.inl (z_add l5 1))] [] 0 0 V))) :
    z_Ex (z_MS d) 240 Q true 53 [some (.inr (.inr 141)), some (.inl l1), some (.inl l2), some (.inl l3), some (.inl l4), some (.inl l5)] [] 0 0 V := by
  refine ze_aload_n (pc := 53) zr_240_53 rfl ?_
  refine ze_getfield (pc := 54) (v := .inr (.inr 167)) zr_240_54 rfl rfl ?_
  refine ze_iload (pc := 57) zr_240_57 rfl ?_
  refine z_gk h (fun g59 h => ?_)
  refine zl_iaload (pc := 59) zr_240_59 rfl rfl g59 h (fun x59 h => ?_)
  refine ze_iload_n (pc := 60) zr_240_60 rfl ?_
  refine ze_iload (pc := 61) zr_240_61 rfl ?_
  refine ze_isub (pc := 63) zr_240_63 ?_
  refine zq_icmp_ne (pc := 64) (t := 88) zr_240_64 (by decide) (z_toif h) (fun h => ?_) (fun h => ?_)
  · refine ze_iload_n (pc := 67) zr_240_67 rfl ?_
    refine ze_iconst (pc := 68) zr_240_68 (by decide) ?_
    refine zq_icmp_eq (pc := 69) (t := 94) zr_240_69 (by decide) (z_toif h) (fun h => ?_) (fun h => ?_)
    · refine ze_iload (pc := 94) zr_240_94 rfl ?_
      refine zq_istore_n (pc := 96) (ls2 := [some (.inr (.inr 141)), some (.inl l1), some (.inl l2), some (.inl l5), some (.inl l4), some (.inl l5)]) zr_240_96 rfl rfl ?_
      refine zq_iinc (pc := 97) (ls2 := [some (.inr (.inr 141)), some (.inl l1), some (.inl l2), some (.inl l5), some (.inl (z_add l4 1)), some (.inl l5)]) zr_240_97 rfl rfl rfl ?_
      refine ze_goto (pc := 100) (t := 42) zr_240_100 (by decide) ?_
      exact h
    · refine ze_aload_n (pc := 72) zr_240_72 rfl ?_
      refine ze_iload (pc := 73) zr_240_73 rfl ?_
      refine ze_iconst (pc := 75) zr_240_75 (by decide) ?_
      refine zq_callV1 (pc := 76) (as := [.inr (.inr 141), .inl l5, .inl 0]) (r := []) (kc2 := 0) (ks2 := 0) zr_240_76 rfl (by decide) rfl rfl rfl rfl ⟨rfl, rfl⟩ ⟨rfl, rfl, rfl⟩ h (fun z5401 V5401 h => ?_)
      refine ze_aload_n (pc := 79) zr_240_79 rfl ?_
      refine ze_iload_n (pc := 80) zr_240_80 rfl ?_
      refine ze_iconst (pc := 81) zr_240_81 (by decide) ?_
      refine zq_callV1 (pc := 82) (as := [.inr (.inr 141), .inl l3, .inl 0]) (r := [.inl z5401]) (kc2 := 0) (ks2 := 0) zr_240_82 rfl (by decide) rfl rfl rfl rfl ⟨rfl, rfl⟩ ⟨rfl, rfl, rfl⟩ h (fun z5402 V5402 h => ?_)
      refine zq_icmp_le (pc := 85) (t := 94) zr_240_85 (by decide) (z_toif h) (fun h => ?_) (fun h => ?_)
      · refine zq_iinc (pc := 88) (ls2 := [some (.inr (.inr 141)), some (.inl l1), some (.inl l2), some (.inl l3), some (.inl l4), some (.inl (z_add l5 1))]) zr_240_88 rfl rfl rfl ?_
        refine ze_goto (pc := 91) (t := 53) zr_240_91 (by decide) ?_
        exact h
      · refine ze_iload (pc := 94) zr_240_94 rfl ?_
        refine zq_istore_n (pc := 96) (ls2 := [some (.inr (.inr 141)), some (.inl l1), some (.inl l2), some (.inl l5), some (.inl l4), some (.inl l5)]) zr_240_96 rfl rfl ?_
        refine zq_iinc (pc := 97) (ls2 := [some (.inr (.inr 141)), some (.inl l1), some (.inl l2), some (.inl l5), some (.inl (z_add l4 1)), some (.inl l5)]) zr_240_97 rfl rfl rfl ?_
        refine ze_goto (pc := 100) (t := 42) zr_240_100 (by decide) ?_
        exact h
  · refine zq_iinc (pc := 88) (ls2 := [some (.inr (.inr 141)), some (.inl l1), some (.inl l2), some (.inl l3), some (.inl l4), some (.inl (z_add l5 1))]) zr_240_88 rfl rfl rfl ?_
    refine ze_goto (pc := 91) (t := 53) zr_240_91 (by decide) ?_
    exact h
theorem zb241_141 {d : Nat} {Q : Int → z_M → Prop} (a0 : Int) {V : z_M}
    (h : ∀ W1, W1 = z_up V 141 0 0 → z_MS d 159 true [.inl 0, .inl a0] W1 (fun z1 V1 => zI (z1 = 0) (z_MS d 149 true [.inr (.inr 141), .inl (-1)] V1 (fun z4 V4 => Q z4 V4)) (zI ((V1 143 5) = 8) (z_MS d 149 true [.inr (.inr 141), .inl (-5)] V1 (fun z3 V3 => Q z3 V3)) (zGu (0 ≤ (z_add 82 (V1 143 5)) ∧ (z_add 82 (V1 143 5)) < 5490) (∀ W2, W2 = z_up V1 143 (z_add 82 (V1 143 5)).toNat a0 → ∀ W3, W3 = z_up W2 143 5 (z_add (W2 143 5) 1) → z_MS d 149 true [.inr (.inr 141), .inl (z_add (V1 143 5) 1)] W3 (fun z2 V2 => Q z2 V2)))))) :
    z_MS (d + 1) 241 true [.inr (.inr 141), .inl a0] V Q := by
  show z_Ex (z_MS d) 241 Q true 0 [some (.inr (.inr 141)), some (.inl a0), none] [] 0 0 V
  refine ze_aload_n (pc := 0) zr_241_0 rfl ?_
  refine ze_iconst (pc := 1) zr_241_1 (by decide) ?_
  refine zq_putI (pc := 2) zr_241_2 (by decide) rfl h (fun W1 h => ?_)
  refine ze_iconst (pc := 5) zr_241_5 (by decide) ?_
  refine ze_iload_n (pc := 6) zr_241_6 rfl ?_
  refine zq_callS1 (pc := 7) (as := [.inl 0, .inl a0]) (r := []) (kc2 := 0) (ks2 := 0) zr_241_7 rfl rfl rfl rfl ⟨rfl, rfl⟩ ⟨rfl, rfl, rfl⟩ h (fun z1 V1 h => ?_)
  refine zq_if_ne (pc := 10) (t := 19) zr_241_10 (by decide) (z_toif h) (fun h => ?_) (fun h => ?_)
  · refine ze_aload_n (pc := 13) zr_241_13 rfl ?_
    refine ze_iconst (pc := 14) zr_241_14 (by decide) ?_
    refine zq_callV1 (pc := 15) (as := [.inr (.inr 141), .inl (-1)]) (r := []) (kc2 := 0) (ks2 := 0) zr_241_15 rfl (by decide) rfl rfl rfl rfl ⟨rfl, rfl⟩ ⟨rfl, rfl, rfl⟩ h (fun z4 V4 h => ?_)
    exact zq_ret1 (pc := 18) zr_241_18 rfl h
  · refine ze_aload_n (pc := 19) zr_241_19 rfl ?_
    refine ze_getfield (pc := 20) (v := .inr (.inr 143)) zr_241_20 rfl rfl ?_
    refine ze_iconst (pc := 23) zr_241_23 (by decide) ?_
    refine zq_iaload (pc := 24) (v := .inl (V1 143 5)) zr_241_24 rfl rfl (by decide) rfl ?_
    refine zq_istore_n (pc := 25) (ls2 := [some (.inr (.inr 141)), some (.inl a0), some (.inl (V1 143 5))]) zr_241_25 rfl rfl ?_
    refine ze_iload_n (pc := 26) zr_241_26 rfl ?_
    refine ze_bipush (pc := 27) zr_241_27 (by decide) ?_
    refine zq_icmp_ne (pc := 29) (t := 39) zr_241_29 (by decide) (z_toif h) (fun h => ?_) (fun h => ?_)
    · refine ze_aload_n (pc := 32) zr_241_32 rfl ?_
      refine ze_bipush (pc := 33) zr_241_33 (by decide) ?_
      refine zq_callV1 (pc := 35) (as := [.inr (.inr 141), .inl (-5)]) (r := []) (kc2 := 0) (ks2 := 0) zr_241_35 rfl (by decide) rfl rfl rfl rfl ⟨rfl, rfl⟩ ⟨rfl, rfl, rfl⟩ h (fun z3 V3 h => ?_)
      exact zq_ret1 (pc := 38) zr_241_38 rfl h
    · refine ze_aload_n (pc := 39) zr_241_39 rfl ?_
      refine ze_getfield (pc := 40) (v := .inr (.inr 143)) zr_241_40 rfl rfl ?_
      refine ze_bipush (pc := 43) zr_241_43 (by decide) ?_
      refine ze_iload_n (pc := 45) zr_241_45 rfl ?_
      refine ze_iadd (pc := 46) zr_241_46 ?_
      refine ze_iload_n (pc := 47) zr_241_47 rfl ?_
      refine z_gk h (fun g48 h => ?_)
      refine zq_iastore (pc := 48) zr_241_48 (by decide) rfl g48 rfl h (fun W2 h => ?_)
      refine ze_aload_n (pc := 49) zr_241_49 rfl ?_
      refine ze_getfield (pc := 50) (v := .inr (.inr 143)) zr_241_50 rfl rfl ?_
      refine ze_iconst (pc := 53) zr_241_53 (by decide) ?_
      refine zq_dup2 (pc := 54) zr_241_54 rfl rfl ?_
      refine zq_iaload (pc := 55) (v := .inl (W2 143 5)) zr_241_55 rfl rfl (by decide) rfl ?_
      refine ze_iconst (pc := 56) zr_241_56 (by decide) ?_
      refine ze_iadd (pc := 57) zr_241_57 ?_
      refine zq_iastore (pc := 58) zr_241_58 (by decide) rfl (by decide) rfl h (fun W3 h => ?_)
      refine ze_aload_n (pc := 59) zr_241_59 rfl ?_
      refine ze_iload_n (pc := 60) zr_241_60 rfl ?_
      refine ze_iconst (pc := 61) zr_241_61 (by decide) ?_
      refine ze_iadd (pc := 62) zr_241_62 ?_
      refine zq_callV1 (pc := 63) (as := [.inr (.inr 141), .inl (z_add (V1 143 5) 1)]) (r := []) (kc2 := 0) (ks2 := 0) zr_241_63 rfl (by decide) rfl rfl rfl rfl ⟨rfl, rfl⟩ ⟨rfl, rfl, rfl⟩ h (fun z2 V2 h => ?_)
      exact zq_ret1 (pc := 66) zr_241_66 rfl h
theorem zb242_141 {d : Nat} {Q : Int → z_M → Prop}  {V : z_M}
    (h : ∀ W1, W1 = z_up V 141 0 0 → ∀ W2, W2 = z_up W1 143 5 0 → Q (W1 143 5) W2) :
    z_MS (d + 1) 242 true [.inr (.inr 141)] V Q := by
  show z_Ex (z_MS d) 242 Q true 0 [some (.inr (.inr 141)), none] [] 0 0 V
  refine ze_aload_n (pc := 0) zr_242_0 rfl ?_
  refine ze_iconst (pc := 1) zr_242_1 (by decide) ?_
  refine zq_putI (pc := 2) zr_242_2 (by decide) rfl h (fun W1 h => ?_)
  refine ze_aload_n (pc := 5) zr_242_5 rfl ?_
  refine ze_getfield (pc := 6) (v := .inr (.inr 143)) zr_242_6 rfl rfl ?_
  refine ze_iconst (pc := 9) zr_242_9 (by decide) ?_
  refine zq_iaload (pc := 10) (v := .inl (W1 143 5)) zr_242_10 rfl rfl (by decide) rfl ?_
  refine zq_istore_n (pc := 11) (ls2 := [some (.inr (.inr 141)), some (.inl (W1 143 5))]) zr_242_11 rfl rfl ?_
  refine ze_aload_n (pc := 12) zr_242_12 rfl ?_
  refine ze_getfield (pc := 13) (v := .inr (.inr 143)) zr_242_13 rfl rfl ?_
  refine ze_iconst (pc := 16) zr_242_16 (by decide) ?_
  refine ze_iconst (pc := 17) zr_242_17 (by decide) ?_
  refine zq_iastore (pc := 18) zr_242_18 (by decide) rfl (by decide) rfl h (fun W2 h => ?_)
  refine ze_iload_n (pc := 19) zr_242_19 rfl ?_
  exact zq_ret1 (pc := 20) zr_242_20 rfl h
theorem zb243_141 {d : Nat} {Q : Int → z_M → Prop} (a0 : Int) (a1 : Int) {V : z_M}
    (h : ∀ W1, W1 = z_up V 141 0 0 → z_MS d 145 true [.inr (.inl a0), .inr (.inl 0), .inr (.inl 8)] W1 (fun z1 V1 => zI (z1 = 0) (Q (-1) V1) (zI ((V1 143 5) = 0) (Q (-1) V1) (z_Ex (z_MS d) 243 Q true 33 [some (.inr (.inr 141)), some (.inl a0), some (.inl a1), some (.inl 0), some (.inl 0), none, none] [] 0 0 V1)))) :
    z_MS (d + 1) 243 true [.inr (.inr 141), .inl a0, .inl a1] V Q := by
  show z_Ex (z_MS d) 243 Q true 0 [some (.inr (.inr 141)), some (.inl a0), some (.inl a1), none, none, none, none] [] 0 0 V
  refine ze_aload_n (pc := 0) zr_243_0 rfl ?_
  refine ze_iconst (pc := 1) zr_243_1 (by decide) ?_
  refine zq_putI (pc := 2) zr_243_2 (by decide) rfl h (fun W1 h => ?_)
  refine ze_iload_n (pc := 5) zr_243_5 rfl ?_
  refine ze_i2l (pc := 6) zr_243_6 ?_
  refine ze_lconst (pc := 7) zr_243_7 ?_
  refine ze_ldc2 (pc := 8) (z := 8) zr_243_8 (by decide) rfl ?_
  refine zq_callS1 (pc := 11) (as := [.inr (.inl a0), .inr (.inl 0), .inr (.inl 8)]) (r := []) (kc2 := 0) (ks2 := 0) zr_243_11 rfl rfl rfl rfl ⟨rfl, rfl⟩ ⟨rfl, rfl, rfl⟩ h (fun z1 V1 h => ?_)
  refine zq_if_eq (pc := 14) (t := 26) zr_243_14 (by decide) (z_toif h) (fun h => ?_) (fun h => ?_)
  · refine ze_iconst (pc := 26) zr_243_26 (by decide) ?_
    exact zq_ret1 (pc := 27) zr_243_27 rfl h
  · refine ze_aload_n (pc := 17) zr_243_17 rfl ?_
    refine ze_getfield (pc := 18) (v := .inr (.inr 143)) zr_243_18 rfl rfl ?_
    refine ze_iconst (pc := 21) zr_243_21 (by decide) ?_
    refine zq_iaload (pc := 22) (v := .inl (V1 143 5)) zr_243_22 rfl rfl (by decide) rfl ?_
    refine zq_if_ne (pc := 23) (t := 28) zr_243_23 (by decide) (z_toif h) (fun h => ?_) (fun h => ?_)
    · refine ze_iconst (pc := 26) zr_243_26 (by decide) ?_
      exact zq_ret1 (pc := 27) zr_243_27 rfl h
    · refine ze_iconst (pc := 28) zr_243_28 (by decide) ?_
      refine zq_istore_n (pc := 29) (ls2 := [some (.inr (.inr 141)), some (.inl a0), some (.inl a1), some (.inl 0), none, none, none]) zr_243_29 rfl rfl ?_
      refine ze_iconst (pc := 30) zr_243_30 (by decide) ?_
      refine zq_istore (pc := 31) (ls2 := [some (.inr (.inr 141)), some (.inl a0), some (.inl a1), some (.inl 0), some (.inl 0), none, none]) zr_243_31 rfl rfl ?_
      exact h
theorem zb243_141_p33 {d : Nat} {Q : Int → z_M → Prop} (l1 : Int) (l2 : Int) (l3 : Int) (l4 : Int) (o5 : Option z_V) (o6 : Option z_V) {V : z_M}
    (h : z_MS d 154 true [.inr (.inr 141)] V (fun z3401 V3401 => zI (z3401 < (z_add l4 (V 143 5))) (Q (if l2 = (-1) then l3 else -1) V3401) (z_Ex (z_MS d) 243 Q true 55 [some (.inr (.inr 141)), some (.inl l1), some (.inl l2), some (.inl l3), some (.inl l4), some (.inl 1), some (.inl 0)] [] 0 0 V3401))) :
    z_Ex (z_MS d) 243 Q true 33 [some (.inr (.inr 141)), some (.inl l1), some (.inl l2), some (.inl l3), some (.inl l4), o5, o6] [] 0 0 V := by
  refine ze_iload (pc := 33) zr_243_33 rfl ?_
  refine ze_aload_n (pc := 35) zr_243_35 rfl ?_
  refine ze_getfield (pc := 36) (v := .inr (.inr 143)) zr_243_36 rfl rfl ?_
  refine ze_iconst (pc := 39) zr_243_39 (by decide) ?_
  refine zq_iaload (pc := 40) (v := .inl (V 143 5)) zr_243_40 rfl rfl (by decide) rfl ?_
  refine ze_iadd (pc := 41) zr_243_41 ?_
  refine ze_aload_n (pc := 42) zr_243_42 rfl ?_
  refine zq_callV1 (pc := 43) (as := [.inr (.inr 141)]) (r := [.inl (z_add l4 (V 143 5))]) (kc2 := 0) (ks2 := 0) zr_243_43 rfl (by decide) rfl rfl rfl rfl ⟨rfl, rfl⟩ ⟨rfl, rfl, rfl⟩ h (fun z3401 V3401 h => ?_)
  refine zq_icmp_gt (pc := 46) (t := 134) zr_243_46 (by decide) (z_toif h) (fun h => ?_) (fun h => ?_)
  · refine ze_iload_n (pc := 134) zr_243_134 rfl ?_
    refine ze_iconst (pc := 135) zr_243_135 (by decide) ?_
    have j136 : z_Ex (z_MS d) 243 Q true 144 [some (.inr (.inr 141)), some (.inl l1), some (.inl l2), some (.inl l3), some (.inl l4), o5, o6] [.inl (if l2 = (-1) then l3 else -1)] 0 0 V3401 := by
      exact zq_ret1 (pc := 144) zr_243_144 rfl h
    refine ze_icmp_ne (pc := 136) (t := 143) zr_243_136 (by decide) (fun hc => ?_) (fun hc => ?_)
    · rw [if_pos (show l2 = (-1) from hc)] at j136
      refine ze_iload_n (pc := 139) zr_243_139 rfl ?_
      refine ze_goto (pc := 140) (t := 144) zr_243_140 (by decide) ?_
      exact j136
    · rw [if_neg (show ¬ (l2 = (-1)) from hc)] at j136
      refine ze_iconst (pc := 143) zr_243_143 (by decide) ?_
      exact j136
  · refine ze_iconst (pc := 49) zr_243_49 (by decide) ?_
    refine zq_istore (pc := 50) (ls2 := [some (.inr (.inr 141)), some (.inl l1), some (.inl l2), some (.inl l3), some (.inl l4), some (.inl 1), o6]) zr_243_50 rfl rfl ?_
    refine ze_iconst (pc := 52) zr_243_52 (by decide) ?_
    refine zq_istore (pc := 53) (ls2 := [some (.inr (.inr 141)), some (.inl l1), some (.inl l2), some (.inl l3), some (.inl l4), some (.inl 1), some (.inl 0)]) zr_243_53 rfl rfl ?_
    exact h
theorem zb243_141_p55 {d : Nat} {Q : Int → z_M → Prop} (l1 : Int) (l2 : Int) (l3 : Int) (l4 : Int) (l5 : Int) (l6 : Int) {V : z_M}
    (h : zI (l6 < (V 143 5)) (zI (l5 = 0) (z_Ex (z_MS d) 243 Q true 55 [some (.inr (.inr 141)), some (.inl l1), some (.inl l2), some (.inl l3), some (.inl l4), some (.inl 0), some (.inl (z_add l6 1))] [] 0 0 V) (z_MS d 157 true [.inr (.inr 141), .inl (z_add l4 l6), .inl 0] V (fun z5601 V5601 => zGu (0 ≤ (z_add 82 l6) ∧ (z_add 82 l6) < 5490) (∀ x90 : Int, x90 = V5601 143 (z_add 82 l6).toNat → z_MS d 148 true [.inl (z_sub z5601 x90)] V5601 (fun z5602 V5602 => z_Ex (z_MS d) 243 Q true 55 [some (.inr (.inr 141)), some (.inl l1), some (.inl l2), some (.inl l3), some (.inl l4), some (.inl (if l1 < z5602 then 0 else 1)), some (.inl (z_add l6 1))] [] 0 0 V5602))))) (zI (l5 = 0) (z_Ex (z_MS d) 243 Q true 33 [some (.inr (.inr 141)), some (.inl l1), some (.inl l2), some (.inl l3), some (.inl (z_add l4 1)), some (.inl l5), some (.inl l6)] [] 0 0 V) (zI (l3 = l2) (Q l4 V) (z_Ex (z_MS d) 243 Q true 33 [some (.inr (.inr 141)), some (.inl l1), some (.inl l2), some (.inl (z_add l3 1)), some (.inl (z_add l4 1)), some (.inl l5), some (.inl l6)] [] 0 0 V)))) :
    z_Ex (z_MS d) 243 Q true 55 [some (.inr (.inr 141)), some (.inl l1), some (.inl l2), some (.inl l3), some (.inl l4), some (.inl l5), some (.inl l6)] [] 0 0 V := by
  refine ze_iload (pc := 55) zr_243_55 rfl ?_
  refine ze_aload_n (pc := 57) zr_243_57 rfl ?_
  refine ze_getfield (pc := 58) (v := .inr (.inr 143)) zr_243_58 rfl rfl ?_
  refine ze_iconst (pc := 61) zr_243_61 (by decide) ?_
  refine zq_iaload (pc := 62) (v := .inl (V 143 5)) zr_243_62 rfl rfl (by decide) rfl ?_
  refine zq_icmp_ge (pc := 63) (t := 112) zr_243_63 (by decide) (z_toif h) (fun h => ?_) (fun h => ?_)
  · refine ze_iload (pc := 66) zr_243_66 rfl ?_
    refine zq_if_eq (pc := 68) (t := 103) zr_243_68 (by decide) (z_toif h) (fun h => ?_) (fun h => ?_)
    · refine ze_iconst (pc := 103) zr_243_103 (by decide) ?_
      refine zq_istore (pc := 104) (ls2 := [some (.inr (.inr 141)), some (.inl l1), some (.inl l2), some (.inl l3), some (.inl l4), some (.inl 0), some (.inl l6)]) zr_243_104 rfl rfl ?_
      refine zq_iinc (pc := 106) (ls2 := [some (.inr (.inr 141)), some (.inl l1), some (.inl l2), some (.inl l3), some (.inl l4), some (.inl 0), some (.inl (z_add l6 1))]) zr_243_106 rfl rfl rfl ?_
      refine ze_goto (pc := 109) (t := 55) zr_243_109 (by decide) ?_
      exact h
    · refine ze_aload_n (pc := 71) zr_243_71 rfl ?_
      refine ze_iload (pc := 72) zr_243_72 rfl ?_
      refine ze_iload (pc := 74) zr_243_74 rfl ?_
      refine ze_iadd (pc := 76) zr_243_76 ?_
      refine ze_iconst (pc := 77) zr_243_77 (by decide) ?_
      refine zq_callV1 (pc := 78) (as := [.inr (.inr 141), .inl (z_add l4 l6), .inl 0]) (r := []) (kc2 := 0) (ks2 := 0) zr_243_78 rfl (by decide) rfl rfl rfl rfl ⟨rfl, rfl⟩ ⟨rfl, rfl, rfl⟩ h (fun z5601 V5601 h => ?_)
      refine ze_aload_n (pc := 81) zr_243_81 rfl ?_
      refine ze_getfield (pc := 82) (v := .inr (.inr 143)) zr_243_82 rfl rfl ?_
      refine ze_bipush (pc := 85) zr_243_85 (by decide) ?_
      refine ze_iload (pc := 87) zr_243_87 rfl ?_
      refine ze_iadd (pc := 89) zr_243_89 ?_
      refine z_gk h (fun g90 h => ?_)
      refine zl_iaload (pc := 90) zr_243_90 rfl rfl g90 h (fun x90 h => ?_)
      refine ze_isub (pc := 91) zr_243_91 ?_
      refine zq_callS1 (pc := 92) (as := [.inl (z_sub z5601 x90)]) (r := []) (kc2 := 0) (ks2 := 0) zr_243_92 rfl rfl rfl rfl ⟨rfl, rfl⟩ ⟨rfl, rfl, rfl⟩ h (fun z5602 V5602 h => ?_)
      refine ze_iload_n (pc := 95) zr_243_95 rfl ?_
      have j96 : z_Ex (z_MS d) 243 Q true 104 [some (.inr (.inr 141)), some (.inl l1), some (.inl l2), some (.inl l3), some (.inl l4), some (.inl l5), some (.inl l6)] [.inl (if l1 < z5602 then 0 else 1)] 0 0 V5602 := by
        refine zq_istore (pc := 104) (ls2 := [some (.inr (.inr 141)), some (.inl l1), some (.inl l2), some (.inl l3), some (.inl l4), some (.inl (if l1 < z5602 then 0 else 1)), some (.inl l6)]) zr_243_104 rfl rfl ?_
        refine zq_iinc (pc := 106) (ls2 := [some (.inr (.inr 141)), some (.inl l1), some (.inl l2), some (.inl l3), some (.inl l4), some (.inl (if l1 < z5602 then 0 else 1)), some (.inl (z_add l6 1))]) zr_243_106 rfl rfl rfl ?_
        refine ze_goto (pc := 109) (t := 55) zr_243_109 (by decide) ?_
        exact h
      refine ze_icmp_gt (pc := 96) (t := 103) zr_243_96 (by decide) (fun hc => ?_) (fun hc => ?_)
      · rw [if_pos (show l1 < z5602 from hc)] at j96
        refine ze_iconst (pc := 103) zr_243_103 (by decide) ?_
        exact j96
      · rw [if_neg (show ¬ (l1 < z5602) from hc)] at j96
        refine ze_iconst (pc := 99) zr_243_99 (by decide) ?_
        refine ze_goto (pc := 100) (t := 104) zr_243_100 (by decide) ?_
        exact j96
  · refine ze_iload (pc := 112) zr_243_112 rfl ?_
    refine zq_if_eq (pc := 114) (t := 128) zr_243_114 (by decide) (z_toif h) (fun h => ?_) (fun h => ?_)
    · refine zq_iinc (pc := 128) (ls2 := [some (.inr (.inr 141)), some (.inl l1), some (.inl l2), some (.inl l3), some (.inl (z_add l4 1)), some (.inl l5), some (.inl l6)]) zr_243_128 rfl rfl rfl ?_
      refine ze_goto (pc := 131) (t := 33) zr_243_131 (by decide) ?_
      exact h
    · refine ze_iload_n (pc := 117) zr_243_117 rfl ?_
      refine ze_iload_n (pc := 118) zr_243_118 rfl ?_
      refine zq_icmp_ne (pc := 119) (t := 125) zr_243_119 (by decide) (z_toif h) (fun h => ?_) (fun h => ?_)
      · refine ze_iload (pc := 122) zr_243_122 rfl ?_
        exact zq_ret1 (pc := 124) zr_243_124 rfl h
      · refine zq_iinc (pc := 125) (ls2 := [some (.inr (.inr 141)), some (.inl l1), some (.inl l2), some (.inl (z_add l3 1)), some (.inl l4), some (.inl l5), some (.inl l6)]) zr_243_125 rfl rfl rfl ?_
        refine zq_iinc (pc := 128) (ls2 := [some (.inr (.inr 141)), some (.inl l1), some (.inl l2), some (.inl (z_add l3 1)), some (.inl (z_add l4 1)), some (.inl l5), some (.inl l6)]) zr_243_128 rfl rfl rfl ?_
        refine ze_goto (pc := 131) (t := 33) zr_243_131 (by decide) ?_
        exact h
theorem zb244_141 {d : Nat} {Q : Int → z_M → Prop} (a0 : Int) {V : z_M}
    (h : ∀ W1, W1 = z_up V 141 53 (z_lrem (z_ladd (z_lmul (V 141 53) 1103) 12345) 1000003) → zGu (¬ a0 = 0) (Q (z_l2i (z_lrem (W1 141 53) a0)) W1)) :
    z_MS (d + 1) 244 true [.inr (.inr 141), .inl a0] V Q := by
  show z_Ex (z_MS d) 244 Q true 0 [some (.inr (.inr 141)), some (.inl a0)] [] 0 0 V
  refine ze_aload_n (pc := 0) zr_244_0 rfl ?_
  refine ze_aload_n (pc := 1) zr_244_1 rfl ?_
  refine ze_getfield (pc := 2) (v := .inr (.inl (V 141 53))) zr_244_2 rfl rfl ?_
  refine ze_ldc2 (pc := 5) (z := 1103) zr_244_5 (by decide) rfl ?_
  refine ze_lmul (pc := 8) zr_244_8 ?_
  refine ze_ldc2 (pc := 9) (z := 12345) zr_244_9 (by decide) rfl ?_
  refine ze_ladd (pc := 12) zr_244_12 ?_
  refine ze_ldc2 (pc := 13) (z := 1000003) zr_244_13 (by decide) rfl ?_
  refine ze_lrem (pc := 16) zr_244_16 (by decide) ?_
  refine zq_putL (pc := 17) zr_244_17 (by decide) rfl h (fun W1 h => ?_)
  refine ze_aload_n (pc := 20) zr_244_20 rfl ?_
  refine ze_getfield (pc := 21) (v := .inr (.inl (W1 141 53))) zr_244_21 rfl rfl ?_
  refine ze_iload_n (pc := 24) zr_244_24 rfl ?_
  refine ze_i2l (pc := 25) zr_244_25 ?_
  refine z_gk h (fun g26 h => ?_)
  refine ze_lrem (pc := 26) zr_244_26 g26 ?_
  refine ze_l2i (pc := 27) zr_244_27 ?_
  exact zq_ret1 (pc := 28) zr_244_28 rfl h
theorem zb245_141 {d : Nat} {Q : Int → z_M → Prop} (a0 : Int) (a1 : Int) {V : z_M}
    (h : ∀ W1, W1 = z_up V 141 0 0 → z_MS d 145 true [.inr (.inl a0), .inr (.inl 0), .inr (.inl 1000000)] W1 (fun z1 V1 => zI (z1 = 0) (z_MS d 149 true [.inr (.inr 141), .inl (-1)] V1 (fun z2 V2 => Q z2 V2)) (z_MS d 145 true [.inr (.inl a1), .inr (.inl 1), .inr (.inl 20)] V1 (fun z3 V3 => zI (z3 = 0) (z_MS d 149 true [.inr (.inr 141), .inl (-1)] V3 (fun z5 V5 => Q z5 V5)) (z_MS d 201 true [.inr (.inr 141)] V3 (fun z4 V4 => ∀ W2, W2 = z_up V4 141 53 a0 → ∀ W3, W3 = z_up W2 141 55 a1 → z_Ex (z_MS d) 245 Q true 55 [some (.inr (.inr 141)), some (.inl a0), some (.inl a1), some (.inl 0), some (.inl 0), none, none, none] [] 0 0 W3)))))) :
    z_MS (d + 1) 245 true [.inr (.inr 141), .inl a0, .inl a1] V Q := by
  show z_Ex (z_MS d) 245 Q true 0 [some (.inr (.inr 141)), some (.inl a0), some (.inl a1), none, none, none, none, none] [] 0 0 V
  refine ze_aload_n (pc := 0) zr_245_0 rfl ?_
  refine ze_iconst (pc := 1) zr_245_1 (by decide) ?_
  refine zq_putI (pc := 2) zr_245_2 (by decide) rfl h (fun W1 h => ?_)
  refine ze_iload_n (pc := 5) zr_245_5 rfl ?_
  refine ze_i2l (pc := 6) zr_245_6 ?_
  refine ze_lconst (pc := 7) zr_245_7 ?_
  refine ze_ldc2 (pc := 8) (z := 1000000) zr_245_8 (by decide) rfl ?_
  refine zq_callS1 (pc := 11) (as := [.inr (.inl a0), .inr (.inl 0), .inr (.inl 1000000)]) (r := []) (kc2 := 0) (ks2 := 0) zr_245_11 rfl rfl rfl rfl ⟨rfl, rfl⟩ ⟨rfl, rfl, rfl⟩ h (fun z1 V1 h => ?_)
  refine zq_if_eq (pc := 14) (t := 29) zr_245_14 (by decide) (z_toif h) (fun h => ?_) (fun h => ?_)
  · refine ze_aload_n (pc := 29) zr_245_29 rfl ?_
    refine ze_iconst (pc := 30) zr_245_30 (by decide) ?_
    refine zq_callV1 (pc := 31) (as := [.inr (.inr 141), .inl (-1)]) (r := []) (kc2 := 0) (ks2 := 0) zr_245_31 rfl (by decide) rfl rfl rfl rfl ⟨rfl, rfl⟩ ⟨rfl, rfl, rfl⟩ h (fun z2 V2 h => ?_)
    exact zq_ret1 (pc := 34) zr_245_34 rfl h
  · refine ze_iload_n (pc := 17) zr_245_17 rfl ?_
    refine ze_i2l (pc := 18) zr_245_18 ?_
    refine ze_lconst (pc := 19) zr_245_19 ?_
    refine ze_ldc2 (pc := 20) (z := 20) zr_245_20 (by decide) rfl ?_
    refine zq_callS1 (pc := 23) (as := [.inr (.inl a1), .inr (.inl 1), .inr (.inl 20)]) (r := []) (kc2 := 0) (ks2 := 0) zr_245_23 rfl rfl rfl rfl ⟨rfl, rfl⟩ ⟨rfl, rfl, rfl⟩ h (fun z3 V3 h => ?_)
    refine zq_if_ne (pc := 26) (t := 35) zr_245_26 (by decide) (z_toif h) (fun h => ?_) (fun h => ?_)
    · refine ze_aload_n (pc := 29) zr_245_29 rfl ?_
      refine ze_iconst (pc := 30) zr_245_30 (by decide) ?_
      refine zq_callV1 (pc := 31) (as := [.inr (.inr 141), .inl (-1)]) (r := []) (kc2 := 0) (ks2 := 0) zr_245_31 rfl (by decide) rfl rfl rfl rfl ⟨rfl, rfl⟩ ⟨rfl, rfl, rfl⟩ h (fun z5 V5 h => ?_)
      exact zq_ret1 (pc := 34) zr_245_34 rfl h
    · refine ze_aload_n (pc := 35) zr_245_35 rfl ?_
      refine zq_callV0 (pc := 36) (as := [.inr (.inr 141)]) (r := []) (kc2 := 0) (ks2 := 0) zr_245_36 rfl (by decide) rfl rfl rfl rfl ⟨rfl, rfl⟩ rfl h (fun z4 V4 h => ?_)
      refine ze_aload_n (pc := 39) zr_245_39 rfl ?_
      refine ze_iload_n (pc := 40) zr_245_40 rfl ?_
      refine ze_i2l (pc := 41) zr_245_41 ?_
      refine zq_putL (pc := 42) zr_245_42 (by decide) rfl h (fun W2 h => ?_)
      refine ze_aload_n (pc := 45) zr_245_45 rfl ?_
      refine ze_iload_n (pc := 46) zr_245_46 rfl ?_
      refine zq_putI (pc := 47) zr_245_47 (by decide) rfl h (fun W3 h => ?_)
      refine ze_iconst (pc := 50) zr_245_50 (by decide) ?_
      refine zq_istore_n (pc := 51) (ls2 := [some (.inr (.inr 141)), some (.inl a0), some (.inl a1), some (.inl 0), none, none, none, none]) zr_245_51 rfl rfl ?_
      refine ze_iconst (pc := 52) zr_245_52 (by decide) ?_
      refine zq_istore (pc := 53) (ls2 := [some (.inr (.inr 141)), some (.inl a0), some (.inl a1), some (.inl 0), some (.inl 0), none, none, none]) zr_245_53 rfl rfl ?_
      exact h
theorem zb245_141_p55 {d : Nat} {Q : Int → z_M → Prop} (o1 : Option z_V) (l2 : Int) (l3 : Int) (l4 : Int) (o5 : Option z_V) (o6 : Option z_V) (o7 : Option z_V) {V : z_M}
    (h : zI (l4 < l2) (z_MS d 221 true [.inr (.inr 141)] V (fun z5602 V5602 => z_Ex (z_MS d) 245 Q true 71 [some (.inr (.inr 141)), o1, some (.inl l2), some (.inl l3), some (.inl l4), some (.inl 0), some (.inl 0), o7] [] 0 0 V5602)) (z_MS d 149 true [.inr (.inr 141), .inl l3] V (fun z5601 V5601 => Q z5601 V5601))) :
    z_Ex (z_MS d) 245 Q true 55 [some (.inr (.inr 141)), o1, some (.inl l2), some (.inl l3), some (.inl l4), o5, o6, o7] [] 0 0 V := by
  refine ze_iload (pc := 55) zr_245_55 rfl ?_
  refine ze_iload_n (pc := 57) zr_245_57 rfl ?_
  refine zq_icmp_ge (pc := 58) (t := 191) zr_245_58 (by decide) (z_toif h) (fun h => ?_) (fun h => ?_)
  · refine ze_aload_n (pc := 61) zr_245_61 rfl ?_
    refine zq_callV0 (pc := 62) (as := [.inr (.inr 141)]) (r := []) (kc2 := 0) (ks2 := 0) zr_245_62 rfl (by decide) rfl rfl rfl rfl ⟨rfl, rfl⟩ rfl h (fun z5602 V5602 h => ?_)
    refine ze_iconst (pc := 65) zr_245_65 (by decide) ?_
    refine zq_istore (pc := 66) (ls2 := [some (.inr (.inr 141)), o1, some (.inl l2), some (.inl l3), some (.inl l4), some (.inl 0), o6, o7]) zr_245_66 rfl rfl ?_
    refine ze_iconst (pc := 68) zr_245_68 (by decide) ?_
    refine zq_istore (pc := 69) (ls2 := [some (.inr (.inr 141)), o1, some (.inl l2), some (.inl l3), some (.inl l4), some (.inl 0), some (.inl 0), o7]) zr_245_69 rfl rfl ?_
    exact h
  · refine ze_aload_n (pc := 191) zr_245_191 rfl ?_
    refine ze_iload_n (pc := 192) zr_245_192 rfl ?_
    refine zq_callV1 (pc := 193) (as := [.inr (.inr 141), .inl l3]) (r := []) (kc2 := 0) (ks2 := 0) zr_245_193 rfl (by decide) rfl rfl rfl rfl ⟨rfl, rfl⟩ ⟨rfl, rfl, rfl⟩ h (fun z5601 V5601 h => ?_)
    exact zq_ret1 (pc := 196) zr_245_196 rfl h
theorem zb245_141_p71 {d : Nat} {Q : Int → z_M → Prop} (o1 : Option z_V) (l2 : Int) (l3 : Int) (l4 : Int) (l5 : Int) (l6 : Int) (o7 : Option z_V) {V : z_M}
    (h : zI (l6 < 6) (zI (0 < (V 143 1)) (z_MS d 154 true [.inr (.inr 141)] V (fun z7201 V7201 => zI (0 < z7201) (z_MS d 244 true [.inr (.inr 141), .inl (V7201 143 1)] V7201 (fun z7202 V7202 => z_MS d 154 true [.inr (.inr 141)] V7202 (fun z7203 V7203 => z_MS d 244 true [.inr (.inr 141), .inl z7203] V7203 (fun z7204 V7204 => z_MS d 223 true [.inr (.inr 141), .inl z7202, .inl z7204] V7204 (fun z7205 V7205 => z_Ex (z_MS d) 245 Q true 71 [some (.inr (.inr 141)), o1, some (.inl l2), some (.inl l3), some (.inl l4), some (.inl (z_add l5 (if z7205 = 0 then 0 else 1))), some (.inl (z_add l6 1)), some (.inl z7202)] [] 0 0 V7205))))) (z_Ex (z_MS d) 245 Q true 139 [some (.inr (.inr 141)), o1, some (.inl l2), some (.inl l3), some (.inl l4), some (.inl l5), some (.inl l6), o7] [] 0 0 V7201))) (z_Ex (z_MS d) 245 Q true 139 [some (.inr (.inr 141)), o1, some (.inl l2), some (.inl l3), some (.inl l4), some (.inl l5), some (.inl l6), o7] [] 0 0 V)) (z_Ex (z_MS d) 245 Q true 139 [some (.inr (.inr 141)), o1, some (.inl l2), some (.inl l3), some (.inl l4), some (.inl l5), some (.inl l6), o7] [] 0 0 V)) :
    z_Ex (z_MS d) 245 Q true 71 [some (.inr (.inr 141)), o1, some (.inl l2), some (.inl l3), some (.inl l4), some (.inl l5), some (.inl l6), o7] [] 0 0 V := by
  refine ze_iload (pc := 71) zr_245_71 rfl ?_
  refine ze_bipush (pc := 73) zr_245_73 (by decide) ?_
  refine zq_icmp_ge (pc := 75) (t := 139) zr_245_75 (by decide) (z_toif h) (fun h => ?_) (fun h => ?_)
  · refine ze_aload_n (pc := 78) zr_245_78 rfl ?_
    refine ze_getfield (pc := 79) (v := .inr (.inr 143)) zr_245_79 rfl rfl ?_
    refine ze_iconst (pc := 82) zr_245_82 (by decide) ?_
    refine zq_iaload (pc := 83) (v := .inl (V 143 1)) zr_245_83 rfl rfl (by decide) rfl ?_
    refine zq_if_le (pc := 84) (t := 139) zr_245_84 (by decide) (z_toif h) (fun h => ?_) (fun h => ?_)
    · refine ze_aload_n (pc := 87) zr_245_87 rfl ?_
      refine zq_callV1 (pc := 88) (as := [.inr (.inr 141)]) (r := []) (kc2 := 0) (ks2 := 0) zr_245_88 rfl (by decide) rfl rfl rfl rfl ⟨rfl, rfl⟩ ⟨rfl, rfl, rfl⟩ h (fun z7201 V7201 h => ?_)
      refine zq_if_le (pc := 91) (t := 139) zr_245_91 (by decide) (z_toif h) (fun h => ?_) (fun h => ?_)
      · refine ze_aload_n (pc := 94) zr_245_94 rfl ?_
        refine ze_aload_n (pc := 95) zr_245_95 rfl ?_
        refine ze_getfield (pc := 96) (v := .inr (.inr 143)) zr_245_96 rfl rfl ?_
        refine ze_iconst (pc := 99) zr_245_99 (by decide) ?_
        refine zq_iaload (pc := 100) (v := .inl (V7201 143 1)) zr_245_100 rfl rfl (by decide) rfl ?_
        refine zq_callV1 (pc := 101) (as := [.inr (.inr 141), .inl (V7201 143 1)]) (r := []) (kc2 := 0) (ks2 := 0) zr_245_101 rfl (by decide) rfl rfl rfl rfl ⟨rfl, rfl⟩ ⟨rfl, rfl, rfl⟩ h (fun z7202 V7202 h => ?_)
        refine zq_istore (pc := 104) (ls2 := [some (.inr (.inr 141)), o1, some (.inl l2), some (.inl l3), some (.inl l4), some (.inl l5), some (.inl l6), some (.inl z7202)]) zr_245_104 rfl rfl ?_
        refine ze_iload (pc := 106) zr_245_106 rfl ?_
        refine ze_aload_n (pc := 108) zr_245_108 rfl ?_
        refine ze_iload (pc := 109) zr_245_109 rfl ?_
        refine ze_aload_n (pc := 111) zr_245_111 rfl ?_
        refine ze_aload_n (pc := 112) zr_245_112 rfl ?_
        refine zq_callV1 (pc := 113) (as := [.inr (.inr 141)]) (r := [.inr (.inr 141), .inl z7202, .inr (.inr 141), .inl l5]) (kc2 := 0) (ks2 := 0) zr_245_113 rfl (by decide) rfl rfl rfl rfl ⟨rfl, rfl⟩ ⟨rfl, rfl, rfl⟩ h (fun z7203 V7203 h => ?_)
        refine zq_callV1 (pc := 116) (as := [.inr (.inr 141), .inl z7203]) (r := [.inl z7202, .inr (.inr 141), .inl l5]) (kc2 := 0) (ks2 := 0) zr_245_116 rfl (by decide) rfl rfl rfl rfl ⟨rfl, rfl⟩ ⟨rfl, rfl, rfl⟩ h (fun z7204 V7204 h => ?_)
        refine zq_callV1 (pc := 119) (as := [.inr (.inr 141), .inl z7202, .inl z7204]) (r := [.inl l5]) (kc2 := 0) (ks2 := 0) zr_245_119 rfl (by decide) rfl rfl rfl rfl ⟨rfl, rfl⟩ ⟨rfl, rfl, rfl⟩ h (fun z7205 V7205 h => ?_)
        have j122 : z_Ex (z_MS d) 245 Q true 130 [some (.inr (.inr 141)), o1, some (.inl l2), some (.inl l3), some (.inl l4), some (.inl l5), some (.inl l6), some (.inl z7202)] [.inl (if z7205 = 0 then 0 else 1), .inl l5] 0 0 V7205 := by
          refine ze_iadd (pc := 130) zr_245_130 ?_
          refine zq_istore (pc := 131) (ls2 := [some (.inr (.inr 141)), o1, some (.inl l2), some (.inl l3), some (.inl l4), some (.inl (z_add l5 (if z7205 = 0 then 0 else 1))), some (.inl l6), some (.inl z7202)]) zr_245_131 rfl rfl ?_
          refine zq_iinc (pc := 133) (ls2 := [some (.inr (.inr 141)), o1, some (.inl l2), some (.inl l3), some (.inl l4), some (.inl (z_add l5 (if z7205 = 0 then 0 else 1))), some (.inl (z_add l6 1)), some (.inl z7202)]) zr_245_133 rfl rfl rfl ?_
          refine ze_goto (pc := 136) (t := 71) zr_245_136 (by decide) ?_
          exact h
        refine ze_if_eq (pc := 122) (t := 129) zr_245_122 (by decide) (fun hc => ?_) (fun hc => ?_)
        · rw [if_pos (show z7205 = 0 from hc)] at j122
          refine ze_iconst (pc := 129) zr_245_129 (by decide) ?_
          exact j122
        · rw [if_neg (show ¬ (z7205 = 0) from hc)] at j122
          refine ze_iconst (pc := 125) zr_245_125 (by decide) ?_
          refine ze_goto (pc := 126) (t := 130) zr_245_126 (by decide) ?_
          exact j122
      · exact h
    · exact h
  · exact h
theorem zb245_141_p139 {d : Nat} {Q : Int → z_M → Prop} (o1 : Option z_V) (l2 : Int) (l3 : Int) (l4 : Int) (l5 : Int) (o6 : Option z_V) (o7 : Option z_V) {V : z_M}
    (h : zGu (0 ≤ (z_mul 3 l4) ∧ (z_mul 3 l4) < 60) (∀ W14001, W14001 = z_up V 168 (z_mul 3 l4).toNat l5 → z_MS d 224 true [.inr (.inr 141)] W14001 (fun z14001 V14001 => zGu (0 ≤ (z_add (z_mul 3 l4) 1) ∧ (z_add (z_mul 3 l4) 1) < 60) (∀ W14002, W14002 = z_up V14001 168 (z_add (z_mul 3 l4) 1).toNat z14001 → zGu (0 ≤ (z_add (z_mul 3 l4) 2) ∧ (z_add (z_mul 3 l4) 2) < 60) (∀ W14003, W14003 = z_up W14002 168 (z_add (z_mul 3 l4) 2).toNat (W14002 141 44) → z_Ex (z_MS d) 245 Q true 55 [some (.inr (.inr 141)), o1, some (.inl l2), some (.inl (z_add l3 l5)), some (.inl (z_add l4 1)), some (.inl l5), o6, o7] [] 0 0 W14003))))) :
    z_Ex (z_MS d) 245 Q true 139 [some (.inr (.inr 141)), o1, some (.inl l2), some (.inl l3), some (.inl l4), some (.inl l5), o6, o7] [] 0 0 V := by
  refine ze_aload_n (pc := 139) zr_245_139 rfl ?_
  refine ze_getfield (pc := 140) (v := .inr (.inr 168)) zr_245_140 rfl rfl ?_
  refine ze_iconst (pc := 143) zr_245_143 (by decide) ?_
  refine ze_iload (pc := 144) zr_245_144 rfl ?_
  refine ze_imul (pc := 146) zr_245_146 ?_
  refine ze_iload (pc := 147) zr_245_147 rfl ?_
  refine z_gk h (fun g149 h => ?_)
  refine zq_iastore (pc := 149) zr_245_149 (by decide) rfl g149 rfl h (fun W14001 h => ?_)
  refine ze_aload_n (pc := 150) zr_245_150 rfl ?_
  refine ze_getfield (pc := 151) (v := .inr (.inr 168)) zr_245_151 rfl rfl ?_
  refine ze_iconst (pc := 154) zr_245_154 (by decide) ?_
  refine ze_iload (pc := 155) zr_245_155 rfl ?_
  refine ze_imul (pc := 157) zr_245_157 ?_
  refine ze_iconst (pc := 158) zr_245_158 (by decide) ?_
  refine ze_iadd (pc := 159) zr_245_159 ?_
  refine ze_aload_n (pc := 160) zr_245_160 rfl ?_
  refine zq_callV1 (pc := 161) (as := [.inr (.inr 141)]) (r := [.inl (z_add (z_mul 3 l4) 1), .inr (.inr 168)]) (kc2 := 0) (ks2 := 0) zr_245_161 rfl (by decide) rfl rfl rfl rfl ⟨rfl, rfl⟩ ⟨rfl, rfl, rfl⟩ h (fun z14001 V14001 h => ?_)
  refine z_gk h (fun g164 h => ?_)
  refine zq_iastore (pc := 164) zr_245_164 (by decide) rfl g164 rfl h (fun W14002 h => ?_)
  refine ze_aload_n (pc := 165) zr_245_165 rfl ?_
  refine ze_getfield (pc := 166) (v := .inr (.inr 168)) zr_245_166 rfl rfl ?_
  refine ze_iconst (pc := 169) zr_245_169 (by decide) ?_
  refine ze_iload (pc := 170) zr_245_170 rfl ?_
  refine ze_imul (pc := 172) zr_245_172 ?_
  refine ze_iconst (pc := 173) zr_245_173 (by decide) ?_
  refine ze_iadd (pc := 174) zr_245_174 ?_
  refine ze_aload_n (pc := 175) zr_245_175 rfl ?_
  refine ze_getfield (pc := 176) (v := .inl (W14002 141 44)) zr_245_176 rfl rfl ?_
  refine z_gk h (fun g179 h => ?_)
  refine zq_iastore (pc := 179) zr_245_179 (by decide) rfl g179 rfl h (fun W14003 h => ?_)
  refine ze_iload_n (pc := 180) zr_245_180 rfl ?_
  refine ze_iload (pc := 181) zr_245_181 rfl ?_
  refine ze_iadd (pc := 183) zr_245_183 ?_
  refine zq_istore_n (pc := 184) (ls2 := [some (.inr (.inr 141)), o1, some (.inl l2), some (.inl (z_add l3 l5)), some (.inl l4), some (.inl l5), o6, o7]) zr_245_184 rfl rfl ?_
  refine zq_iinc (pc := 185) (ls2 := [some (.inr (.inr 141)), o1, some (.inl l2), some (.inl (z_add l3 l5)), some (.inl (z_add l4 1)), some (.inl l5), o6, o7]) zr_245_185 rfl rfl rfl ?_
  refine ze_goto (pc := 188) (t := 55) zr_245_188 (by decide) ?_
  exact h
theorem zb246_141 {d : Nat} {Q : Int → z_M → Prop} (a0 : Int) (a1 : Int) {V : z_M}
    (h : ∀ W1, W1 = z_up V 141 0 0 → z_MS d 145 true [.inr (.inl a0), .inr (.inl 0), .inr (.inl (z_lsub (W1 141 55) 1))] W1 (fun z1 V1 => zI (z1 = 0) (Q (-1) V1) (z_MS d 145 true [.inr (.inl a1), .inr (.inl 0), .inr (.inl 2)] V1 (fun z2 V2 => zI (z2 = 0) (Q (-1) V2) (zGu (0 ≤ (z_add (z_mul 3 a0) a1) ∧ (z_add (z_mul 3 a0) a1) < 60) (∀ x42 : Int, x42 = V2 168 (z_add (z_mul 3 a0) a1).toNat → Q x42 V2)))))) :
    z_MS (d + 1) 246 true [.inr (.inr 141), .inl a0, .inl a1] V Q := by
  show z_Ex (z_MS d) 246 Q true 0 [some (.inr (.inr 141)), some (.inl a0), some (.inl a1)] [] 0 0 V
  refine ze_aload_n (pc := 0) zr_246_0 rfl ?_
  refine ze_iconst (pc := 1) zr_246_1 (by decide) ?_
  refine zq_putI (pc := 2) zr_246_2 (by decide) rfl h (fun W1 h => ?_)
  refine ze_iload_n (pc := 5) zr_246_5 rfl ?_
  refine ze_i2l (pc := 6) zr_246_6 ?_
  refine ze_lconst (pc := 7) zr_246_7 ?_
  refine ze_aload_n (pc := 8) zr_246_8 rfl ?_
  refine ze_getfield (pc := 9) (v := .inl (W1 141 55)) zr_246_9 rfl rfl ?_
  refine ze_i2l (pc := 12) zr_246_12 ?_
  refine ze_lconst (pc := 13) zr_246_13 ?_
  refine ze_lsub (pc := 14) zr_246_14 ?_
  refine zq_callS1 (pc := 15) (as := [.inr (.inl a0), .inr (.inl 0), .inr (.inl (z_lsub (W1 141 55) 1))]) (r := []) (kc2 := 0) (ks2 := 0) zr_246_15 rfl rfl rfl rfl ⟨rfl, rfl⟩ ⟨rfl, rfl, rfl⟩ h (fun z1 V1 h => ?_)
  refine zq_if_eq (pc := 18) (t := 46) zr_246_18 (by decide) (z_toif h) (fun h => ?_) (fun h => ?_)
  · refine ze_iconst (pc := 46) zr_246_46 (by decide) ?_
    exact zq_ret1 (pc := 47) zr_246_47 rfl h
  · refine ze_iload_n (pc := 21) zr_246_21 rfl ?_
    refine ze_i2l (pc := 22) zr_246_22 ?_
    refine ze_lconst (pc := 23) zr_246_23 ?_
    refine ze_ldc2 (pc := 24) (z := 2) zr_246_24 (by decide) rfl ?_
    refine zq_callS1 (pc := 27) (as := [.inr (.inl a1), .inr (.inl 0), .inr (.inl 2)]) (r := []) (kc2 := 0) (ks2 := 0) zr_246_27 rfl rfl rfl rfl ⟨rfl, rfl⟩ ⟨rfl, rfl, rfl⟩ h (fun z2 V2 h => ?_)
    refine zq_if_eq (pc := 30) (t := 46) zr_246_30 (by decide) (z_toif h) (fun h => ?_) (fun h => ?_)
    · refine ze_iconst (pc := 46) zr_246_46 (by decide) ?_
      exact zq_ret1 (pc := 47) zr_246_47 rfl h
    · refine ze_aload_n (pc := 33) zr_246_33 rfl ?_
      refine ze_getfield (pc := 34) (v := .inr (.inr 168)) zr_246_34 rfl rfl ?_
      refine ze_iconst (pc := 37) zr_246_37 (by decide) ?_
      refine ze_iload_n (pc := 38) zr_246_38 rfl ?_
      refine ze_imul (pc := 39) zr_246_39 ?_
      refine ze_iload_n (pc := 40) zr_246_40 rfl ?_
      refine ze_iadd (pc := 41) zr_246_41 ?_
      refine z_gk h (fun g42 h => ?_)
      refine zl_iaload (pc := 42) zr_246_42 rfl rfl g42 h (fun x42 h => ?_)
      refine ze_goto (pc := 43) (t := 47) zr_246_43 (by decide) ?_
      exact zq_ret1 (pc := 47) zr_246_47 rfl h
theorem zb247_141 {d : Nat} {Q : Int → z_M → Prop} (a0 : Int) {V : z_M}
    (h : ∀ W1, W1 = z_up V 141 0 0 → z_Ex (z_MS d) 247 Q true 9 [some (.inr (.inr 141)), some (.inl a0), some (.inl 0), some (.inl 0)] [] 0 0 W1) :
    z_MS (d + 1) 247 true [.inr (.inr 141), .inl a0] V Q := by
  show z_Ex (z_MS d) 247 Q true 0 [some (.inr (.inr 141)), some (.inl a0), none, none] [] 0 0 V
  refine ze_aload_n (pc := 0) zr_247_0 rfl ?_
  refine ze_iconst (pc := 1) zr_247_1 (by decide) ?_
  refine zq_putI (pc := 2) zr_247_2 (by decide) rfl h (fun W1 h => ?_)
  refine ze_iconst (pc := 5) zr_247_5 (by decide) ?_
  refine zq_istore_n (pc := 6) (ls2 := [some (.inr (.inr 141)), some (.inl a0), some (.inl 0), none]) zr_247_6 rfl rfl ?_
  refine ze_iconst (pc := 7) zr_247_7 (by decide) ?_
  refine zq_istore_n (pc := 8) (ls2 := [some (.inr (.inr 141)), some (.inl a0), some (.inl 0), some (.inl 0)]) zr_247_8 rfl rfl ?_
  exact h
theorem zb247_141_p9 {d : Nat} {Q : Int → z_M → Prop} (l1 : Int) (l2 : Int) (l3 : Int) {V : z_M}
    (h : z_MS d 154 true [.inr (.inr 141)] V (fun z1001 V1001 => zI (l3 < z1001) (z_MS d 157 true [.inr (.inr 141), .inl l3, .inl 3] V1001 (fun z1003 V1003 => z_Ex (z_MS d) 247 Q true 9 [some (.inr (.inr 141)), some (.inl l1), some (.inl (z_add l2 z1003)), some (.inl (z_add l3 1))] [] 0 0 V1003)) (zI (l1 = 0) (z_MS d 154 true [.inr (.inr 141)] V1001 (fun z1002 V1002 => Q z1002 V1002)) (zI (l1 = 1) (Q (V1001 143 1) V1001) (zI (l1 = 2) (Q (V1001 143 2) V1001) (zI (l1 = 3) (Q (V1001 143 4) V1001) (zI (l1 = 4) (Q l2 V1001) (zI (l1 = 5) (Q (V1001 143 5) V1001) (zI (l1 = 6) (Q (V1001 141 8) V1001) (zI (l1 = 7) (Q (V1001 142 1) V1001) (zI (l1 = 8) (Q (V1001 142 2) V1001) (zI (l1 = 9) (Q (V1001 142 3) V1001) (zI (l1 = 10) (Q (V1001 142 5) V1001) (zI (l1 = 11) (Q (V1001 142 6) V1001) (zI (l1 = 12) (Q (V1001 143 3) V1001) (zI (l1 = 13) (Q (V1001 143 6) V1001) (zI (l1 = 14) (Q (V1001 143 7) V1001) (Q (-1) V1001)))))))))))))))))) :
    z_Ex (z_MS d) 247 Q true 9 [some (.inr (.inr 141)), some (.inl l1), some (.inl l2), some (.inl l3)] [] 0 0 V := by
  refine ze_iload_n (pc := 9) zr_247_9 rfl ?_
  refine ze_aload_n (pc := 10) zr_247_10 rfl ?_
  refine zq_callV1 (pc := 11) (as := [.inr (.inr 141)]) (r := [.inl l3]) (kc2 := 0) (ks2 := 0) zr_247_11 rfl (by decide) rfl rfl rfl rfl ⟨rfl, rfl⟩ ⟨rfl, rfl, rfl⟩ h (fun z1001 V1001 h => ?_)
  refine zq_icmp_ge (pc := 14) (t := 32) zr_247_14 (by decide) (z_toif h) (fun h => ?_) (fun h => ?_)
  · refine ze_iload_n (pc := 17) zr_247_17 rfl ?_
    refine ze_aload_n (pc := 18) zr_247_18 rfl ?_
    refine ze_iload_n (pc := 19) zr_247_19 rfl ?_
    refine ze_iconst (pc := 20) zr_247_20 (by decide) ?_
    refine zq_callV1 (pc := 21) (as := [.inr (.inr 141), .inl l3, .inl 3]) (r := [.inl l2]) (kc2 := 0) (ks2 := 0) zr_247_21 rfl (by decide) rfl rfl rfl rfl ⟨rfl, rfl⟩ ⟨rfl, rfl, rfl⟩ h (fun z1003 V1003 h => ?_)
    refine ze_iadd (pc := 24) zr_247_24 ?_
    refine zq_istore_n (pc := 25) (ls2 := [some (.inr (.inr 141)), some (.inl l1), some (.inl (z_add l2 z1003)), some (.inl l3)]) zr_247_25 rfl rfl ?_
    refine zq_iinc (pc := 26) (ls2 := [some (.inr (.inr 141)), some (.inl l1), some (.inl (z_add l2 z1003)), some (.inl (z_add l3 1))]) zr_247_26 rfl rfl rfl ?_
    refine ze_goto (pc := 29) (t := 9) zr_247_29 (by decide) ?_
    exact h
  · refine ze_iload_n (pc := 32) zr_247_32 rfl ?_
    refine zq_sw (pc := 33) (l := [75, 80, 87, 94, 101, 103, 110, 115, 122, 129, 136, 143, 151, 158, 166]) zr_247_33 (by decide) rfl ?_
    refine zq_swc (n := 1) (z_toif h) rfl (fun h => ?_) (fun h => ?_)
    · refine zq_to (t := 108) (by decide) ?_
      refine ze_aload_n (pc := 108) zr_247_108 rfl ?_
      refine zq_callV1 (pc := 109) (as := [.inr (.inr 141)]) (r := []) (kc2 := 0) (ks2 := 0) zr_247_109 rfl (by decide) rfl rfl rfl rfl ⟨rfl, rfl⟩ ⟨rfl, rfl, rfl⟩ h (fun z1002 V1002 h => ?_)
      exact zq_ret1 (pc := 112) zr_247_112 rfl h
    · refine zq_swc (n := 2) (z_toif h) rfl (fun h => ?_) (fun h => ?_)
      · refine zq_to (t := 113) (by decide) ?_
        refine ze_aload_n (pc := 113) zr_247_113 rfl ?_
        refine ze_getfield (pc := 114) (v := .inr (.inr 143)) zr_247_114 rfl rfl ?_
        refine ze_iconst (pc := 117) zr_247_117 (by decide) ?_
        refine zq_iaload (pc := 118) (v := .inl (V1001 143 1)) zr_247_118 rfl rfl (by decide) rfl ?_
        exact zq_ret1 (pc := 119) zr_247_119 rfl h
      · refine zq_swc (n := 3) (z_toif h) rfl (fun h => ?_) (fun h => ?_)
        · refine zq_to (t := 120) (by decide) ?_
          refine ze_aload_n (pc := 120) zr_247_120 rfl ?_
          refine ze_getfield (pc := 121) (v := .inr (.inr 143)) zr_247_121 rfl rfl ?_
          refine ze_iconst (pc := 124) zr_247_124 (by decide) ?_
          refine zq_iaload (pc := 125) (v := .inl (V1001 143 2)) zr_247_125 rfl rfl (by decide) rfl ?_
          exact zq_ret1 (pc := 126) zr_247_126 rfl h
        · refine zq_swc (n := 4) (z_toif h) rfl (fun h => ?_) (fun h => ?_)
          · refine zq_to (t := 127) (by decide) ?_
            refine ze_aload_n (pc := 127) zr_247_127 rfl ?_
            refine ze_getfield (pc := 128) (v := .inr (.inr 143)) zr_247_128 rfl rfl ?_
            refine ze_iconst (pc := 131) zr_247_131 (by decide) ?_
            refine zq_iaload (pc := 132) (v := .inl (V1001 143 4)) zr_247_132 rfl rfl (by decide) rfl ?_
            exact zq_ret1 (pc := 133) zr_247_133 rfl h
          · refine zq_swc (n := 5) (z_toif h) rfl (fun h => ?_) (fun h => ?_)
            · refine zq_to (t := 134) (by decide) ?_
              refine ze_iload_n (pc := 134) zr_247_134 rfl ?_
              exact zq_ret1 (pc := 135) zr_247_135 rfl h
            · refine zq_swc (n := 6) (z_toif h) rfl (fun h => ?_) (fun h => ?_)
              · refine zq_to (t := 136) (by decide) ?_
                refine ze_aload_n (pc := 136) zr_247_136 rfl ?_
                refine ze_getfield (pc := 137) (v := .inr (.inr 143)) zr_247_137 rfl rfl ?_
                refine ze_iconst (pc := 140) zr_247_140 (by decide) ?_
                refine zq_iaload (pc := 141) (v := .inl (V1001 143 5)) zr_247_141 rfl rfl (by decide) rfl ?_
                exact zq_ret1 (pc := 142) zr_247_142 rfl h
              · refine zq_swc (n := 7) (z_toif h) rfl (fun h => ?_) (fun h => ?_)
                · refine zq_to (t := 143) (by decide) ?_
                  refine ze_aload_n (pc := 143) zr_247_143 rfl ?_
                  refine ze_getfield (pc := 144) (v := .inl (V1001 141 8)) zr_247_144 rfl rfl ?_
                  exact zq_ret1 (pc := 147) zr_247_147 rfl h
                · refine zq_swc (n := 8) (z_toif h) rfl (fun h => ?_) (fun h => ?_)
                  · refine zq_to (t := 148) (by decide) ?_
                    refine ze_aload_n (pc := 148) zr_247_148 rfl ?_
                    refine ze_getfield (pc := 149) (v := .inr (.inr 142)) zr_247_149 rfl rfl ?_
                    refine ze_iconst (pc := 152) zr_247_152 (by decide) ?_
                    refine zq_iaload (pc := 153) (v := .inl (V1001 142 1)) zr_247_153 rfl rfl (by decide) rfl ?_
                    exact zq_ret1 (pc := 154) zr_247_154 rfl h
                  · refine zq_swc (n := 9) (z_toif h) rfl (fun h => ?_) (fun h => ?_)
                    · refine zq_to (t := 155) (by decide) ?_
                      refine ze_aload_n (pc := 155) zr_247_155 rfl ?_
                      refine ze_getfield (pc := 156) (v := .inr (.inr 142)) zr_247_156 rfl rfl ?_
                      refine ze_iconst (pc := 159) zr_247_159 (by decide) ?_
                      refine zq_iaload (pc := 160) (v := .inl (V1001 142 2)) zr_247_160 rfl rfl (by decide) rfl ?_
                      exact zq_ret1 (pc := 161) zr_247_161 rfl h
                    · refine zq_swc (n := 10) (z_toif h) rfl (fun h => ?_) (fun h => ?_)
                      · refine zq_to (t := 162) (by decide) ?_
                        refine ze_aload_n (pc := 162) zr_247_162 rfl ?_
                        refine ze_getfield (pc := 163) (v := .inr (.inr 142)) zr_247_163 rfl rfl ?_
                        refine ze_iconst (pc := 166) zr_247_166 (by decide) ?_
                        refine zq_iaload (pc := 167) (v := .inl (V1001 142 3)) zr_247_167 rfl rfl (by decide) rfl ?_
                        exact zq_ret1 (pc := 168) zr_247_168 rfl h
                      · refine zq_swc (n := 11) (z_toif h) rfl (fun h => ?_) (fun h => ?_)
                        · refine zq_to (t := 169) (by decide) ?_
                          refine ze_aload_n (pc := 169) zr_247_169 rfl ?_
                          refine ze_getfield (pc := 170) (v := .inr (.inr 142)) zr_247_170 rfl rfl ?_
                          refine ze_iconst (pc := 173) zr_247_173 (by decide) ?_
                          refine zq_iaload (pc := 174) (v := .inl (V1001 142 5)) zr_247_174 rfl rfl (by decide) rfl ?_
                          exact zq_ret1 (pc := 175) zr_247_175 rfl h
                        · refine zq_swc (n := 12) (z_toif h) rfl (fun h => ?_) (fun h => ?_)
                          · refine zq_to (t := 176) (by decide) ?_
                            refine ze_aload_n (pc := 176) zr_247_176 rfl ?_
                            refine ze_getfield (pc := 177) (v := .inr (.inr 142)) zr_247_177 rfl rfl ?_
                            refine ze_bipush (pc := 180) zr_247_180 (by decide) ?_
                            refine zq_iaload (pc := 182) (v := .inl (V1001 142 6)) zr_247_182 rfl rfl (by decide) rfl ?_
                            exact zq_ret1 (pc := 183) zr_247_183 rfl h
                          · refine zq_swc (n := 13) (z_toif h) rfl (fun h => ?_) (fun h => ?_)
                            · refine zq_to (t := 184) (by decide) ?_
                              refine ze_aload_n (pc := 184) zr_247_184 rfl ?_
                              refine ze_getfield (pc := 185) (v := .inr (.inr 143)) zr_247_185 rfl rfl ?_
                              refine ze_iconst (pc := 188) zr_247_188 (by decide) ?_
                              refine zq_iaload (pc := 189) (v := .inl (V1001 143 3)) zr_247_189 rfl rfl (by decide) rfl ?_
                              exact zq_ret1 (pc := 190) zr_247_190 rfl h
                            · refine zq_swc (n := 14) (z_toif h) rfl (fun h => ?_) (fun h => ?_)
                              · refine zq_to (t := 191) (by decide) ?_
                                refine ze_aload_n (pc := 191) zr_247_191 rfl ?_
                                refine ze_getfield (pc := 192) (v := .inr (.inr 143)) zr_247_192 rfl rfl ?_
                                refine ze_bipush (pc := 195) zr_247_195 (by decide) ?_
                                refine zq_iaload (pc := 197) (v := .inl (V1001 143 6)) zr_247_197 rfl rfl (by decide) rfl ?_
                                exact zq_ret1 (pc := 198) zr_247_198 rfl h
                              · refine zq_swc (n := 15) (z_toif h) rfl (fun h => ?_) (fun h => ?_)
                                · refine zq_to (t := 199) (by decide) ?_
                                  refine ze_aload_n (pc := 199) zr_247_199 rfl ?_
                                  refine ze_getfield (pc := 200) (v := .inr (.inr 143)) zr_247_200 rfl rfl ?_
                                  refine ze_bipush (pc := 203) zr_247_203 (by decide) ?_
                                  refine zq_iaload (pc := 205) (v := .inl (V1001 143 7)) zr_247_205 rfl rfl (by decide) rfl ?_
                                  exact zq_ret1 (pc := 206) zr_247_206 rfl h
                                · refine zq_swn ?_
                                  refine zq_to (t := 207) (by decide) ?_
                                  refine ze_iconst (pc := 207) zr_247_207 (by decide) ?_
                                  exact zq_ret1 (pc := 208) zr_247_208 rfl h
theorem zb248_141 {d : Nat} {Q : Int → z_M → Prop}  {V : z_M}
    (h : ∀ W1, W1 = z_up V 141 0 0 → Q (W1 141 1) W1) :
    z_MS (d + 1) 248 true [.inr (.inr 141)] V Q := by
  show z_Ex (z_MS d) 248 Q true 0 [some (.inr (.inr 141))] [] 0 0 V
  refine ze_aload_n (pc := 0) zr_248_0 rfl ?_
  refine ze_iconst (pc := 1) zr_248_1 (by decide) ?_
  refine zq_putI (pc := 2) zr_248_2 (by decide) rfl h (fun W1 h => ?_)
  refine ze_aload_n (pc := 5) zr_248_5 rfl ?_
  refine ze_getfield (pc := 6) (v := .inl (W1 141 1)) zr_248_6 rfl rfl ?_
  exact zq_ret1 (pc := 9) zr_248_9 rfl h
theorem zb256 {d : Nat} {Q : Int → z_M → Prop} (a0 : Int) {V : z_M}
    (h : Q (z_and (z_add (z_add (z_and (z_add (z_add (z_and (z_sub a0 (z_and (z_ushr a0 1) 1431655765)) 858993459) (z_and (z_ushr (z_sub a0 (z_and (z_ushr a0 1) 1431655765)) 2) 858993459)) (z_ushr (z_add (z_and (z_sub a0 (z_and (z_ushr a0 1) 1431655765)) 858993459) (z_and (z_ushr (z_sub a0 (z_and (z_ushr a0 1) 1431655765)) 2) 858993459)) 4)) 252645135) (z_ushr (z_and (z_add (z_add (z_and (z_sub a0 (z_and (z_ushr a0 1) 1431655765)) 858993459) (z_and (z_ushr (z_sub a0 (z_and (z_ushr a0 1) 1431655765)) 2) 858993459)) (z_ushr (z_add (z_and (z_sub a0 (z_and (z_ushr a0 1) 1431655765)) 858993459) (z_and (z_ushr (z_sub a0 (z_and (z_ushr a0 1) 1431655765)) 2) 858993459)) 4)) 252645135) 8)) (z_ushr (z_add (z_and (z_add (z_add (z_and (z_sub a0 (z_and (z_ushr a0 1) 1431655765)) 858993459) (z_and (z_ushr (z_sub a0 (z_and (z_ushr a0 1) 1431655765)) 2) 858993459)) (z_ushr (z_add (z_and (z_sub a0 (z_and (z_ushr a0 1) 1431655765)) 858993459) (z_and (z_ushr (z_sub a0 (z_and (z_ushr a0 1) 1431655765)) 2) 858993459)) 4)) 252645135) (z_ushr (z_and (z_add (z_add (z_and (z_sub a0 (z_and (z_ushr a0 1) 1431655765)) 858993459) (z_and (z_ushr (z_sub a0 (z_and (z_ushr a0 1) 1431655765)) 2) 858993459)) (z_ushr (z_add (z_and (z_sub a0 (z_and (z_ushr a0 1) 1431655765)) 858993459) (z_and (z_ushr (z_sub a0 (z_and (z_ushr a0 1) 1431655765)) 2) 858993459)) 4)) 252645135) 8)) 16)) 63) V) :
    z_MS (d + 1) 256 true [.inl a0] V Q := by
  show z_Ex (z_MS d) 256 Q true 0 [some (.inl a0)] [] 0 0 V
  refine ze_iload_n (pc := 0) zr_256_0 rfl ?_
  refine ze_iload_n (pc := 1) zr_256_1 rfl ?_
  refine ze_iconst (pc := 2) zr_256_2 (by decide) ?_
  refine ze_iushr (pc := 3) zr_256_3 ?_
  refine ze_ldcw (pc := 4) (z := 1431655765) zr_256_4 (by decide) rfl ?_
  refine ze_iand (pc := 7) zr_256_7 ?_
  refine ze_isub (pc := 8) zr_256_8 ?_
  refine zq_istore_n (pc := 9) (ls2 := [some (.inl (z_sub a0 (z_and (z_ushr a0 1) 1431655765)))]) zr_256_9 rfl rfl ?_
  refine ze_iload_n (pc := 10) zr_256_10 rfl ?_
  refine ze_ldcw (pc := 11) (z := 858993459) zr_256_11 (by decide) rfl ?_
  refine ze_iand (pc := 14) zr_256_14 ?_
  refine ze_iload_n (pc := 15) zr_256_15 rfl ?_
  refine ze_iconst (pc := 16) zr_256_16 (by decide) ?_
  refine ze_iushr (pc := 17) zr_256_17 ?_
  refine ze_ldcw (pc := 18) (z := 858993459) zr_256_18 (by decide) rfl ?_
  refine ze_iand (pc := 21) zr_256_21 ?_
  refine ze_iadd (pc := 22) zr_256_22 ?_
  refine zq_istore_n (pc := 23) (ls2 := [some (.inl (z_add (z_and (z_sub a0 (z_and (z_ushr a0 1) 1431655765)) 858993459) (z_and (z_ushr (z_sub a0 (z_and (z_ushr a0 1) 1431655765)) 2) 858993459)))]) zr_256_23 rfl rfl ?_
  refine ze_iload_n (pc := 24) zr_256_24 rfl ?_
  refine ze_iload_n (pc := 25) zr_256_25 rfl ?_
  refine ze_iconst (pc := 26) zr_256_26 (by decide) ?_
  refine ze_iushr (pc := 27) zr_256_27 ?_
  refine ze_iadd (pc := 28) zr_256_28 ?_
  refine ze_ldcw (pc := 29) (z := 252645135) zr_256_29 (by decide) rfl ?_
  refine ze_iand (pc := 32) zr_256_32 ?_
  refine zq_istore_n (pc := 33) (ls2 := [some (.inl (z_and (z_add (z_add (z_and (z_sub a0 (z_and (z_ushr a0 1) 1431655765)) 858993459) (z_and (z_ushr (z_sub a0 (z_and (z_ushr a0 1) 1431655765)) 2) 858993459)) (z_ushr (z_add (z_and (z_sub a0 (z_and (z_ushr a0 1) 1431655765)) 858993459) (z_and (z_ushr (z_sub a0 (z_and (z_ushr a0 1) 1431655765)) 2) 858993459)) 4)) 252645135))]) zr_256_33 rfl rfl ?_
  refine ze_iload_n (pc := 34) zr_256_34 rfl ?_
  refine ze_iload_n (pc := 35) zr_256_35 rfl ?_
  refine ze_bipush (pc := 36) zr_256_36 (by decide) ?_
  refine ze_iushr (pc := 38) zr_256_38 ?_
  refine ze_iadd (pc := 39) zr_256_39 ?_
  refine zq_istore_n (pc := 40) (ls2 := [some (.inl (z_add (z_and (z_add (z_add (z_and (z_sub a0 (z_and (z_ushr a0 1) 1431655765)) 858993459) (z_and (z_ushr (z_sub a0 (z_and (z_ushr a0 1) 1431655765)) 2) 858993459)) (z_ushr (z_add (z_and (z_sub a0 (z_and (z_ushr a0 1) 1431655765)) 858993459) (z_and (z_ushr (z_sub a0 (z_and (z_ushr a0 1) 1431655765)) 2) 858993459)) 4)) 252645135) (z_ushr (z_and (z_add (z_add (z_and (z_sub a0 (z_and (z_ushr a0 1) 1431655765)) 858993459) (z_and (z_ushr (z_sub a0 (z_and (z_ushr a0 1) 1431655765)) 2) 858993459)) (z_ushr (z_add (z_and (z_sub a0 (z_and (z_ushr a0 1) 1431655765)) 858993459) (z_and (z_ushr (z_sub a0 (z_and (z_ushr a0 1) 1431655765)) 2) 858993459)) 4)) 252645135) 8)))]) zr_256_40 rfl rfl ?_
  refine ze_iload_n (pc := 41) zr_256_41 rfl ?_
  refine ze_iload_n (pc := 42) zr_256_42 rfl ?_
  refine ze_bipush (pc := 43) zr_256_43 (by decide) ?_
  refine ze_iushr (pc := 45) zr_256_45 ?_
  refine ze_iadd (pc := 46) zr_256_46 ?_
  refine zq_istore_n (pc := 47) (ls2 := [some (.inl (z_add (z_add (z_and (z_add (z_add (z_and (z_sub a0 (z_and (z_ushr a0 1) 1431655765)) 858993459) (z_and (z_ushr (z_sub a0 (z_and (z_ushr a0 1) 1431655765)) 2) 858993459)) (z_ushr (z_add (z_and (z_sub a0 (z_and (z_ushr a0 1) 1431655765)) 858993459) (z_and (z_ushr (z_sub a0 (z_and (z_ushr a0 1) 1431655765)) 2) 858993459)) 4)) 252645135) (z_ushr (z_and (z_add (z_add (z_and (z_sub a0 (z_and (z_ushr a0 1) 1431655765)) 858993459) (z_and (z_ushr (z_sub a0 (z_and (z_ushr a0 1) 1431655765)) 2) 858993459)) (z_ushr (z_add (z_and (z_sub a0 (z_and (z_ushr a0 1) 1431655765)) 858993459) (z_and (z_ushr (z_sub a0 (z_and (z_ushr a0 1) 1431655765)) 2) 858993459)) 4)) 252645135) 8)) (z_ushr (z_add (z_and (z_add (z_add (z_and (z_sub a0 (z_and (z_ushr a0 1) 1431655765)) 858993459) (z_and (z_ushr (z_sub a0 (z_and (z_ushr a0 1) 1431655765)) 2) 858993459)) (z_ushr (z_add (z_and (z_sub a0 (z_and (z_ushr a0 1) 1431655765)) 858993459) (z_and (z_ushr (z_sub a0 (z_and (z_ushr a0 1) 1431655765)) 2) 858993459)) 4)) 252645135) (z_ushr (z_and (z_add (z_add (z_and (z_sub a0 (z_and (z_ushr a0 1) 1431655765)) 858993459) (z_and (z_ushr (z_sub a0 (z_and (z_ushr a0 1) 1431655765)) 2) 858993459)) (z_ushr (z_add (z_and (z_sub a0 (z_and (z_ushr a0 1) 1431655765)) 858993459) (z_and (z_ushr (z_sub a0 (z_and (z_ushr a0 1) 1431655765)) 2) 858993459)) 4)) 252645135) 8)) 16)))]) zr_256_47 rfl rfl ?_
  refine ze_iload_n (pc := 48) zr_256_48 rfl ?_
  refine ze_bipush (pc := 49) zr_256_49 (by decide) ?_
  refine ze_iand (pc := 51) zr_256_51 ?_
  exact zq_ret1 (pc := 52) zr_256_52 rfl h
theorem zb257_115 {d : Nat} {Q : Int → z_M → Prop} (a1 : Int) {V : z_M}
    (h : z_Ex (z_MS d) 257 Q true 5 [some (.inr (.inr 115)), some (.inl a1), some (.inl 0), some (.inl 6)] [] 0 0 V) :
    z_MS (d + 1) 257 true [.inr (.inr 115), .inl a1] V Q := by
  show z_Ex (z_MS d) 257 Q true 0 [some (.inr (.inr 115)), some (.inl a1), none, none] [] 0 0 V
  refine ze_iconst (pc := 0) zr_257_0 (by decide) ?_
  refine zq_istore_n (pc := 1) (ls2 := [some (.inr (.inr 115)), some (.inl a1), some (.inl 0), none]) zr_257_1 rfl rfl ?_
  refine ze_aload_n (pc := 2) zr_257_2 rfl ?_
  refine ze_length (pc := 3) (z := 6) zr_257_3 (by decide) rfl ?_
  refine zq_istore_n (pc := 4) (ls2 := [some (.inr (.inr 115)), some (.inl a1), some (.inl 0), some (.inl 6)]) zr_257_4 rfl rfl ?_
  exact h
theorem zb257_115_p5 {d : Nat} {Q : Int → z_M → Prop} (l1 : Int) (l2 : Int) (l3 : Int) {V : z_M}
    (h : zI (l2 < l3) (zGu (0 ≤ l2 ∧ l2 < 6) (∀ W601, W601 = z_up V 115 l2.toNat l1 → z_Ex (z_MS d) 257 Q true 5 [some (.inr (.inr 115)), some (.inl l1), some (.inl (z_add l2 1)), some (.inl l3)] [] 0 0 W601)) (Q 0 V)) :
    z_Ex (z_MS d) 257 Q true 5 [some (.inr (.inr 115)), some (.inl l1), some (.inl l2), some (.inl l3)] [] 0 0 V := by
  refine ze_iload_n (pc := 5) zr_257_5 rfl ?_
  refine ze_iload_n (pc := 6) zr_257_6 rfl ?_
  refine zq_icmp_ge (pc := 7) (t := 20) zr_257_7 (by decide) (z_toif h) (fun h => ?_) (fun h => ?_)
  · refine ze_aload_n (pc := 10) zr_257_10 rfl ?_
    refine ze_iload_n (pc := 11) zr_257_11 rfl ?_
    refine ze_iload_n (pc := 12) zr_257_12 rfl ?_
    refine z_gk h (fun g13 h => ?_)
    refine zq_iastore (pc := 13) zr_257_13 (by decide) rfl g13 rfl h (fun W601 h => ?_)
    refine zq_iinc (pc := 14) (ls2 := [some (.inr (.inr 115)), some (.inl l1), some (.inl (z_add l2 1)), some (.inl l3)]) zr_257_14 rfl rfl rfl ?_
    refine ze_goto (pc := 17) (t := 5) zr_257_17 (by decide) ?_
    exact h
  · exact ze_vret (pc := 20) zr_257_20 rfl h
