/-! blocks of rows: printed by a program (blk2.py) -/
theorem zb19_94 {d : Nat} {Q : Int → z_M → Prop} (a0 : Int) (a1 : Int) {V : z_M}
    (h : zI (0 < (V 94 2)) (zGu (0 ≤ (z_sub (V 94 2) 1) ∧ (z_sub (V 94 2) 1) < 40) (∀ x17 : Int, x17 = V 96 (z_sub (V 94 2) 1).toNat → zI ((z_lcmp x17 a0) = 0) (∀ W3, W3 = z_up V 94 3 a1 → Q 0 W3) (zI (0 < (V 94 2)) (∀ W2, W2 = z_up V 94 2 (z_sub (V 94 2) 1) → Q 0 W2) (Q 0 V)))) (zI (0 < (V 94 2)) (∀ W1, W1 = z_up V 94 2 (z_sub (V 94 2) 1) → Q 0 W1) (Q 0 V))) :
    z_MS (d + 1) 19 true [.inr (.inr 94), .inl a0, .inl a1] V Q := by
  show z_Ex (z_MS d) 19 Q true 0 [some (.inr (.inr 94)), some (.inl a0), some (.inl a1)] [] 0 0 V
  refine ze_aload_n (pc := 0) zr_19_0 rfl ?_
  refine ze_getfield (pc := 1) (v := .inl (V 94 2)) zr_19_1 rfl rfl ?_
  refine zq_if_le (pc := 4) (t := 32) zr_19_4 (by decide) (z_toif h) (fun h => ?_) (fun h => ?_)
  · refine ze_aload_n (pc := 7) zr_19_7 rfl ?_
    refine ze_getfield (pc := 8) (v := .inr (.inr 96)) zr_19_8 rfl rfl ?_
    refine ze_aload_n (pc := 11) zr_19_11 rfl ?_
    refine ze_getfield (pc := 12) (v := .inl (V 94 2)) zr_19_12 rfl rfl ?_
    refine ze_iconst (pc := 15) zr_19_15 (by decide) ?_
    refine ze_isub (pc := 16) zr_19_16 ?_
    refine z_gk h (fun g17 h => ?_)
    refine zl_laload (pc := 17) zr_19_17 rfl rfl g17 h (fun x17 h => ?_)
    refine ze_iload_n (pc := 18) zr_19_18 rfl ?_
    refine ze_i2l (pc := 19) zr_19_19 ?_
    refine ze_lcmp (pc := 20) zr_19_20 ?_
    refine zq_if_ne (pc := 21) (t := 32) zr_19_21 (by decide) (z_toif h) (fun h => ?_) (fun h => ?_)
    · refine ze_aload_n (pc := 24) zr_19_24 rfl ?_
      refine ze_iload_n (pc := 25) zr_19_25 rfl ?_
      refine zq_putI (pc := 26) zr_19_26 (by decide) rfl h (fun W3 h => ?_)
      refine ze_goto (pc := 29) (t := 49) zr_19_29 (by decide) ?_
      exact ze_vret (pc := 49) zr_19_49 rfl h
    · refine ze_aload_n (pc := 32) zr_19_32 rfl ?_
      refine ze_getfield (pc := 33) (v := .inl (V 94 2)) zr_19_33 rfl rfl ?_
      refine zq_if_le (pc := 36) (t := 49) zr_19_36 (by decide) (z_toif h) (fun h => ?_) (fun h => ?_)
      · refine ze_aload_n (pc := 39) zr_19_39 rfl ?_
        refine ze_dup (pc := 40) zr_19_40 rfl ?_
        refine ze_getfield (pc := 41) (v := .inl (V 94 2)) zr_19_41 rfl rfl ?_
        refine ze_iconst (pc := 44) zr_19_44 (by decide) ?_
        refine ze_isub (pc := 45) zr_19_45 ?_
        refine zq_putI (pc := 46) zr_19_46 (by decide) rfl h (fun W2 h => ?_)
        exact ze_vret (pc := 49) zr_19_49 rfl h
      · exact ze_vret (pc := 49) zr_19_49 rfl h
  · refine ze_aload_n (pc := 32) zr_19_32 rfl ?_
    refine ze_getfield (pc := 33) (v := .inl (V 94 2)) zr_19_33 rfl rfl ?_
    refine zq_if_le (pc := 36) (t := 49) zr_19_36 (by decide) (z_toif h) (fun h => ?_) (fun h => ?_)
    · refine ze_aload_n (pc := 39) zr_19_39 rfl ?_
      refine ze_dup (pc := 40) zr_19_40 rfl ?_
      refine ze_getfield (pc := 41) (v := .inl (V 94 2)) zr_19_41 rfl rfl ?_
      refine ze_iconst (pc := 44) zr_19_44 (by decide) ?_
      refine ze_isub (pc := 45) zr_19_45 ?_
      refine zq_putI (pc := 46) zr_19_46 (by decide) rfl h (fun W1 h => ?_)
      exact ze_vret (pc := 49) zr_19_49 rfl h
    · exact ze_vret (pc := 49) zr_19_49 rfl h
theorem zb20_94 {d : Nat} {Q : Int → z_M → Prop} (a0 : Int) (a1 : Int) (a2 : Int) {V : z_M}
    (h : zI (a0 = 2) (Q (z_ladd a1 a2) V) (zI (a0 = 3) (Q (z_lsub a1 a2) V) (zI (a0 = 4) (Q (z_lmul a1 a2) V) (zI (a0 = 5) (∀ W1, W1 = z_up V 94 4 (if (V 94 4) = 0 then (if (z_lcmp a2 0) = 0 then 1 else 0) else 1) → zI ((z_lcmp a2 0) = 0) (Q 0 W1) (zGu (¬ a2 = 0) (Q (z_ldiv a1 a2) W1))) (zI (a0 = 6) (Q (if (z_lcmp a1 a2) < 0 then 1 else 0) V) (zI (a0 = 7) (Q (if 0 < (z_lcmp a1 a2) then 1 else 0) V) (Q (if (z_lcmp a1 a2) = 0 then 1 else 0) V))))))) :
    z_MS (d + 1) 20 true [.inr (.inr 94), .inl a0, .inr (.inl a1), .inr (.inl a2)] V Q := by
  show z_Ex (z_MS d) 20 Q true 0 [some (.inr (.inr 94)), some (.inl a0), some (.inr (.inl a1)), none, some (.inr (.inl a2)), none] [] 0 0 V
  refine ze_iload_n (pc := 0) zr_20_0 rfl ?_
  refine zq_sw (pc := 1) (l := [39, 44, 49, 54, 93, 106]) zr_20_1 (by decide) rfl ?_
  refine zq_swc (n := 3) (z_toif h) rfl (fun h => ?_) (fun h => ?_)
  · refine zq_to (t := 40) (by decide) ?_
    refine ze_lload_n (pc := 40) zr_20_40 rfl ?_
    refine ze_lload (pc := 41) zr_20_41 rfl ?_
    refine ze_ladd (pc := 43) zr_20_43 ?_
    exact ze_lret (pc := 44) zr_20_44 rfl h
  · refine zq_swc (n := 4) (z_toif h) rfl (fun h => ?_) (fun h => ?_)
    · refine zq_to (t := 45) (by decide) ?_
      refine ze_lload_n (pc := 45) zr_20_45 rfl ?_
      refine ze_lload (pc := 46) zr_20_46 rfl ?_
      refine ze_lsub (pc := 48) zr_20_48 ?_
      exact ze_lret (pc := 49) zr_20_49 rfl h
    · refine zq_swc (n := 5) (z_toif h) rfl (fun h => ?_) (fun h => ?_)
      · refine zq_to (t := 50) (by decide) ?_
        refine ze_lload_n (pc := 50) zr_20_50 rfl ?_
        refine ze_lload (pc := 51) zr_20_51 rfl ?_
        refine ze_lmul (pc := 53) zr_20_53 ?_
        exact ze_lret (pc := 54) zr_20_54 rfl h
      · refine zq_swc (n := 6) (z_toif h) rfl (fun h => ?_) (fun h => ?_)
        · refine zq_to (t := 55) (by decide) ?_
          refine ze_aload_n (pc := 55) zr_20_55 rfl ?_
          refine ze_aload_n (pc := 56) zr_20_56 rfl ?_
          refine ze_getfield (pc := 57) (v := .inl (V 94 4)) zr_20_57 rfl rfl ?_
          have j60 : z_Ex (z_MS d) 20 Q true 75 [some (.inr (.inr 94)), some (.inl a0), some (.inr (.inl a1)), none, some (.inr (.inl a2)), none] [.inl (if (V 94 4) = 0 then (if (z_lcmp a2 0) = 0 then 1 else 0) else 1), .inr (.inr 94)] 0 0 V := by
            refine zq_putZ (pc := 75) zr_20_75 (by decide) rfl (by (repeat' split) <;> decide) h (fun W1 h => ?_)
            refine ze_lload (pc := 78) zr_20_78 rfl ?_
            refine ze_lconst (pc := 80) zr_20_80 ?_
            refine ze_lcmp (pc := 81) zr_20_81 ?_
            refine zq_if_ne (pc := 82) (t := 89) zr_20_82 (by decide) (z_toif h) (fun h => ?_) (fun h => ?_)
            · refine ze_lconst (pc := 85) zr_20_85 ?_
              refine ze_goto (pc := 86) (t := 93) zr_20_86 (by decide) ?_
              exact ze_lret (pc := 93) zr_20_93 rfl h
            · refine ze_lload_n (pc := 89) zr_20_89 rfl ?_
              refine ze_lload (pc := 90) zr_20_90 rfl ?_
              refine z_gk h (fun g92 h => ?_)
              refine ze_ldiv (pc := 92) zr_20_92 g92 ?_
              exact ze_lret (pc := 93) zr_20_93 rfl h
          refine ze_if_ne (pc := 60) (t := 70) zr_20_60 (by decide) (fun hc => ?_) (fun hc => ?_)
          · rw [if_pos (show (V 94 4) = 0 from hc)] at j60
            refine ze_lload (pc := 63) zr_20_63 rfl ?_
            refine ze_lconst (pc := 65) zr_20_65 ?_
            refine ze_lcmp (pc := 66) zr_20_66 ?_
            refine ze_if_ne (pc := 67) (t := 74) zr_20_67 (by decide) (fun hc => ?_) (fun hc => ?_)
            · rw [if_pos (show (z_lcmp a2 0) = 0 from hc)] at j60
              refine ze_iconst (pc := 70) zr_20_70 (by decide) ?_
              refine ze_goto (pc := 71) (t := 75) zr_20_71 (by decide) ?_
              exact j60
            · rw [if_neg (show ¬ ((z_lcmp a2 0) = 0) from hc)] at j60
              refine ze_iconst (pc := 74) zr_20_74 (by decide) ?_
              exact j60
          · rw [if_neg (show ¬ ((V 94 4) = 0) from hc)] at j60
            refine ze_iconst (pc := 70) zr_20_70 (by decide) ?_
            refine ze_goto (pc := 71) (t := 75) zr_20_71 (by decide) ?_
            exact j60
        · refine zq_swc (n := 7) (z_toif h) rfl (fun h => ?_) (fun h => ?_)
          · refine zq_to (t := 94) (by decide) ?_
            refine ze_lload_n (pc := 94) zr_20_94 rfl ?_
            refine ze_lload (pc := 95) zr_20_95 rfl ?_
            refine ze_lcmp (pc := 97) zr_20_97 ?_
            have j98 : z_Ex (z_MS d) 20 Q true 106 [some (.inr (.inr 94)), some (.inl a0), some (.inr (.inl a1)), none, some (.inr (.inl a2)), none] [.inr (.inl (if (z_lcmp a1 a2) < 0 then 1 else 0))] 0 0 V := by
              exact ze_lret (pc := 106) zr_20_106 rfl h
            refine ze_if_ge (pc := 98) (t := 105) zr_20_98 (by decide) (fun hc => ?_) (fun hc => ?_)
            · rw [if_pos (show (z_lcmp a1 a2) < 0 from hc)] at j98
              refine ze_lconst (pc := 101) zr_20_101 ?_
              refine ze_goto (pc := 102) (t := 106) zr_20_102 (by decide) ?_
              exact j98
            · rw [if_neg (show ¬ ((z_lcmp a1 a2) < 0) from hc)] at j98
              refine ze_lconst (pc := 105) zr_20_105 ?_
              exact j98
          · refine zq_swc (n := 8) (z_toif h) rfl (fun h => ?_) (fun h => ?_)
            · refine zq_to (t := 107) (by decide) ?_
              refine ze_lload_n (pc := 107) zr_20_107 rfl ?_
              refine ze_lload (pc := 108) zr_20_108 rfl ?_
              refine ze_lcmp (pc := 110) zr_20_110 ?_
              have j111 : z_Ex (z_MS d) 20 Q true 119 [some (.inr (.inr 94)), some (.inl a0), some (.inr (.inl a1)), none, some (.inr (.inl a2)), none] [.inr (.inl (if 0 < (z_lcmp a1 a2) then 1 else 0))] 0 0 V := by
                exact ze_lret (pc := 119) zr_20_119 rfl h
              refine ze_if_le (pc := 111) (t := 118) zr_20_111 (by decide) (fun hc => ?_) (fun hc => ?_)
              · rw [if_pos (show 0 < (z_lcmp a1 a2) from hc)] at j111
                refine ze_lconst (pc := 114) zr_20_114 ?_
                refine ze_goto (pc := 115) (t := 119) zr_20_115 (by decide) ?_
                exact j111
              · rw [if_neg (show ¬ (0 < (z_lcmp a1 a2)) from hc)] at j111
                refine ze_lconst (pc := 118) zr_20_118 ?_
                exact j111
            · refine zq_swn ?_
              refine zq_to (t := 120) (by decide) ?_
              refine ze_lload_n (pc := 120) zr_20_120 rfl ?_
              refine ze_lload (pc := 121) zr_20_121 rfl ?_
              refine ze_lcmp (pc := 123) zr_20_123 ?_
              have j124 : z_Ex (z_MS d) 20 Q true 132 [some (.inr (.inr 94)), some (.inl a0), some (.inr (.inl a1)), none, some (.inr (.inl a2)), none] [.inr (.inl (if (z_lcmp a1 a2) = 0 then 1 else 0))] 0 0 V := by
                exact ze_lret (pc := 132) zr_20_132 rfl h
              refine ze_if_ne (pc := 124) (t := 131) zr_20_124 (by decide) (fun hc => ?_) (fun hc => ?_)
              · rw [if_pos (show (z_lcmp a1 a2) = 0 from hc)] at j124
                refine ze_lconst (pc := 127) zr_20_127 ?_
                refine ze_goto (pc := 128) (t := 132) zr_20_128 (by decide) ?_
                exact j124
              · rw [if_neg (show ¬ ((z_lcmp a1 a2) = 0) from hc)] at j124
                refine ze_lconst (pc := 131) zr_20_131 ?_
                exact j124
theorem zb21_94 {d : Nat} {Q : Int → z_M → Prop} (a0 : Int) {V : z_M}
    (h : zI (0 < (z_lcmp a0 1000000000)) (∀ W1, W1 = z_up V 94 4 1 → Q 0 W1) (zI ((z_lcmp a0 (-1000000000)) < 0) (∀ W2, W2 = z_up V 94 4 1 → Q 0 W2) (zI ((V 94 2) < 40) (zGu (0 ≤ (V 94 2) ∧ (V 94 2) < 40) (∀ W3, W3 = z_up V 96 (V 94 2).toNat a0 → ∀ W4, W4 = z_up W3 94 2 (z_add (W3 94 2) 1) → Q 0 W4)) (∀ W5, W5 = z_up V 94 4 1 → Q 0 W5)))) :
    z_MS (d + 1) 21 true [.inr (.inr 94), .inr (.inl a0)] V Q := by
  show z_Ex (z_MS d) 21 Q true 0 [some (.inr (.inr 94)), some (.inr (.inl a0)), none] [] 0 0 V
  refine ze_lload_n (pc := 0) zr_21_0 rfl ?_
  refine ze_ldc2 (pc := 1) (z := 1000000000) zr_21_1 (by decide) rfl ?_
  refine ze_lcmp (pc := 4) zr_21_4 ?_
  refine zq_if_gt (pc := 5) (t := 28) zr_21_5 (by decide) (z_toif h) (fun h => ?_) (fun h => ?_)
  · refine ze_aload_n (pc := 28) zr_21_28 rfl ?_
    refine ze_iconst (pc := 29) zr_21_29 (by decide) ?_
    refine zq_putZ (pc := 30) zr_21_30 (by decide) rfl (by decide) h (fun W1 h => ?_)
    exact ze_vret (pc := 33) zr_21_33 rfl h
  · refine ze_lload_n (pc := 8) zr_21_8 rfl ?_
    refine ze_ldc2 (pc := 9) (z := (-1000000000)) zr_21_9 (by decide) rfl ?_
    refine ze_lcmp (pc := 12) zr_21_12 ?_
    refine zq_if_lt (pc := 13) (t := 28) zr_21_13 (by decide) (z_toif h) (fun h => ?_) (fun h => ?_)
    · refine ze_aload_n (pc := 28) zr_21_28 rfl ?_
      refine ze_iconst (pc := 29) zr_21_29 (by decide) ?_
      refine zq_putZ (pc := 30) zr_21_30 (by decide) rfl (by decide) h (fun W2 h => ?_)
      exact ze_vret (pc := 33) zr_21_33 rfl h
    · refine ze_aload_n (pc := 16) zr_21_16 rfl ?_
      refine ze_getfield (pc := 17) (v := .inl (V 94 2)) zr_21_17 rfl rfl ?_
      refine ze_aload_n (pc := 20) zr_21_20 rfl ?_
      refine ze_getfield (pc := 21) (v := .inr (.inr 96)) zr_21_21 rfl rfl ?_
      refine ze_length (pc := 24) (z := 40) zr_21_24 (by decide) rfl ?_
      refine zq_icmp_lt (pc := 25) (t := 34) zr_21_25 (by decide) (z_toif h) (fun h => ?_) (fun h => ?_)
      · refine ze_aload_n (pc := 34) zr_21_34 rfl ?_
        refine ze_getfield (pc := 35) (v := .inr (.inr 96)) zr_21_35 rfl rfl ?_
        refine ze_aload_n (pc := 38) zr_21_38 rfl ?_
        refine ze_getfield (pc := 39) (v := .inl (V 94 2)) zr_21_39 rfl rfl ?_
        refine ze_lload_n (pc := 42) zr_21_42 rfl ?_
        refine z_gk h (fun g43 h => ?_)
        refine zq_lastore (pc := 43) zr_21_43 (by decide) rfl g43 rfl h (fun W3 h => ?_)
        refine ze_aload_n (pc := 44) zr_21_44 rfl ?_
        refine ze_dup (pc := 45) zr_21_45 rfl ?_
        refine ze_getfield (pc := 46) (v := .inl (W3 94 2)) zr_21_46 rfl rfl ?_
        refine ze_iconst (pc := 49) zr_21_49 (by decide) ?_
        refine ze_iadd (pc := 50) zr_21_50 ?_
        refine zq_putI (pc := 51) zr_21_51 (by decide) rfl h (fun W4 h => ?_)
        exact ze_vret (pc := 54) zr_21_54 rfl h
      · refine ze_aload_n (pc := 28) zr_21_28 rfl ?_
        refine ze_iconst (pc := 29) zr_21_29 (by decide) ?_
        refine zq_putZ (pc := 30) zr_21_30 (by decide) rfl (by decide) h (fun W5 h => ?_)
        exact ze_vret (pc := 33) zr_21_33 rfl h
theorem zb22_94 {d : Nat} {Q : Int → z_M → Prop}  {V : z_M}
    (h : zI (0 < (V 94 2)) (∀ W1, W1 = z_up V 94 2 (z_sub (V 94 2) 1) → zGu (0 ≤ (W1 94 2) ∧ (W1 94 2) < 40) (∀ x27 : Int, x27 = W1 96 (W1 94 2).toNat → Q x27 W1)) (Q 0 V)) :
    z_MS (d + 1) 22 true [.inr (.inr 94)] V Q := by
  show z_Ex (z_MS d) 22 Q true 0 [some (.inr (.inr 94))] [] 0 0 V
  refine ze_aload_n (pc := 0) zr_22_0 rfl ?_
  refine ze_getfield (pc := 1) (v := .inl (V 94 2)) zr_22_1 rfl rfl ?_
  refine zq_if_gt (pc := 4) (t := 9) zr_22_4 (by decide) (z_toif h) (fun h => ?_) (fun h => ?_)
  · refine ze_aload_n (pc := 9) zr_22_9 rfl ?_
    refine ze_dup (pc := 10) zr_22_10 rfl ?_
    refine ze_getfield (pc := 11) (v := .inl (V 94 2)) zr_22_11 rfl rfl ?_
    refine ze_iconst (pc := 14) zr_22_14 (by decide) ?_
    refine ze_isub (pc := 15) zr_22_15 ?_
    refine zq_putI (pc := 16) zr_22_16 (by decide) rfl h (fun W1 h => ?_)
    refine ze_aload_n (pc := 19) zr_22_19 rfl ?_
    refine ze_getfield (pc := 20) (v := .inr (.inr 96)) zr_22_20 rfl rfl ?_
    refine ze_aload_n (pc := 23) zr_22_23 rfl ?_
    refine ze_getfield (pc := 24) (v := .inl (W1 94 2)) zr_22_24 rfl rfl ?_
    refine z_gk h (fun g27 h => ?_)
    refine zl_laload (pc := 27) zr_22_27 rfl rfl g27 h (fun x27 h => ?_)
    exact ze_lret (pc := 28) zr_22_28 rfl h
  · refine ze_lconst (pc := 7) zr_22_7 ?_
    exact ze_lret (pc := 8) zr_22_8 rfl h
theorem zb45_118_37_97 {d : Nat} {Q : Int → z_M → Prop}  {V : z_M}
    (h : z_MS d 66 true [.inr (.inr 119)] V (fun z1 V1 => z_MS d 46 true [.inr (.inr 118), .inr (.inr 37), .inr (.inr 97), .inl 0, .inl 0, .inl 0] V1 (fun z2 V2 => Q 0 V2))) :
    z_MS (d + 1) 45 true [.inr (.inr 118), .inr (.inr 37), .inr (.inr 97)] V Q := by
  show z_Ex (z_MS d) 45 Q true 0 [some (.inr (.inr 118)), some (.inr (.inr 37)), some (.inr (.inr 97))] [] 0 0 V
  refine ze_aload_n (pc := 0) zr_45_0 rfl ?_
  refine ze_getfield (pc := 1) (v := .inr (.inr 119)) zr_45_1 rfl rfl ?_
  refine zq_callV0 (pc := 4) (as := [.inr (.inr 119)]) (r := []) (kc2 := 0) (ks2 := 0) zr_45_4 rfl (by decide) rfl rfl rfl rfl ⟨rfl, rfl⟩ rfl h (fun z1 V1 h => ?_)
  refine ze_aload_n (pc := 7) zr_45_7 rfl ?_
  refine ze_aload_n (pc := 8) zr_45_8 rfl ?_
  refine ze_aload_n (pc := 9) zr_45_9 rfl ?_
  refine ze_iconst (pc := 10) zr_45_10 (by decide) ?_
  refine ze_iconst (pc := 11) zr_45_11 (by decide) ?_
  refine ze_iconst (pc := 12) zr_45_12 (by decide) ?_
  refine zq_callV0 (pc := 13) (as := [.inr (.inr 118), .inr (.inr 37), .inr (.inr 97), .inl 0, .inl 0, .inl 0]) (r := []) (kc2 := 0) (ks2 := 0) zr_45_13 rfl (by decide) rfl rfl rfl rfl ⟨rfl, rfl⟩ rfl h (fun z2 V2 h => ?_)
  exact ze_vret (pc := 16) zr_45_16 rfl h
theorem zb46_118_37_97 {d : Nat} {Q : Int → z_M → Prop} (a2 : Int) (a3 : Int) (a4 : Int) {V : z_M}
    (h : z_MS d 67 true [.inr (.inr 119), .inl (z_add a4 (z_sub (V 37 11) a2))] V (fun z1 V1 => zI (z1 = 0) (Q 0 V1) (zI (0 < (z_sub (V 37 11) a2)) (zI (a2 < 7) (z_Ex (z_MS d) 46 Q true 59 [some (.inr (.inr 118)), some (.inr (.inr 37)), some (.inr (.inr 97)), some (.inl a2), some (.inl a3), some (.inl a4), some (.inl (z_sub (V 37 11) a2)), some (.inl 0), none, none, none, none] [] 0 0 V1) (z_MS d 62 true [.inr (.inr 97)] V1 (fun z5 V5 => z_MS d 256 true [.inl z5] V5 (fun z6 V6 => z_MS d 68 true [.inr (.inr 119), .inl a4, .inl z6, .inr (.inr 121)] V6 (fun z7 V7 => Q 0 V7))))) (z_MS d 62 true [.inr (.inr 97)] V1 (fun z2 V2 => z_MS d 256 true [.inl z2] V2 (fun z3 V3 => z_MS d 68 true [.inr (.inr 119), .inl a4, .inl z3, .inr (.inr 121)] V3 (fun z4 V4 => Q 0 V4))))))) :
    z_MS (d + 1) 46 true [.inr (.inr 118), .inr (.inr 37), .inr (.inr 97), .inl a2, .inl a3, .inl a4] V Q := by
  show z_Ex (z_MS d) 46 Q true 0 [some (.inr (.inr 118)), some (.inr (.inr 37)), some (.inr (.inr 97)), some (.inl a2), some (.inl a3), some (.inl a4), none, none, none, none, none, none] [] 0 0 V
  refine ze_aload_n (pc := 0) zr_46_0 rfl ?_
  refine ze_getfield (pc := 1) (v := .inl (V 37 11)) zr_46_1 rfl rfl ?_
  refine ze_iload_n (pc := 4) zr_46_4 rfl ?_
  refine ze_isub (pc := 5) zr_46_5 ?_
  refine zq_istore (pc := 6) (ls2 := [some (.inr (.inr 118)), some (.inr (.inr 37)), some (.inr (.inr 97)), some (.inl a2), some (.inl a3), some (.inl a4), some (.inl (z_sub (V 37 11) a2)), none, none, none, none, none]) zr_46_6 rfl rfl ?_
  refine ze_aload_n (pc := 8) zr_46_8 rfl ?_
  refine ze_getfield (pc := 9) (v := .inr (.inr 119)) zr_46_9 rfl rfl ?_
  refine ze_iload (pc := 12) zr_46_12 rfl ?_
  refine ze_iload (pc := 14) zr_46_14 rfl ?_
  refine ze_iadd (pc := 16) zr_46_16 ?_
  refine zq_callV1 (pc := 17) (as := [.inr (.inr 119), .inl (z_add a4 (z_sub (V 37 11) a2))]) (r := []) (kc2 := 0) (ks2 := 0) zr_46_17 rfl (by decide) rfl rfl rfl rfl ⟨rfl, rfl⟩ ⟨rfl, rfl, rfl⟩ h (fun z1 V1 h => ?_)
  refine zq_if_ne (pc := 20) (t := 24) zr_46_20 (by decide) (z_toif h) (fun h => ?_) (fun h => ?_)
  · exact ze_vret (pc := 23) zr_46_23 rfl h
  · refine ze_iload (pc := 24) zr_46_24 rfl ?_
    refine zq_if_le (pc := 26) (t := 35) zr_46_26 (by decide) (z_toif h) (fun h => ?_) (fun h => ?_)
    · refine ze_iload_n (pc := 29) zr_46_29 rfl ?_
      refine ze_bipush (pc := 30) zr_46_30 (by decide) ?_
      refine zq_icmp_lt (pc := 32) (t := 56) zr_46_32 (by decide) (z_toif h) (fun h => ?_) (fun h => ?_)
      · refine ze_iconst (pc := 56) zr_46_56 (by decide) ?_
        refine zq_istore (pc := 57) (ls2 := [some (.inr (.inr 118)), some (.inr (.inr 37)), some (.inr (.inr 97)), some (.inl a2), some (.inl a3), some (.inl a4), some (.inl (z_sub (V 37 11) a2)), some (.inl 0), none, none, none, none]) zr_46_57 rfl rfl ?_
        exact h
      · refine ze_aload_n (pc := 35) zr_46_35 rfl ?_
        refine ze_getfield (pc := 36) (v := .inr (.inr 119)) zr_46_36 rfl rfl ?_
        refine ze_iload (pc := 39) zr_46_39 rfl ?_
        refine ze_aload_n (pc := 41) zr_46_41 rfl ?_
        refine zq_callV1 (pc := 42) (as := [.inr (.inr 97)]) (r := [.inl a4, .inr (.inr 119)]) (kc2 := 0) (ks2 := 0) zr_46_42 rfl (by decide) rfl rfl rfl rfl ⟨rfl, rfl⟩ ⟨rfl, rfl, rfl⟩ h (fun z5 V5 h => ?_)
        refine zq_callS1 (pc := 45) (as := [.inl z5]) (r := [.inl a4, .inr (.inr 119)]) (kc2 := 0) (ks2 := 0) zr_46_45 rfl rfl rfl rfl ⟨rfl, rfl⟩ ⟨rfl, rfl, rfl⟩ h (fun z6 V6 h => ?_)
        refine ze_aload_n (pc := 48) zr_46_48 rfl ?_
        refine ze_getfield (pc := 49) (v := .inr (.inr 121)) zr_46_49 rfl rfl ?_
        refine zq_callV0 (pc := 52) (as := [.inr (.inr 119), .inl a4, .inl z6, .inr (.inr 121)]) (r := []) (kc2 := 0) (ks2 := 0) zr_46_52 rfl (by decide) rfl rfl rfl rfl ⟨rfl, rfl⟩ rfl h (fun z7 V7 h => ?_)
        exact ze_vret (pc := 55) zr_46_55 rfl h
    · refine ze_aload_n (pc := 35) zr_46_35 rfl ?_
      refine ze_getfield (pc := 36) (v := .inr (.inr 119)) zr_46_36 rfl rfl ?_
      refine ze_iload (pc := 39) zr_46_39 rfl ?_
      refine ze_aload_n (pc := 41) zr_46_41 rfl ?_
      refine zq_callV1 (pc := 42) (as := [.inr (.inr 97)]) (r := [.inl a4, .inr (.inr 119)]) (kc2 := 0) (ks2 := 0) zr_46_42 rfl (by decide) rfl rfl rfl rfl ⟨rfl, rfl⟩ ⟨rfl, rfl, rfl⟩ h (fun z2 V2 h => ?_)
      refine zq_callS1 (pc := 45) (as := [.inl z2]) (r := [.inl a4, .inr (.inr 119)]) (kc2 := 0) (ks2 := 0) zr_46_45 rfl rfl rfl rfl ⟨rfl, rfl⟩ ⟨rfl, rfl, rfl⟩ h (fun z3 V3 h => ?_)
      refine ze_aload_n (pc := 48) zr_46_48 rfl ?_
      refine ze_getfield (pc := 49) (v := .inr (.inr 121)) zr_46_49 rfl rfl ?_
      refine zq_callV0 (pc := 52) (as := [.inr (.inr 119), .inl a4, .inl z3, .inr (.inr 121)]) (r := []) (kc2 := 0) (ks2 := 0) zr_46_52 rfl (by decide) rfl rfl rfl rfl ⟨rfl, rfl⟩ rfl h (fun z4 V4 h => ?_)
      exact ze_vret (pc := 55) zr_46_55 rfl h
theorem zb46_118_37_97_p59 {d : Nat} {Q : Int → z_M → Prop} (l3 : Int) (l4 : Int) (l5 : Int) (o6 : Option z_V) (l7 : Int) (o8 : Option z_V) (o9 : Option z_V) (o10 : Option z_V) (o11 : Option z_V) {V : z_M}
    (h : zI (l7 < (V 37 11)) (zI ((z_and (z_shr l4 l7) 1) = 0) (zGu (0 ≤ l7 ∧ l7 < 7) (∀ x86 : Int, x86 = V 49 l7.toNat → zGu (0 ≤ x86 ∧ x86 < 6) (∀ x95 : Int, x95 = V 115 x86.toNat → zGu (0 ≤ l3 ∧ l3 < 7) (∀ W6001, W6001 = z_up V 121 l3.toNat l7 → zGu (0 ≤ l7 ∧ l7 < 7) (∀ x123 : Int, x123 = W6001 50 l7.toNat → z_MS d 59 true [.inr (.inr 97), .inl x86, .inl x123] W6001 (fun z6001 V6001 => z_Ex (z_MS d) 46 Q true 135 [some (.inr (.inr 118)), some (.inr (.inr 37)), some (.inr (.inr 97)), some (.inl l3), some (.inl l4), some (.inl l5), o6, some (.inl l7), some (.inl x86), some (.inl x95), some (.inl (V 97 7)), o11] [.inl (if z6001 = 0 then 0 else 1)] 0 0 V6001)))))) (z_Ex (z_MS d) 46 Q true 59 [some (.inr (.inr 118)), some (.inr (.inr 37)), some (.inr (.inr 97)), some (.inl l3), some (.inl l4), some (.inl l5), (cond (z_o2 o6) none o6), some (.inl (z_add l7 1)), o8, o9, o10, o11] [] 0 0 V)) (Q 0 V)) :
    z_Ex (z_MS d) 46 Q true 59 [some (.inr (.inr 118)), some (.inr (.inr 37)), some (.inr (.inr 97)), some (.inl l3), some (.inl l4), some (.inl l5), o6, some (.inl l7), o8, o9, o10, o11] [] 0 0 V := by
  refine ze_iload (pc := 59) zr_46_59 rfl ?_
  refine ze_aload_n (pc := 61) zr_46_61 rfl ?_
  refine ze_getfield (pc := 62) (v := .inl (V 37 11)) zr_46_62 rfl rfl ?_
  refine zq_icmp_ge (pc := 65) (t := 179) zr_46_65 (by decide) (z_toif h) (fun h => ?_) (fun h => ?_)
  · refine ze_iload (pc := 68) zr_46_68 rfl ?_
    refine ze_iload (pc := 70) zr_46_70 rfl ?_
    refine ze_ishr (pc := 72) zr_46_72 ?_
    refine ze_iconst (pc := 73) zr_46_73 (by decide) ?_
    refine ze_iand (pc := 74) zr_46_74 ?_
    refine zq_if_ne (pc := 75) (t := 173) zr_46_75 (by decide) (z_toif h) (fun h => ?_) (fun h => ?_)
    · refine ze_aload_n (pc := 78) zr_46_78 rfl ?_
      refine ze_getfield (pc := 79) (v := .inr (.inr 48)) zr_46_79 rfl rfl ?_
      refine ze_iconst (pc := 82) zr_46_82 (by decide) ?_
      refine zq_aaload (pc := 83) (v := .inr (.inr 49)) zr_46_83 (by decide) rfl (by decide) rfl ?_
      refine ze_iload (pc := 84) zr_46_84 rfl ?_
      refine z_gk h (fun g86 h => ?_)
      refine zl_iaload (pc := 86) zr_46_86 rfl rfl g86 h (fun x86 h => ?_)
      refine zq_istore (pc := 87) (ls2 := [some (.inr (.inr 118)), some (.inr (.inr 37)), some (.inr (.inr 97)), some (.inl l3), some (.inl l4), some (.inl l5), o6, some (.inl l7), some (.inl x86), o9, o10, o11]) zr_46_87 rfl rfl ?_
      refine ze_aload_n (pc := 89) zr_46_89 rfl ?_
      refine ze_getfield (pc := 90) (v := .inr (.inr 115)) zr_46_90 rfl rfl ?_
      refine ze_iload (pc := 93) zr_46_93 rfl ?_
      refine z_gk h (fun g95 h => ?_)
      refine zl_iaload (pc := 95) zr_46_95 rfl rfl g95 h (fun x95 h => ?_)
      refine zq_istore (pc := 96) (ls2 := [some (.inr (.inr 118)), some (.inr (.inr 37)), some (.inr (.inr 97)), some (.inl l3), some (.inl l4), some (.inl l5), o6, some (.inl l7), some (.inl x86), some (.inl x95), o10, o11]) zr_46_96 rfl rfl ?_
      refine ze_aload_n (pc := 98) zr_46_98 rfl ?_
      refine ze_getfield (pc := 99) (v := .inl (V 97 7)) zr_46_99 rfl rfl ?_
      refine zq_istore (pc := 102) (ls2 := [some (.inr (.inr 118)), some (.inr (.inr 37)), some (.inr (.inr 97)), some (.inl l3), some (.inl l4), some (.inl l5), o6, some (.inl l7), some (.inl x86), some (.inl x95), some (.inl (V 97 7)), o11]) zr_46_102 rfl rfl ?_
      refine ze_aload_n (pc := 104) zr_46_104 rfl ?_
      refine ze_getfield (pc := 105) (v := .inr (.inr 121)) zr_46_105 rfl rfl ?_
      refine ze_iload_n (pc := 108) zr_46_108 rfl ?_
      refine ze_iload (pc := 109) zr_46_109 rfl ?_
      refine z_gk h (fun g111 h => ?_)
      refine zq_iastore (pc := 111) zr_46_111 (by decide) rfl g111 rfl h (fun W6001 h => ?_)
      refine ze_aload_n (pc := 112) zr_46_112 rfl ?_
      refine ze_iload (pc := 113) zr_46_113 rfl ?_
      refine ze_aload_n (pc := 115) zr_46_115 rfl ?_
      refine ze_getfield (pc := 116) (v := .inr (.inr 48)) zr_46_116 rfl rfl ?_
      refine ze_iconst (pc := 119) zr_46_119 (by decide) ?_
      refine zq_aaload (pc := 120) (v := .inr (.inr 50)) zr_46_120 (by decide) rfl (by decide) rfl ?_
      refine ze_iload (pc := 121) zr_46_121 rfl ?_
      refine z_gk h (fun g123 h => ?_)
      refine zl_iaload (pc := 123) zr_46_123 rfl rfl g123 h (fun x123 h => ?_)
      refine zq_callV1 (pc := 124) (as := [.inr (.inr 97), .inl x86, .inl x123]) (r := []) (kc2 := 0) (ks2 := 0) zr_46_124 rfl (by decide) rfl rfl rfl rfl ⟨rfl, rfl⟩ ⟨rfl, rfl, rfl⟩ h (fun z6001 V6001 h => ?_)
      have j127 : z_Ex (z_MS d) 46 Q true 135 [some (.inr (.inr 118)), some (.inr (.inr 37)), some (.inr (.inr 97)), some (.inl l3), some (.inl l4), some (.inl l5), o6, some (.inl l7), some (.inl x86), some (.inl x95), some (.inl (V 97 7)), o11] [.inl (if z6001 = 0 then 0 else 1)] 0 0 V6001 := by
        exact h
      refine ze_if_eq (pc := 127) (t := 134) zr_46_127 (by decide) (fun hc => ?_) (fun hc => ?_)
      · rw [if_pos (show z6001 = 0 from hc)] at j127
        refine ze_iconst (pc := 134) zr_46_134 (by decide) ?_
        exact j127
      · rw [if_neg (show ¬ (z6001 = 0) from hc)] at j127
        refine ze_iconst (pc := 130) zr_46_130 (by decide) ?_
        refine ze_goto (pc := 131) (t := 135) zr_46_131 (by decide) ?_
        exact j127
    · refine zq_iinc (pc := 173) (ls2 := [some (.inr (.inr 118)), some (.inr (.inr 37)), some (.inr (.inr 97)), some (.inl l3), some (.inl l4), some (.inl l5), (cond (z_o2 o6) none o6), some (.inl (z_add l7 1)), o8, o9, o10, o11]) zr_46_173 rfl rfl rfl ?_
      refine ze_goto (pc := 176) (t := 59) zr_46_176 (by decide) ?_
      exact h
  · exact ze_vret (pc := 179) zr_46_179 rfl h
theorem zb46_118_37_97_p135 {d : Nat} {Q : Int → z_M → Prop} (l3 : Int) (l4 : Int) (l5 : Int) (o6 : Option z_V) (l7 : Int) (l8 : Int) (l9 : Int) (l10 : Int) (o11 : Option z_V) (s0 : Int) {V : z_M}
    (h : z_MS d 46 true [.inr (.inr 118), .inr (.inr 37), .inr (.inr 97), .inl (z_add l3 1), .inl (z_or l4 (z_shl 1 l7)), .inl (z_add l5 s0)] V (fun z13601 V13601 => zGu (0 ≤ l8 ∧ l8 < 6) (∀ W13601, W13601 = z_up V13601 115 l8.toNat l9 → ∀ W13602, W13602 = z_up W13601 97 7 l10 → z_Ex (z_MS d) 46 Q true 59 [some (.inr (.inr 118)), some (.inr (.inr 37)), some (.inr (.inr 97)), some (.inl l3), some (.inl l4), some (.inl l5), (cond (z_o2 o6) none o6), some (.inl (z_add l7 1)), some (.inl l8), some (.inl l9), some (.inl l10), some (.inl s0)] [] 0 0 W13602))) :
    z_Ex (z_MS d) 46 Q true 135 [some (.inr (.inr 118)), some (.inr (.inr 37)), some (.inr (.inr 97)), some (.inl l3), some (.inl l4), some (.inl l5), o6, some (.inl l7), some (.inl l8), some (.inl l9), some (.inl l10), o11] [.inl s0] 0 0 V := by
  refine zq_istore (pc := 135) (ls2 := [some (.inr (.inr 118)), some (.inr (.inr 37)), some (.inr (.inr 97)), some (.inl l3), some (.inl l4), some (.inl l5), o6, some (.inl l7), some (.inl l8), some (.inl l9), some (.inl l10), some (.inl s0)]) zr_46_135 rfl rfl ?_
  refine ze_aload_n (pc := 137) zr_46_137 rfl ?_
  refine ze_aload_n (pc := 138) zr_46_138 rfl ?_
  refine ze_aload_n (pc := 139) zr_46_139 rfl ?_
  refine ze_iload_n (pc := 140) zr_46_140 rfl ?_
  refine ze_iconst (pc := 141) zr_46_141 (by decide) ?_
  refine ze_iadd (pc := 142) zr_46_142 ?_
  refine ze_iload (pc := 143) zr_46_143 rfl ?_
  refine ze_iconst (pc := 145) zr_46_145 (by decide) ?_
  refine ze_iload (pc := 146) zr_46_146 rfl ?_
  refine ze_ishl (pc := 148) zr_46_148 ?_
  refine ze_ior (pc := 149) zr_46_149 ?_
  refine ze_iload (pc := 150) zr_46_150 rfl ?_
  refine ze_iload (pc := 152) zr_46_152 rfl ?_
  refine ze_iadd (pc := 154) zr_46_154 ?_
  refine zq_callV0 (pc := 155) (as := [.inr (.inr 118), .inr (.inr 37), .inr (.inr 97), .inl (z_add l3 1), .inl (z_or l4 (z_shl 1 l7)), .inl (z_add l5 s0)]) (r := []) (kc2 := 0) (ks2 := 0) zr_46_155 rfl (by decide) rfl rfl rfl rfl ⟨rfl, rfl⟩ rfl h (fun z13601 V13601 h => ?_)
  refine ze_aload_n (pc := 158) zr_46_158 rfl ?_
  refine ze_getfield (pc := 159) (v := .inr (.inr 115)) zr_46_159 rfl rfl ?_
  refine ze_iload (pc := 162) zr_46_162 rfl ?_
  refine ze_iload (pc := 164) zr_46_164 rfl ?_
  refine z_gk h (fun g166 h => ?_)
  refine zq_iastore (pc := 166) zr_46_166 (by decide) rfl g166 rfl h (fun W13601 h => ?_)
  refine ze_aload_n (pc := 167) zr_46_167 rfl ?_
  refine ze_iload (pc := 168) zr_46_168 rfl ?_
  refine zq_putI (pc := 170) zr_46_170 (by decide) rfl h (fun W13602 h => ?_)
  refine zq_iinc (pc := 173) (ls2 := [some (.inr (.inr 118)), some (.inr (.inr 37)), some (.inr (.inr 97)), some (.inl l3), some (.inl l4), some (.inl l5), (cond (z_o2 o6) none o6), some (.inl (z_add l7 1)), some (.inl l8), some (.inl l9), some (.inl l10), some (.inl s0)]) zr_46_173 rfl rfl rfl ?_
  refine ze_goto (pc := 176) (t := 59) zr_46_176 (by decide) ?_
  exact h
theorem zb48_97_37_132 {d : Nat} {Q : Int → z_M → Prop}  {V : z_M}
    (h : ∀ W1, W1 = z_up V 97 8 (z_min (V 37 7) 6) → ∀ W2, W2 = z_up W1 97 9 (W1 37 8) → ∀ W3, W3 = z_up W2 97 7 1 → ∀ W4, W4 = z_up W3 98 0 0 → z_Ex (z_MS d) 48 Q true 35 [some (.inr (.inr 97)), some (.inr (.inr 37)), some (.inr (.inr 132)), some (.inl 0), none] [] 0 0 W4) :
    z_MS (d + 1) 48 true [.inr (.inr 97), .inr (.inr 37), .inr (.inr 132)] V Q := by
  show z_Ex (z_MS d) 48 Q true 0 [some (.inr (.inr 97)), some (.inr (.inr 37)), some (.inr (.inr 132)), none, none] [] 0 0 V
  refine ze_aload_n (pc := 0) zr_48_0 rfl ?_
  refine ze_aload_n (pc := 1) zr_48_1 rfl ?_
  refine ze_getfield (pc := 2) (v := .inl (V 37 7)) zr_48_2 rfl rfl ?_
  refine ze_aload_n (pc := 5) zr_48_5 rfl ?_
  refine ze_length (pc := 6) (z := 6) zr_48_6 (by decide) rfl ?_
  refine zq_min (pc := 7) zr_48_7 (Nat.le_of_ble_eq_true rfl) ?_
  refine zq_putI (pc := 10) zr_48_10 (by decide) rfl h (fun W1 h => ?_)
  refine ze_aload_n (pc := 13) zr_48_13 rfl ?_
  refine ze_aload_n (pc := 14) zr_48_14 rfl ?_
  refine ze_getfield (pc := 15) (v := .inl (W1 37 8)) zr_48_15 rfl rfl ?_
  refine zq_putI (pc := 18) zr_48_18 (by decide) rfl h (fun W2 h => ?_)
  refine ze_aload_n (pc := 21) zr_48_21 rfl ?_
  refine ze_iconst (pc := 22) zr_48_22 (by decide) ?_
  refine zq_putI (pc := 23) zr_48_23 (by decide) rfl h (fun W3 h => ?_)
  refine ze_aload_n (pc := 26) zr_48_26 rfl ?_
  refine ze_getfield (pc := 27) (v := .inr (.inr 98)) zr_48_27 rfl rfl ?_
  refine ze_iconst (pc := 30) zr_48_30 (by decide) ?_
  refine ze_iconst (pc := 31) zr_48_31 (by decide) ?_
  refine zq_iastore (pc := 32) zr_48_32 (by decide) rfl (by decide) rfl h (fun W4 h => ?_)
  refine ze_iconst (pc := 33) zr_48_33 (by decide) ?_
  refine zq_istore_n (pc := 34) (ls2 := [some (.inr (.inr 97)), some (.inr (.inr 37)), some (.inr (.inr 132)), some (.inl 0), none]) zr_48_34 rfl rfl ?_
  exact h
theorem zb48_97_37_132_p35 {d : Nat} {Q : Int → z_M → Prop} (l3 : Int) (o4 : Option z_V) {V : z_M}
    (h : zI (l3 < (V 97 8)) (zGu (0 ≤ l3 ∧ l3 < 6) (∀ x45 : Int, x45 = V 132 l3.toNat → z_MS d 75 true [.inr (.inr 37), .inl x45] V (fun z3602 V3602 => zI (z3602 = 0) (z_Ex (z_MS d) 48 Q true 35 [some (.inr (.inr 97)), some (.inr (.inr 37)), some (.inr (.inr 132)), some (.inl (z_add l3 1)), some (.inl x45)] [] 0 0 V3602) (zGu (0 ≤ l3 ∧ l3 < 13) (∀ x69 : Int, x69 = V3602 98 l3.toNat → zGu (0 ≤ x45 ∧ x45 < 12) (∀ x78 : Int, x78 = V3602 39 x45.toNat → zGu (0 ≤ (z_add l3 1) ∧ (z_add l3 1) < 13) (∀ W3601, W3601 = z_up V3602 98 (z_add l3 1).toNat (z_add x69 x78) → zGu (0 ≤ x45 ∧ x45 < 12) (∀ x94 : Int, x94 = W3601 42 x45.toNat → ∀ W3602, W3602 = z_up W3601 97 7 (z_or (W3601 97 7) (if x94 = 0 then z_shl 2 l3 else 0)) → z_Ex (z_MS d) 48 Q true 35 [some (.inr (.inr 97)), some (.inr (.inr 37)), some (.inr (.inr 132)), some (.inl (z_add l3 1)), some (.inl x45)] [] 0 0 W3602)))))))) (z_MS d 257 true [.inr (.inr 115), .inl 0] V (fun z3601 V3601 => Q 0 V3601))) :
    z_Ex (z_MS d) 48 Q true 35 [some (.inr (.inr 97)), some (.inr (.inr 37)), some (.inr (.inr 132)), some (.inl l3), o4] [] 0 0 V := by
  refine ze_iload_n (pc := 35) zr_48_35 rfl ?_
  refine ze_aload_n (pc := 36) zr_48_36 rfl ?_
  refine ze_getfield (pc := 37) (v := .inl (V 97 8)) zr_48_37 rfl rfl ?_
  refine zq_icmp_ge (pc := 40) (t := 115) zr_48_40 (by decide) (z_toif h) (fun h => ?_) (fun h => ?_)
  · refine ze_aload_n (pc := 43) zr_48_43 rfl ?_
    refine ze_iload_n (pc := 44) zr_48_44 rfl ?_
    refine z_gk h (fun g45 h => ?_)
    refine zl_iaload (pc := 45) zr_48_45 rfl rfl g45 h (fun x45 h => ?_)
    refine zq_istore (pc := 46) (ls2 := [some (.inr (.inr 97)), some (.inr (.inr 37)), some (.inr (.inr 132)), some (.inl l3), some (.inl x45)]) zr_48_46 rfl rfl ?_
    refine ze_aload_n (pc := 48) zr_48_48 rfl ?_
    refine ze_iload (pc := 49) zr_48_49 rfl ?_
    refine zq_callV1 (pc := 51) (as := [.inr (.inr 37), .inl x45]) (r := []) (kc2 := 0) (ks2 := 0) zr_48_51 rfl (by decide) rfl rfl rfl rfl ⟨rfl, rfl⟩ ⟨rfl, rfl, rfl⟩ h (fun z3602 V3602 h => ?_)
    refine zq_if_eq (pc := 54) (t := 109) zr_48_54 (by decide) (z_toif h) (fun h => ?_) (fun h => ?_)
    · refine zq_iinc (pc := 109) (ls2 := [some (.inr (.inr 97)), some (.inr (.inr 37)), some (.inr (.inr 132)), some (.inl (z_add l3 1)), some (.inl x45)]) zr_48_109 rfl rfl rfl ?_
      refine ze_goto (pc := 112) (t := 35) zr_48_112 (by decide) ?_
      exact h
    · refine ze_aload_n (pc := 57) zr_48_57 rfl ?_
      refine ze_getfield (pc := 58) (v := .inr (.inr 98)) zr_48_58 rfl rfl ?_
      refine ze_iload_n (pc := 61) zr_48_61 rfl ?_
      refine ze_iconst (pc := 62) zr_48_62 (by decide) ?_
      refine ze_iadd (pc := 63) zr_48_63 ?_
      refine ze_aload_n (pc := 64) zr_48_64 rfl ?_
      refine ze_getfield (pc := 65) (v := .inr (.inr 98)) zr_48_65 rfl rfl ?_
      refine ze_iload_n (pc := 68) zr_48_68 rfl ?_
      refine z_gk h (fun g69 h => ?_)
      refine zl_iaload (pc := 69) zr_48_69 rfl rfl g69 h (fun x69 h => ?_)
      refine ze_aload_n (pc := 70) zr_48_70 rfl ?_
      refine ze_getfield (pc := 71) (v := .inr (.inr 38)) zr_48_71 rfl rfl ?_
      refine ze_iconst (pc := 74) zr_48_74 (by decide) ?_
      refine zq_aaload (pc := 75) (v := .inr (.inr 39)) zr_48_75 (by decide) rfl (by decide) rfl ?_
      refine ze_iload (pc := 76) zr_48_76 rfl ?_
      refine z_gk h (fun g78 h => ?_)
      refine zl_iaload (pc := 78) zr_48_78 rfl rfl g78 h (fun x78 h => ?_)
      refine ze_iadd (pc := 79) zr_48_79 ?_
      refine z_gk h (fun g80 h => ?_)
      refine zq_iastore (pc := 80) zr_48_80 (by decide) rfl g80 rfl h (fun W3601 h => ?_)
      refine ze_aload_n (pc := 81) zr_48_81 rfl ?_
      refine ze_dup (pc := 82) zr_48_82 rfl ?_
      refine ze_getfield (pc := 83) (v := .inl (W3601 97 7)) zr_48_83 rfl rfl ?_
      refine ze_aload_n (pc := 86) zr_48_86 rfl ?_
      refine ze_getfield (pc := 87) (v := .inr (.inr 38)) zr_48_87 rfl rfl ?_
      refine ze_iconst (pc := 90) zr_48_90 (by decide) ?_
      refine zq_aaload (pc := 91) (v := .inr (.inr 42)) zr_48_91 (by decide) rfl (by decide) rfl ?_
      refine ze_iload (pc := 92) zr_48_92 rfl ?_
      refine z_gk h (fun g94 h => ?_)
      refine zl_iaload (pc := 94) zr_48_94 rfl rfl g94 h (fun x94 h => ?_)
      have j95 : z_Ex (z_MS d) 48 Q true 105 [some (.inr (.inr 97)), some (.inr (.inr 37)), some (.inr (.inr 132)), some (.inl l3), some (.inl x45)] [.inl (if x94 = 0 then z_shl 2 l3 else 0), .inl (W3601 97 7), .inr (.inr 97)] 0 0 W3601 := by
        refine ze_ior (pc := 105) zr_48_105 ?_
        refine zq_putI (pc := 106) zr_48_106 (by decide) rfl h (fun W3602 h => ?_)
        refine zq_iinc (pc := 109) (ls2 := [some (.inr (.inr 97)), some (.inr (.inr 37)), some (.inr (.inr 132)), some (.inl (z_add l3 1)), some (.inl x45)]) zr_48_109 rfl rfl rfl ?_
        refine ze_goto (pc := 112) (t := 35) zr_48_112 (by decide) ?_
        exact h
      refine ze_if_ne (pc := 95) (t := 104) zr_48_95 (by decide) (fun hc => ?_) (fun hc => ?_)
      · rw [if_pos (show x94 = 0 from hc)] at j95
        refine ze_iconst (pc := 98) zr_48_98 (by decide) ?_
        refine ze_iload_n (pc := 99) zr_48_99 rfl ?_
        refine ze_ishl (pc := 100) zr_48_100 ?_
        refine ze_goto (pc := 101) (t := 105) zr_48_101 (by decide) ?_
        exact j95
      · rw [if_neg (show ¬ (x94 = 0) from hc)] at j95
        refine ze_iconst (pc := 104) zr_48_104 (by decide) ?_
        exact j95
  · refine ze_aload_n (pc := 115) zr_48_115 rfl ?_
    refine ze_getfield (pc := 116) (v := .inr (.inr 115)) zr_48_116 rfl rfl ?_
    refine ze_iconst (pc := 119) zr_48_119 (by decide) ?_
    refine zq_callS0 (pc := 120) (as := [.inr (.inr 115), .inl 0]) (r := []) (kc2 := 0) (ks2 := 0) zr_48_120 rfl rfl rfl rfl ⟨rfl, rfl⟩ rfl h (fun z3601 V3601 h => ?_)
    exact ze_vret (pc := 123) zr_48_123 rfl h
theorem zb48_97_37_6 {d : Nat} {Q : Int → z_M → Prop}  {V : z_M}
    (h : ∀ W1, W1 = z_up V 97 8 (z_min (V 37 7) 12) → ∀ W2, W2 = z_up W1 97 9 (W1 37 8) → ∀ W3, W3 = z_up W2 97 7 1 → ∀ W4, W4 = z_up W3 98 0 0 → z_Ex (z_MS d) 48 Q true 35 [some (.inr (.inr 97)), some (.inr (.inr 37)), some (.inr (.inr 6)), some (.inl 0), none] [] 0 0 W4) :
    z_MS (d + 1) 48 true [.inr (.inr 97), .inr (.inr 37), .inr (.inr 6)] V Q := by
  show z_Ex (z_MS d) 48 Q true 0 [some (.inr (.inr 97)), some (.inr (.inr 37)), some (.inr (.inr 6)), none, none] [] 0 0 V
  refine ze_aload_n (pc := 0) zr_48_0 rfl ?_
  refine ze_aload_n (pc := 1) zr_48_1 rfl ?_
  refine ze_getfield (pc := 2) (v := .inl (V 37 7)) zr_48_2 rfl rfl ?_
  refine ze_aload_n (pc := 5) zr_48_5 rfl ?_
  refine ze_length (pc := 6) (z := 12) zr_48_6 (by decide) rfl ?_
  refine zq_min (pc := 7) zr_48_7 (Nat.le_of_ble_eq_true rfl) ?_
  refine zq_putI (pc := 10) zr_48_10 (by decide) rfl h (fun W1 h => ?_)
  refine ze_aload_n (pc := 13) zr_48_13 rfl ?_
  refine ze_aload_n (pc := 14) zr_48_14 rfl ?_
  refine ze_getfield (pc := 15) (v := .inl (W1 37 8)) zr_48_15 rfl rfl ?_
  refine zq_putI (pc := 18) zr_48_18 (by decide) rfl h (fun W2 h => ?_)
  refine ze_aload_n (pc := 21) zr_48_21 rfl ?_
  refine ze_iconst (pc := 22) zr_48_22 (by decide) ?_
  refine zq_putI (pc := 23) zr_48_23 (by decide) rfl h (fun W3 h => ?_)
  refine ze_aload_n (pc := 26) zr_48_26 rfl ?_
  refine ze_getfield (pc := 27) (v := .inr (.inr 98)) zr_48_27 rfl rfl ?_
  refine ze_iconst (pc := 30) zr_48_30 (by decide) ?_
  refine ze_iconst (pc := 31) zr_48_31 (by decide) ?_
  refine zq_iastore (pc := 32) zr_48_32 (by decide) rfl (by decide) rfl h (fun W4 h => ?_)
  refine ze_iconst (pc := 33) zr_48_33 (by decide) ?_
  refine zq_istore_n (pc := 34) (ls2 := [some (.inr (.inr 97)), some (.inr (.inr 37)), some (.inr (.inr 6)), some (.inl 0), none]) zr_48_34 rfl rfl ?_
  exact h
theorem zb48_97_37_6_p35 {d : Nat} {Q : Int → z_M → Prop} (l3 : Int) (o4 : Option z_V) {V : z_M}
    (h : zI (l3 < (V 97 8)) (zGu (0 ≤ l3 ∧ l3 < 12) (∀ x45 : Int, x45 = V 6 l3.toNat → z_MS d 75 true [.inr (.inr 37), .inl x45] V (fun z3602 V3602 => zI (z3602 = 0) (z_Ex (z_MS d) 48 Q true 35 [some (.inr (.inr 97)), some (.inr (.inr 37)), some (.inr (.inr 6)), some (.inl (z_add l3 1)), some (.inl x45)] [] 0 0 V3602) (zGu (0 ≤ l3 ∧ l3 < 13) (∀ x69 : Int, x69 = V3602 98 l3.toNat → zGu (0 ≤ x45 ∧ x45 < 12) (∀ x78 : Int, x78 = V3602 39 x45.toNat → zGu (0 ≤ (z_add l3 1) ∧ (z_add l3 1) < 13) (∀ W3601, W3601 = z_up V3602 98 (z_add l3 1).toNat (z_add x69 x78) → zGu (0 ≤ x45 ∧ x45 < 12) (∀ x94 : Int, x94 = W3601 42 x45.toNat → ∀ W3602, W3602 = z_up W3601 97 7 (z_or (W3601 97 7) (if x94 = 0 then z_shl 2 l3 else 0)) → z_Ex (z_MS d) 48 Q true 35 [some (.inr (.inr 97)), some (.inr (.inr 37)), some (.inr (.inr 6)), some (.inl (z_add l3 1)), some (.inl x45)] [] 0 0 W3602)))))))) (z_MS d 257 true [.inr (.inr 115), .inl 0] V (fun z3601 V3601 => Q 0 V3601))) :
    z_Ex (z_MS d) 48 Q true 35 [some (.inr (.inr 97)), some (.inr (.inr 37)), some (.inr (.inr 6)), some (.inl l3), o4] [] 0 0 V := by
  refine ze_iload_n (pc := 35) zr_48_35 rfl ?_
  refine ze_aload_n (pc := 36) zr_48_36 rfl ?_
  refine ze_getfield (pc := 37) (v := .inl (V 97 8)) zr_48_37 rfl rfl ?_
  refine zq_icmp_ge (pc := 40) (t := 115) zr_48_40 (by decide) (z_toif h) (fun h => ?_) (fun h => ?_)
  · refine ze_aload_n (pc := 43) zr_48_43 rfl ?_
    refine ze_iload_n (pc := 44) zr_48_44 rfl ?_
    refine z_gk h (fun g45 h => ?_)
    refine zl_iaload (pc := 45) zr_48_45 rfl rfl g45 h (fun x45 h => ?_)
    refine zq_istore (pc := 46) (ls2 := [some (.inr (.inr 97)), some (.inr (.inr 37)), some (.inr (.inr 6)), some (.inl l3), some (.inl x45)]) zr_48_46 rfl rfl ?_
    refine ze_aload_n (pc := 48) zr_48_48 rfl ?_
    refine ze_iload (pc := 49) zr_48_49 rfl ?_
    refine zq_callV1 (pc := 51) (as := [.inr (.inr 37), .inl x45]) (r := []) (kc2 := 0) (ks2 := 0) zr_48_51 rfl (by decide) rfl rfl rfl rfl ⟨rfl, rfl⟩ ⟨rfl, rfl, rfl⟩ h (fun z3602 V3602 h => ?_)
    refine zq_if_eq (pc := 54) (t := 109) zr_48_54 (by decide) (z_toif h) (fun h => ?_) (fun h => ?_)
    · refine zq_iinc (pc := 109) (ls2 := [some (.inr (.inr 97)), some (.inr (.inr 37)), some (.inr (.inr 6)), some (.inl (z_add l3 1)), some (.inl x45)]) zr_48_109 rfl rfl rfl ?_
      refine ze_goto (pc := 112) (t := 35) zr_48_112 (by decide) ?_
      exact h
    · refine ze_aload_n (pc := 57) zr_48_57 rfl ?_
      refine ze_getfield (pc := 58) (v := .inr (.inr 98)) zr_48_58 rfl rfl ?_
      refine ze_iload_n (pc := 61) zr_48_61 rfl ?_
      refine ze_iconst (pc := 62) zr_48_62 (by decide) ?_
      refine ze_iadd (pc := 63) zr_48_63 ?_
      refine ze_aload_n (pc := 64) zr_48_64 rfl ?_
      refine ze_getfield (pc := 65) (v := .inr (.inr 98)) zr_48_65 rfl rfl ?_
      refine ze_iload_n (pc := 68) zr_48_68 rfl ?_
      refine z_gk h (fun g69 h => ?_)
      refine zl_iaload (pc := 69) zr_48_69 rfl rfl g69 h (fun x69 h => ?_)
      refine ze_aload_n (pc := 70) zr_48_70 rfl ?_
      refine ze_getfield (pc := 71) (v := .inr (.inr 38)) zr_48_71 rfl rfl ?_
      refine ze_iconst (pc := 74) zr_48_74 (by decide) ?_
      refine zq_aaload (pc := 75) (v := .inr (.inr 39)) zr_48_75 (by decide) rfl (by decide) rfl ?_
      refine ze_iload (pc := 76) zr_48_76 rfl ?_
      refine z_gk h (fun g78 h => ?_)
      refine zl_iaload (pc := 78) zr_48_78 rfl rfl g78 h (fun x78 h => ?_)
      refine ze_iadd (pc := 79) zr_48_79 ?_
      refine z_gk h (fun g80 h => ?_)
      refine zq_iastore (pc := 80) zr_48_80 (by decide) rfl g80 rfl h (fun W3601 h => ?_)
      refine ze_aload_n (pc := 81) zr_48_81 rfl ?_
      refine ze_dup (pc := 82) zr_48_82 rfl ?_
      refine ze_getfield (pc := 83) (v := .inl (W3601 97 7)) zr_48_83 rfl rfl ?_
      refine ze_aload_n (pc := 86) zr_48_86 rfl ?_
      refine ze_getfield (pc := 87) (v := .inr (.inr 38)) zr_48_87 rfl rfl ?_
      refine ze_iconst (pc := 90) zr_48_90 (by decide) ?_
      refine zq_aaload (pc := 91) (v := .inr (.inr 42)) zr_48_91 (by decide) rfl (by decide) rfl ?_
      refine ze_iload (pc := 92) zr_48_92 rfl ?_
      refine z_gk h (fun g94 h => ?_)
      refine zl_iaload (pc := 94) zr_48_94 rfl rfl g94 h (fun x94 h => ?_)
      have j95 : z_Ex (z_MS d) 48 Q true 105 [some (.inr (.inr 97)), some (.inr (.inr 37)), some (.inr (.inr 6)), some (.inl l3), some (.inl x45)] [.inl (if x94 = 0 then z_shl 2 l3 else 0), .inl (W3601 97 7), .inr (.inr 97)] 0 0 W3601 := by
        refine ze_ior (pc := 105) zr_48_105 ?_
        refine zq_putI (pc := 106) zr_48_106 (by decide) rfl h (fun W3602 h => ?_)
        refine zq_iinc (pc := 109) (ls2 := [some (.inr (.inr 97)), some (.inr (.inr 37)), some (.inr (.inr 6)), some (.inl (z_add l3 1)), some (.inl x45)]) zr_48_109 rfl rfl rfl ?_
        refine ze_goto (pc := 112) (t := 35) zr_48_112 (by decide) ?_
        exact h
      refine ze_if_ne (pc := 95) (t := 104) zr_48_95 (by decide) (fun hc => ?_) (fun hc => ?_)
      · rw [if_pos (show x94 = 0 from hc)] at j95
        refine ze_iconst (pc := 98) zr_48_98 (by decide) ?_
        refine ze_iload_n (pc := 99) zr_48_99 rfl ?_
        refine ze_ishl (pc := 100) zr_48_100 ?_
        refine ze_goto (pc := 101) (t := 105) zr_48_101 (by decide) ?_
        exact j95
      · rw [if_neg (show ¬ (x94 = 0) from hc)] at j95
        refine ze_iconst (pc := 104) zr_48_104 (by decide) ?_
        exact j95
  · refine ze_aload_n (pc := 115) zr_48_115 rfl ?_
    refine ze_getfield (pc := 116) (v := .inr (.inr 115)) zr_48_116 rfl rfl ?_
    refine ze_iconst (pc := 119) zr_48_119 (by decide) ?_
    refine zq_callS0 (pc := 120) (as := [.inr (.inr 115), .inl 0]) (r := []) (kc2 := 0) (ks2 := 0) zr_48_120 rfl rfl rfl rfl ⟨rfl, rfl⟩ rfl h (fun z3601 V3601 h => ?_)
    exact ze_vret (pc := 123) zr_48_123 rfl h
theorem zb49_97_37_94 {d : Nat} {Q : Int → z_M → Prop} (a2 : Int) {V : z_M}
    (h : z_Ex (z_MS d) 49 Q true 6 [some (.inr (.inr 97)), some (.inr (.inr 37)), some (.inr (.inr 94)), some (.inl a2), some (.inl 0), some (.inl 0)] [] 0 0 V) :
    z_MS (d + 1) 49 true [.inr (.inr 97), .inr (.inr 37), .inr (.inr 94), .inl a2] V Q := by
  show z_Ex (z_MS d) 49 Q true 0 [some (.inr (.inr 97)), some (.inr (.inr 37)), some (.inr (.inr 94)), some (.inl a2), none, none] [] 0 0 V
  refine ze_iconst (pc := 0) zr_49_0 (by decide) ?_
  refine zq_istore (pc := 1) (ls2 := [some (.inr (.inr 97)), some (.inr (.inr 37)), some (.inr (.inr 94)), some (.inl a2), some (.inl 0), none]) zr_49_1 rfl rfl ?_
  refine ze_iconst (pc := 3) zr_49_3 (by decide) ?_
  refine zq_istore (pc := 4) (ls2 := [some (.inr (.inr 97)), some (.inr (.inr 37)), some (.inr (.inr 94)), some (.inl a2), some (.inl 0), some (.inl 0)]) zr_49_4 rfl rfl ?_
  exact h
theorem zb49_97_37_94_p6 {d : Nat} {Q : Int → z_M → Prop} (l3 : Int) (l4 : Int) (l5 : Int) {V : z_M}
    (h : zI (l5 < (V 97 8)) (zGu (0 ≤ (z_add l5 1) ∧ (z_add l5 1) < 13) (∀ x30 : Int, x30 = V 98 (z_add l5 1).toNat → z_MS d 16 true [.inr (.inr 94), .inr (.inr 37), .inl l3, .inl l5, .inl l5, .inl x30] V (fun z702 V702 => zI (z702 = 0) (z_Ex (z_MS d) 49 Q true 6 [some (.inr (.inr 97)), some (.inr (.inr 37)), some (.inr (.inr 94)), some (.inl l3), some (.inl l4), some (.inl (z_add l5 1))] [] 0 0 V702) (z_Ex (z_MS d) 49 Q true 6 [some (.inr (.inr 97)), some (.inr (.inr 37)), some (.inr (.inr 94)), some (.inl l3), some (.inl (z_or l4 (z_shl 1 l5))), some (.inl (z_add l5 1))] [] 0 0 V702)))) (z_MS d 50 true [.inr (.inr 97), .inr (.inr 37), .inl l3, .inl l4] V (fun z701 V701 => Q 0 V701))) :
    z_Ex (z_MS d) 49 Q true 6 [some (.inr (.inr 97)), some (.inr (.inr 37)), some (.inr (.inr 94)), some (.inl l3), some (.inl l4), some (.inl l5)] [] 0 0 V := by
  refine ze_iload (pc := 6) zr_49_6 rfl ?_
  refine ze_aload_n (pc := 8) zr_49_8 rfl ?_
  refine ze_getfield (pc := 9) (v := .inl (V 97 8)) zr_49_9 rfl rfl ?_
  refine zq_icmp_ge (pc := 12) (t := 52) zr_49_12 (by decide) (z_toif h) (fun h => ?_) (fun h => ?_)
  · refine ze_aload_n (pc := 15) zr_49_15 rfl ?_
    refine ze_aload_n (pc := 16) zr_49_16 rfl ?_
    refine ze_iload_n (pc := 17) zr_49_17 rfl ?_
    refine ze_iload (pc := 18) zr_49_18 rfl ?_
    refine ze_iload (pc := 20) zr_49_20 rfl ?_
    refine ze_aload_n (pc := 22) zr_49_22 rfl ?_
    refine ze_getfield (pc := 23) (v := .inr (.inr 98)) zr_49_23 rfl rfl ?_
    refine ze_iload (pc := 26) zr_49_26 rfl ?_
    refine ze_iconst (pc := 28) zr_49_28 (by decide) ?_
    refine ze_iadd (pc := 29) zr_49_29 ?_
    refine z_gk h (fun g30 h => ?_)
    refine zl_iaload (pc := 30) zr_49_30 rfl rfl g30 h (fun x30 h => ?_)
    refine zq_callV1 (pc := 31) (as := [.inr (.inr 94), .inr (.inr 37), .inl l3, .inl l5, .inl l5, .inl x30]) (r := []) (kc2 := 0) (ks2 := 0) zr_49_31 rfl (by decide) rfl rfl rfl rfl ⟨rfl, rfl⟩ ⟨rfl, rfl, rfl⟩ h (fun z702 V702 h => ?_)
    refine zq_if_eq (pc := 34) (t := 46) zr_49_34 (by decide) (z_toif h) (fun h => ?_) (fun h => ?_)
    · refine zq_iinc (pc := 46) (ls2 := [some (.inr (.inr 97)), some (.inr (.inr 37)), some (.inr (.inr 94)), some (.inl l3), some (.inl l4), some (.inl (z_add l5 1))]) zr_49_46 rfl rfl rfl ?_
      refine ze_goto (pc := 49) (t := 6) zr_49_49 (by decide) ?_
      exact h
    · refine ze_iload (pc := 37) zr_49_37 rfl ?_
      refine ze_iconst (pc := 39) zr_49_39 (by decide) ?_
      refine ze_iload (pc := 40) zr_49_40 rfl ?_
      refine ze_ishl (pc := 42) zr_49_42 ?_
      refine ze_ior (pc := 43) zr_49_43 ?_
      refine zq_istore (pc := 44) (ls2 := [some (.inr (.inr 97)), some (.inr (.inr 37)), some (.inr (.inr 94)), some (.inl l3), some (.inl (z_or l4 (z_shl 1 l5))), some (.inl l5)]) zr_49_44 rfl rfl ?_
      refine zq_iinc (pc := 46) (ls2 := [some (.inr (.inr 97)), some (.inr (.inr 37)), some (.inr (.inr 94)), some (.inl l3), some (.inl (z_or l4 (z_shl 1 l5))), some (.inl (z_add l5 1))]) zr_49_46 rfl rfl rfl ?_
      refine ze_goto (pc := 49) (t := 6) zr_49_49 (by decide) ?_
      exact h
  · refine ze_aload_n (pc := 52) zr_49_52 rfl ?_
    refine ze_aload_n (pc := 53) zr_49_53 rfl ?_
    refine ze_iload_n (pc := 54) zr_49_54 rfl ?_
    refine ze_iload (pc := 55) zr_49_55 rfl ?_
    refine zq_callV0 (pc := 57) (as := [.inr (.inr 97), .inr (.inr 37), .inl l3, .inl l4]) (r := []) (kc2 := 0) (ks2 := 0) zr_49_57 rfl (by decide) rfl rfl rfl rfl ⟨rfl, rfl⟩ rfl h (fun z701 V701 h => ?_)
    exact ze_vret (pc := 60) zr_49_60 rfl h
theorem zb50_97_37 {d : Nat} {Q : Int → z_M → Prop} (a1 : Int) (a2 : Int) {V : z_M}
    (h : z_MS d 76 true [.inr (.inr 37), .inl a1] V (fun z1 V1 => zI (z1 = 0) (Q 0 V1) (zGu (0 ≤ a1 ∧ a1 < 6) (∀ W1, W1 = z_up V1 99 a1.toNat (z_or (z_shl a2 1) 1) → zGu (0 ≤ a1 ∧ a1 < 6) (∀ x27 : Int, x27 = W1 44 a1.toNat → z_Ex (z_MS d) 50 Q true 44 [some (.inr (.inr 97)), some (.inr (.inr 37)), some (.inl a1), some (.inl a2), some (.inl x27), some (.inl (z_add x27 (W1 46 1))), some (.inl 0), none, none, none, none] [] 0 0 W1))))) :
    z_MS (d + 1) 50 true [.inr (.inr 97), .inr (.inr 37), .inl a1, .inl a2] V Q := by
  show z_Ex (z_MS d) 50 Q true 0 [some (.inr (.inr 97)), some (.inr (.inr 37)), some (.inl a1), some (.inl a2), none, none, none, none, none, none, none] [] 0 0 V
  refine ze_aload_n (pc := 0) zr_50_0 rfl ?_
  refine ze_iload_n (pc := 1) zr_50_1 rfl ?_
  refine zq_callV1 (pc := 2) (as := [.inr (.inr 37), .inl a1]) (r := []) (kc2 := 0) (ks2 := 0) zr_50_2 rfl (by decide) rfl rfl rfl rfl ⟨rfl, rfl⟩ ⟨rfl, rfl, rfl⟩ h (fun z1 V1 h => ?_)
  refine zq_if_ne (pc := 5) (t := 9) zr_50_5 (by decide) (z_toif h) (fun h => ?_) (fun h => ?_)
  · exact ze_vret (pc := 8) zr_50_8 rfl h
  · refine ze_aload_n (pc := 9) zr_50_9 rfl ?_
    refine ze_getfield (pc := 10) (v := .inr (.inr 99)) zr_50_10 rfl rfl ?_
    refine ze_iload_n (pc := 13) zr_50_13 rfl ?_
    refine ze_iload_n (pc := 14) zr_50_14 rfl ?_
    refine ze_iconst (pc := 15) zr_50_15 (by decide) ?_
    refine ze_ishl (pc := 16) zr_50_16 ?_
    refine ze_iconst (pc := 17) zr_50_17 (by decide) ?_
    refine ze_ior (pc := 18) zr_50_18 ?_
    refine z_gk h (fun g19 h => ?_)
    refine zq_iastore (pc := 19) zr_50_19 (by decide) rfl g19 rfl h (fun W1 h => ?_)
    refine ze_aload_n (pc := 20) zr_50_20 rfl ?_
    refine ze_getfield (pc := 21) (v := .inr (.inr 43)) zr_50_21 rfl rfl ?_
    refine ze_iconst (pc := 24) zr_50_24 (by decide) ?_
    refine zq_aaload (pc := 25) (v := .inr (.inr 44)) zr_50_25 (by decide) rfl (by decide) rfl ?_
    refine ze_iload_n (pc := 26) zr_50_26 rfl ?_
    refine z_gk h (fun g27 h => ?_)
    refine zl_iaload (pc := 27) zr_50_27 rfl rfl g27 h (fun x27 h => ?_)
    refine zq_istore (pc := 28) (ls2 := [some (.inr (.inr 97)), some (.inr (.inr 37)), some (.inl a1), some (.inl a2), some (.inl x27), none, none, none, none, none, none]) zr_50_28 rfl rfl ?_
    refine ze_iload (pc := 30) zr_50_30 rfl ?_
    refine ze_aload_n (pc := 32) zr_50_32 rfl ?_
    refine ze_getfield (pc := 33) (v := .inr (.inr 46)) zr_50_33 rfl rfl ?_
    refine ze_iconst (pc := 36) zr_50_36 (by decide) ?_
    refine zq_iaload (pc := 37) (v := .inl (W1 46 1)) zr_50_37 rfl rfl (by decide) rfl ?_
    refine ze_iadd (pc := 38) zr_50_38 ?_
    refine zq_istore (pc := 39) (ls2 := [some (.inr (.inr 97)), some (.inr (.inr 37)), some (.inl a1), some (.inl a2), some (.inl x27), some (.inl (z_add x27 (W1 46 1))), none, none, none, none, none]) zr_50_39 rfl rfl ?_
    refine ze_iconst (pc := 41) zr_50_41 (by decide) ?_
    refine zq_istore (pc := 42) (ls2 := [some (.inr (.inr 97)), some (.inr (.inr 37)), some (.inl a1), some (.inl a2), some (.inl x27), some (.inl (z_add x27 (W1 46 1))), some (.inl 0), none, none, none, none]) zr_50_42 rfl rfl ?_
    exact h
theorem zb50_97_37_p44 {d : Nat} {Q : Int → z_M → Prop} (o1 : Option z_V) (l2 : Int) (o3 : Option z_V) (l4 : Int) (l5 : Int) (l6 : Int) (o7 : Option z_V) (o8 : Option z_V) (o9 : Option z_V) (o10 : Option z_V) {V : z_M}
    (h : zI ((V 97 8) < l6) (Q 0 V) (z_Ex (z_MS d) 50 Q true 62 [some (.inr (.inr 97)), o1, some (.inl l2), o3, some (.inl l4), some (.inl l5), some (.inl l6), some (.inl 0), some (.inl 0), some (.inl 0), o10] [] 0 0 V)) :
    z_Ex (z_MS d) 50 Q true 44 [some (.inr (.inr 97)), o1, some (.inl l2), o3, some (.inl l4), some (.inl l5), some (.inl l6), o7, o8, o9, o10] [] 0 0 V := by
  refine ze_iload (pc := 44) zr_50_44 rfl ?_
  refine ze_aload_n (pc := 46) zr_50_46 rfl ?_
  refine ze_getfield (pc := 47) (v := .inl (V 97 8)) zr_50_47 rfl rfl ?_
  refine zq_icmp_gt (pc := 50) (t := 179) zr_50_50 (by decide) (z_toif h) (fun h => ?_) (fun h => ?_)
  · exact ze_vret (pc := 179) zr_50_179 rfl h
  · refine ze_iconst (pc := 53) zr_50_53 (by decide) ?_
    refine zq_istore (pc := 54) (ls2 := [some (.inr (.inr 97)), o1, some (.inl l2), o3, some (.inl l4), some (.inl l5), some (.inl l6), some (.inl 0), o8, o9, o10]) zr_50_54 rfl rfl ?_
    refine ze_iconst (pc := 56) zr_50_56 (by decide) ?_
    refine zq_istore (pc := 57) (ls2 := [some (.inr (.inr 97)), o1, some (.inl l2), o3, some (.inl l4), some (.inl l5), some (.inl l6), some (.inl 0), some (.inl 0), o9, o10]) zr_50_57 rfl rfl ?_
    refine ze_iconst (pc := 59) zr_50_59 (by decide) ?_
    refine zq_istore (pc := 60) (ls2 := [some (.inr (.inr 97)), o1, some (.inl l2), o3, some (.inl l4), some (.inl l5), some (.inl l6), some (.inl 0), some (.inl 0), some (.inl 0), o10]) zr_50_60 rfl rfl ?_
    exact h
theorem zb50_97_37_p62 {d : Nat} {Q : Int → z_M → Prop} (o1 : Option z_V) (l2 : Int) (o3 : Option z_V) (l4 : Int) (l5 : Int) (l6 : Int) (l7 : Int) (l8 : Int) (l9 : Int) (o10 : Option z_V) {V : z_M}
    (h : zI ((V 97 8) < l9) (zGu (0 ≤ l2 ∧ l2 < 6) (∀ x156 : Nat, x156 = z_rr true V 100 l2.toNat → zGu (z_kd x156 = 101 ∧ 36 ≤ x156) (zGu (0 ≤ l6 ∧ l6 < z_len' V x156) (∀ W6301, W6301 = z_up V x156 l6.toNat l7 → zGu (0 ≤ l2 ∧ l2 < 6) (∀ x167 : Nat, x167 = z_rr true W6301 107 l2.toNat → zGu (z_kd x167 = 101 ∧ 36 ≤ x167) (zGu (0 ≤ l6 ∧ l6 < z_len' W6301 x167) (∀ W6302, W6302 = z_up W6301 x167 l6.toNat l8 → z_Ex (z_MS d) 50 Q true 44 [some (.inr (.inr 97)), o1, some (.inl l2), o3, some (.inl l4), some (.inl l5), some (.inl (z_add l6 1)), some (.inl l7), some (.inl l8), some (.inl l9), o10] [] 0 0 W6302))))))) (zGu (0 ≤ l9 ∧ l9 < 13) (∀ x77 : Int, x77 = V 98 l9.toNat → zGu (0 ≤ l6 ∧ l6 < 13) (∀ x84 : Int, x84 = V 98 l6.toNat → zI (l9 = l6) (z_Ex (z_MS d) 50 Q true 119 [some (.inr (.inr 97)), o1, some (.inl l2), o3, some (.inl l4), some (.inl l5), some (.inl l6), some (.inl l7), some (.inl l8), some (.inl l9), some (.inl (z_sub x77 x84))] [] 0 0 V) (zI (l4 < (z_sub x77 x84)) (z_Ex (z_MS d) 50 Q true 119 [some (.inr (.inr 97)), o1, some (.inl l2), o3, some (.inl l4), some (.inl l5), some (.inl l6), some (.inl l7), some (.inl l8), some (.inl l9), some (.inl (z_sub x77 x84))] [] 0 0 V) (zI (l5 < (z_neg (z_sub x77 x84))) (z_Ex (z_MS d) 50 Q true 119 [some (.inr (.inr 97)), o1, some (.inl l2), o3, some (.inl l4), some (.inl l5), some (.inl l6), some (.inl l7), some (.inl l8), some (.inl l9), some (.inl (z_sub x77 x84))] [] 0 0 V) (z_Ex (z_MS d) 50 Q true 119 [some (.inr (.inr 97)), o1, some (.inl l2), o3, some (.inl l4), some (.inl l5), some (.inl l6), some (.inl (z_or l7 (z_shl 1 l9))), some (.inl l8), some (.inl l9), some (.inl (z_sub x77 x84))] [] 0 0 V))))))) :
    z_Ex (z_MS d) 50 Q true 62 [some (.inr (.inr 97)), o1, some (.inl l2), o3, some (.inl l4), some (.inl l5), some (.inl l6), some (.inl l7), some (.inl l8), some (.inl l9), o10] [] 0 0 V := by
  refine ze_iload (pc := 62) zr_50_62 rfl ?_
  refine ze_aload_n (pc := 64) zr_50_64 rfl ?_
  refine ze_getfield (pc := 65) (v := .inl (V 97 8)) zr_50_65 rfl rfl ?_
  refine zq_icmp_gt (pc := 68) (t := 151) zr_50_68 (by decide) (z_toif h) (fun h => ?_) (fun h => ?_)
  · refine ze_aload_n (pc := 151) zr_50_151 rfl ?_
    refine ze_getfield (pc := 152) (v := .inr (.inr 100)) zr_50_152 rfl rfl ?_
    refine ze_iload_n (pc := 155) zr_50_155 rfl ?_
    refine z_gk h (fun g156 h => ?_)
    refine zl_aaload (pc := 156) zr_50_156 (by decide) rfl g156 h (fun x156 h => ?_)
    refine ze_iload (pc := 157) zr_50_157 rfl ?_
    refine ze_iload (pc := 159) zr_50_159 rfl ?_
    refine z_gk h (fun k161 h => ?_)
    refine z_gk h (fun g161 h => ?_)
    refine zq_iastorev (pc := 161) zr_50_161 k161 g161 rfl h (fun W6301 h => ?_)
    refine ze_aload_n (pc := 162) zr_50_162 rfl ?_
    refine ze_getfield (pc := 163) (v := .inr (.inr 107)) zr_50_163 rfl rfl ?_
    refine ze_iload_n (pc := 166) zr_50_166 rfl ?_
    refine z_gk h (fun g167 h => ?_)
    refine zl_aaload (pc := 167) zr_50_167 (by decide) rfl g167 h (fun x167 h => ?_)
    refine ze_iload (pc := 168) zr_50_168 rfl ?_
    refine ze_iload (pc := 170) zr_50_170 rfl ?_
    refine z_gk h (fun k172 h => ?_)
    refine z_gk h (fun g172 h => ?_)
    refine zq_iastorev (pc := 172) zr_50_172 k172 g172 rfl h (fun W6302 h => ?_)
    refine zq_iinc (pc := 173) (ls2 := [some (.inr (.inr 97)), o1, some (.inl l2), o3, some (.inl l4), some (.inl l5), some (.inl (z_add l6 1)), some (.inl l7), some (.inl l8), some (.inl l9), o10]) zr_50_173 rfl rfl rfl ?_
    refine ze_goto (pc := 176) (t := 44) zr_50_176 (by decide) ?_
    exact h
  · refine ze_aload_n (pc := 71) zr_50_71 rfl ?_
    refine ze_getfield (pc := 72) (v := .inr (.inr 98)) zr_50_72 rfl rfl ?_
    refine ze_iload (pc := 75) zr_50_75 rfl ?_
    refine z_gk h (fun g77 h => ?_)
    refine zl_iaload (pc := 77) zr_50_77 rfl rfl g77 h (fun x77 h => ?_)
    refine ze_aload_n (pc := 78) zr_50_78 rfl ?_
    refine ze_getfield (pc := 79) (v := .inr (.inr 98)) zr_50_79 rfl rfl ?_
    refine ze_iload (pc := 82) zr_50_82 rfl ?_
    refine z_gk h (fun g84 h => ?_)
    refine zl_iaload (pc := 84) zr_50_84 rfl rfl g84 h (fun x84 h => ?_)
    refine ze_isub (pc := 85) zr_50_85 ?_
    refine zq_istore (pc := 86) (ls2 := [some (.inr (.inr 97)), o1, some (.inl l2), o3, some (.inl l4), some (.inl l5), some (.inl l6), some (.inl l7), some (.inl l8), some (.inl l9), some (.inl (z_sub x77 x84))]) zr_50_86 rfl rfl ?_
    refine ze_iload (pc := 88) zr_50_88 rfl ?_
    refine ze_iload (pc := 90) zr_50_90 rfl ?_
    refine zq_icmp_eq (pc := 92) (t := 119) zr_50_92 (by decide) (z_toif h) (fun h => ?_) (fun h => ?_)
    · exact h
    · refine ze_iload (pc := 95) zr_50_95 rfl ?_
      refine ze_iload (pc := 97) zr_50_97 rfl ?_
      refine zq_icmp_gt (pc := 99) (t := 119) zr_50_99 (by decide) (z_toif h) (fun h => ?_) (fun h => ?_)
      · exact h
      · refine ze_iload (pc := 102) zr_50_102 rfl ?_
        refine ze_ineg (pc := 104) zr_50_104 ?_
        refine ze_iload (pc := 105) zr_50_105 rfl ?_
        refine zq_icmp_gt (pc := 107) (t := 119) zr_50_107 (by decide) (z_toif h) (fun h => ?_) (fun h => ?_)
        · exact h
        · refine ze_iload (pc := 110) zr_50_110 rfl ?_
          refine ze_iconst (pc := 112) zr_50_112 (by decide) ?_
          refine ze_iload (pc := 113) zr_50_113 rfl ?_
          refine ze_ishl (pc := 115) zr_50_115 ?_
          refine ze_ior (pc := 116) zr_50_116 ?_
          refine zq_istore (pc := 117) (ls2 := [some (.inr (.inr 97)), o1, some (.inl l2), o3, some (.inl l4), some (.inl l5), some (.inl l6), some (.inl (z_or l7 (z_shl 1 l9))), some (.inl l8), some (.inl l9), some (.inl (z_sub x77 x84))]) zr_50_117 rfl rfl ?_
          exact h
theorem zb50_97_37_p119 {d : Nat} {Q : Int → z_M → Prop} (o1 : Option z_V) (l2 : Int) (o3 : Option z_V) (l4 : Int) (l5 : Int) (l6 : Int) (l7 : Int) (l8 : Int) (l9 : Int) (l10 : Int) {V : z_M}
    (h : zI (l9 = l6) (z_Ex (z_MS d) 50 Q true 62 [some (.inr (.inr 97)), o1, some (.inl l2), o3, some (.inl l4), some (.inl l5), some (.inl l6), some (.inl l7), some (.inl l8), some (.inl (z_add l9 1)), some (.inl l10)] [] 0 0 V) (zI (l4 < (z_abs l10)) (z_Ex (z_MS d) 50 Q true 62 [some (.inr (.inr 97)), o1, some (.inl l2), o3, some (.inl l4), some (.inl l5), some (.inl l6), some (.inl l7), some (.inl l8), some (.inl (z_add l9 1)), some (.inl l10)] [] 0 0 V) (z_Ex (z_MS d) 50 Q true 62 [some (.inr (.inr 97)), o1, some (.inl l2), o3, some (.inl l4), some (.inl l5), some (.inl l6), some (.inl l7), some (.inl (z_or l8 (z_shl 1 l9))), some (.inl (z_add l9 1)), some (.inl l10)] [] 0 0 V))) :
    z_Ex (z_MS d) 50 Q true 119 [some (.inr (.inr 97)), o1, some (.inl l2), o3, some (.inl l4), some (.inl l5), some (.inl l6), some (.inl l7), some (.inl l8), some (.inl l9), some (.inl l10)] [] 0 0 V := by
  refine ze_iload (pc := 119) zr_50_119 rfl ?_
  refine ze_iload (pc := 121) zr_50_121 rfl ?_
  refine zq_icmp_eq (pc := 123) (t := 145) zr_50_123 (by decide) (z_toif h) (fun h => ?_) (fun h => ?_)
  · refine zq_iinc (pc := 145) (ls2 := [some (.inr (.inr 97)), o1, some (.inl l2), o3, some (.inl l4), some (.inl l5), some (.inl l6), some (.inl l7), some (.inl l8), some (.inl (z_add l9 1)), some (.inl l10)]) zr_50_145 rfl rfl rfl ?_
    refine ze_goto (pc := 148) (t := 62) zr_50_148 (by decide) ?_
    exact h
  · refine ze_iload (pc := 126) zr_50_126 rfl ?_
    refine zq_abs (pc := 128) zr_50_128 (Nat.le_of_ble_eq_true rfl) ?_
    refine ze_iload (pc := 131) zr_50_131 rfl ?_
    refine zq_icmp_gt (pc := 133) (t := 145) zr_50_133 (by decide) (z_toif h) (fun h => ?_) (fun h => ?_)
    · refine zq_iinc (pc := 145) (ls2 := [some (.inr (.inr 97)), o1, some (.inl l2), o3, some (.inl l4), some (.inl l5), some (.inl l6), some (.inl l7), some (.inl l8), some (.inl (z_add l9 1)), some (.inl l10)]) zr_50_145 rfl rfl rfl ?_
      refine ze_goto (pc := 148) (t := 62) zr_50_148 (by decide) ?_
      exact h
    · refine ze_iload (pc := 136) zr_50_136 rfl ?_
      refine ze_iconst (pc := 138) zr_50_138 (by decide) ?_
      refine ze_iload (pc := 139) zr_50_139 rfl ?_
      refine ze_ishl (pc := 141) zr_50_141 ?_
      refine ze_ior (pc := 142) zr_50_142 ?_
      refine zq_istore (pc := 143) (ls2 := [some (.inr (.inr 97)), o1, some (.inl l2), o3, some (.inl l4), some (.inl l5), some (.inl l6), some (.inl l7), some (.inl (z_or l8 (z_shl 1 l9))), some (.inl l9), some (.inl l10)]) zr_50_143 rfl rfl ?_
      refine zq_iinc (pc := 145) (ls2 := [some (.inr (.inr 97)), o1, some (.inl l2), o3, some (.inl l4), some (.inl l5), some (.inl l6), some (.inl l7), some (.inl (z_or l8 (z_shl 1 l9))), some (.inl (z_add l9 1)), some (.inl l10)]) zr_50_145 rfl rfl rfl ?_
      refine ze_goto (pc := 148) (t := 62) zr_50_148 (by decide) ?_
      exact h
theorem zb51_97 {d : Nat} {Q : Int → z_M → Prop} (a0 : Int) (a1 : Int) {V : z_M}
    (h : z_Ex (z_MS d) 51 Q true 5 [some (.inr (.inr 97)), some (.inl a0), some (.inl a1), some (.inl 0), some (.inl 0)] [] 0 0 V) :
    z_MS (d + 1) 51 true [.inr (.inr 97), .inl a0, .inl a1] V Q := by
  show z_Ex (z_MS d) 51 Q true 0 [some (.inr (.inr 97)), some (.inl a0), some (.inl a1), none, none] [] 0 0 V
  refine ze_iconst (pc := 0) zr_51_0 (by decide) ?_
  refine zq_istore_n (pc := 1) (ls2 := [some (.inr (.inr 97)), some (.inl a0), some (.inl a1), some (.inl 0), none]) zr_51_1 rfl rfl ?_
  refine ze_iconst (pc := 2) zr_51_2 (by decide) ?_
  refine zq_istore (pc := 3) (ls2 := [some (.inr (.inr 97)), some (.inl a0), some (.inl a1), some (.inl 0), some (.inl 0)]) zr_51_3 rfl rfl ?_
  exact h
theorem zb51_97_p5 {d : Nat} {Q : Int → z_M → Prop} (l1 : Int) (l2 : Int) (l3 : Int) (l4 : Int) {V : z_M}
    (h : zI ((V 97 8) < l4) (Q l3 V) (zI ((z_and (z_shr l2 l4) 1) = 0) (z_Ex (z_MS d) 51 Q true 5 [some (.inr (.inr 97)), some (.inl l1), some (.inl l2), some (.inl l3), some (.inl (z_add l4 1))] [] 0 0 V) (zGu (0 ≤ l1 ∧ l1 < 6) (∀ x29 : Nat, x29 = z_rr true V 100 l1.toNat → zGu (z_kd x29 = 101) (zGu (0 ≤ l4 ∧ l4 < z_len' V x29) (∀ x32 : Int, x32 = V x29 l4.toNat → z_Ex (z_MS d) 51 Q true 5 [some (.inr (.inr 97)), some (.inl l1), some (.inl l2), some (.inl (z_or l3 x32)), some (.inl (z_add l4 1))] [] 0 0 V)))))) :
    z_Ex (z_MS d) 51 Q true 5 [some (.inr (.inr 97)), some (.inl l1), some (.inl l2), some (.inl l3), some (.inl l4)] [] 0 0 V := by
  refine ze_iload (pc := 5) zr_51_5 rfl ?_
  refine ze_aload_n (pc := 7) zr_51_7 rfl ?_
  refine ze_getfield (pc := 8) (v := .inl (V 97 8)) zr_51_8 rfl rfl ?_
  refine zq_icmp_gt (pc := 11) (t := 41) zr_51_11 (by decide) (z_toif h) (fun h => ?_) (fun h => ?_)
  · refine ze_iload_n (pc := 41) zr_51_41 rfl ?_
    exact zq_ret1 (pc := 42) zr_51_42 rfl h
  · refine ze_iload_n (pc := 14) zr_51_14 rfl ?_
    refine ze_iload (pc := 15) zr_51_15 rfl ?_
    refine ze_ishr (pc := 17) zr_51_17 ?_
    refine ze_iconst (pc := 18) zr_51_18 (by decide) ?_
    refine ze_iand (pc := 19) zr_51_19 ?_
    refine zq_if_eq (pc := 20) (t := 35) zr_51_20 (by decide) (z_toif h) (fun h => ?_) (fun h => ?_)
    · refine zq_iinc (pc := 35) (ls2 := [some (.inr (.inr 97)), some (.inl l1), some (.inl l2), some (.inl l3), some (.inl (z_add l4 1))]) zr_51_35 rfl rfl rfl ?_
      refine ze_goto (pc := 38) (t := 5) zr_51_38 (by decide) ?_
      exact h
    · refine ze_iload_n (pc := 23) zr_51_23 rfl ?_
      refine ze_aload_n (pc := 24) zr_51_24 rfl ?_
      refine ze_getfield (pc := 25) (v := .inr (.inr 100)) zr_51_25 rfl rfl ?_
      refine ze_iload_n (pc := 28) zr_51_28 rfl ?_
      refine z_gk h (fun g29 h => ?_)
      refine zl_aaload (pc := 29) zr_51_29 (by decide) rfl g29 h (fun x29 h => ?_)
      refine ze_iload (pc := 30) zr_51_30 rfl ?_
      refine z_gk h (fun k32 h => ?_)
      refine z_gk h (fun g32 h => ?_)
      refine zl_ialoadv (pc := 32) zr_51_32 k32 g32 h (fun x32 h => ?_)
      refine ze_ior (pc := 33) zr_51_33 ?_
      refine zq_istore_n (pc := 34) (ls2 := [some (.inr (.inr 97)), some (.inl l1), some (.inl l2), some (.inl (z_or l3 x32)), some (.inl l4)]) zr_51_34 rfl rfl ?_
      refine zq_iinc (pc := 35) (ls2 := [some (.inr (.inr 97)), some (.inl l1), some (.inl l2), some (.inl (z_or l3 x32)), some (.inl (z_add l4 1))]) zr_51_35 rfl rfl rfl ?_
      refine ze_goto (pc := 38) (t := 5) zr_51_38 (by decide) ?_
      exact h
theorem zb52 {d : Nat} {Q : Int → z_M → Prop} (a0 : Int) {V : z_M}
    (h : z_Ex (z_MS d) 52 Q true 2 [some (.inl a0), some (.inl 0)] [] 0 0 V) :
    z_MS (d + 1) 52 true [.inl a0] V Q := by
  show z_Ex (z_MS d) 52 Q true 0 [some (.inl a0), none] [] 0 0 V
  refine ze_iconst (pc := 0) zr_52_0 (by decide) ?_
  refine zq_istore_n (pc := 1) (ls2 := [some (.inl a0), some (.inl 0)]) zr_52_1 rfl rfl ?_
  exact h
theorem zb52_p2 {d : Nat} {Q : Int → z_M → Prop} (l0 : Int) (l1 : Int) {V : z_M}
    (h : zI (l1 < 13) (zI ((z_and (z_shr l0 l1) 1) = 0) (z_Ex (z_MS d) 52 Q true 2 [some (.inl l0), some (.inl (z_add l1 1))] [] 0 0 V) (Q l1 V)) (Q (-1) V)) :
    z_Ex (z_MS d) 52 Q true 2 [some (.inl l0), some (.inl l1)] [] 0 0 V := by
  refine ze_iload_n (pc := 2) zr_52_2 rfl ?_
  refine ze_bipush (pc := 3) zr_52_3 (by decide) ?_
  refine zq_icmp_ge (pc := 5) (t := 24) zr_52_5 (by decide) (z_toif h) (fun h => ?_) (fun h => ?_)
  · refine ze_iload_n (pc := 8) zr_52_8 rfl ?_
    refine ze_iload_n (pc := 9) zr_52_9 rfl ?_
    refine ze_ishr (pc := 10) zr_52_10 ?_
    refine ze_iconst (pc := 11) zr_52_11 (by decide) ?_
    refine ze_iand (pc := 12) zr_52_12 ?_
    refine zq_if_eq (pc := 13) (t := 18) zr_52_13 (by decide) (z_toif h) (fun h => ?_) (fun h => ?_)
    · refine zq_iinc (pc := 18) (ls2 := [some (.inl l0), some (.inl (z_add l1 1))]) zr_52_18 rfl rfl rfl ?_
      refine ze_goto (pc := 21) (t := 2) zr_52_21 (by decide) ?_
      exact h
    · refine ze_iload_n (pc := 16) zr_52_16 rfl ?_
      exact zq_ret1 (pc := 17) zr_52_17 rfl h
  · refine ze_iconst (pc := 24) zr_52_24 (by decide) ?_
    exact zq_ret1 (pc := 25) zr_52_25 rfl h
theorem zb53_97 {d : Nat} {Q : Int → z_M → Prop} (a0 : Int) {V : z_M}
    (h : zGu (0 ≤ a0 ∧ a0 < 6) (∀ x5 : Int, x5 = V 99 a0.toNat → z_Ex (z_MS d) 53 Q true 20 [some (.inr (.inr 97)), some (.inl a0), some (.inl (z_and x5 (V 97 7))), some (.inl 1), some (.inl 1), some (.inl 0)] [] 0 0 V)) :
    z_MS (d + 1) 53 true [.inr (.inr 97), .inl a0] V Q := by
  show z_Ex (z_MS d) 53 Q true 0 [some (.inr (.inr 97)), some (.inl a0), none, none, none, none] [] 0 0 V
  refine ze_aload_n (pc := 0) zr_53_0 rfl ?_
  refine ze_getfield (pc := 1) (v := .inr (.inr 99)) zr_53_1 rfl rfl ?_
  refine ze_iload_n (pc := 4) zr_53_4 rfl ?_
  refine z_gk h (fun g5 h => ?_)
  refine zl_iaload (pc := 5) zr_53_5 rfl rfl g5 h (fun x5 h => ?_)
  refine ze_aload_n (pc := 6) zr_53_6 rfl ?_
  refine ze_getfield (pc := 7) (v := .inl (V 97 7)) zr_53_7 rfl rfl ?_
  refine ze_iand (pc := 10) zr_53_10 ?_
  refine zq_istore_n (pc := 11) (ls2 := [some (.inr (.inr 97)), some (.inl a0), some (.inl (z_and x5 (V 97 7))), none, none, none]) zr_53_11 rfl rfl ?_
  refine ze_iconst (pc := 12) zr_53_12 (by decide) ?_
  refine zq_istore_n (pc := 13) (ls2 := [some (.inr (.inr 97)), some (.inl a0), some (.inl (z_and x5 (V 97 7))), some (.inl 1), none, none]) zr_53_13 rfl rfl ?_
  refine ze_iconst (pc := 14) zr_53_14 (by decide) ?_
  refine zq_istore (pc := 15) (ls2 := [some (.inr (.inr 97)), some (.inl a0), some (.inl (z_and x5 (V 97 7))), some (.inl 1), some (.inl 1), none]) zr_53_15 rfl rfl ?_
  refine ze_iconst (pc := 17) zr_53_17 (by decide) ?_
  refine zq_istore (pc := 18) (ls2 := [some (.inr (.inr 97)), some (.inl a0), some (.inl (z_and x5 (V 97 7))), some (.inl 1), some (.inl 1), some (.inl 0)]) zr_53_18 rfl rfl ?_
  exact h
theorem zb53_97_p20 {d : Nat} {Q : Int → z_M → Prop} (l1 : Int) (l2 : Int) (l3 : Int) (l4 : Int) (l5 : Int) {V : z_M}
    (h : zI (l5 < 13) (zI (l4 = 0) (Q l3 V) (z_MS d 51 true [.inr (.inr 97), .inl l1, .inl l4] V (fun z2101 V2101 => z_Ex (z_MS d) 53 Q true 20 [some (.inr (.inr 97)), some (.inl l1), some (.inl l2), some (.inl (z_or l3 (z_and (z_and z2101 l2) (z_xor l3 (-1))))), some (.inl (z_and (z_and z2101 l2) (z_xor l3 (-1)))), some (.inl (z_add l5 1))] [] 0 0 V2101))) (Q l3 V)) :
    z_Ex (z_MS d) 53 Q true 20 [some (.inr (.inr 97)), some (.inl l1), some (.inl l2), some (.inl l3), some (.inl l4), some (.inl l5)] [] 0 0 V := by
  refine ze_iload (pc := 20) zr_53_20 rfl ?_
  refine ze_bipush (pc := 22) zr_53_22 (by decide) ?_
  refine zq_icmp_ge (pc := 24) (t := 58) zr_53_24 (by decide) (z_toif h) (fun h => ?_) (fun h => ?_)
  · refine ze_iload (pc := 27) zr_53_27 rfl ?_
    refine zq_if_eq (pc := 29) (t := 58) zr_53_29 (by decide) (z_toif h) (fun h => ?_) (fun h => ?_)
    · refine ze_iload_n (pc := 58) zr_53_58 rfl ?_
      exact zq_ret1 (pc := 59) zr_53_59 rfl h
    · refine ze_aload_n (pc := 32) zr_53_32 rfl ?_
      refine ze_iload_n (pc := 33) zr_53_33 rfl ?_
      refine ze_iload (pc := 34) zr_53_34 rfl ?_
      refine zq_callV1 (pc := 36) (as := [.inr (.inr 97), .inl l1, .inl l4]) (r := []) (kc2 := 0) (ks2 := 0) zr_53_36 rfl (by decide) rfl rfl rfl rfl ⟨rfl, rfl⟩ ⟨rfl, rfl, rfl⟩ h (fun z2101 V2101 h => ?_)
      refine ze_iload_n (pc := 39) zr_53_39 rfl ?_
      refine ze_iand (pc := 40) zr_53_40 ?_
      refine ze_iload_n (pc := 41) zr_53_41 rfl ?_
      refine ze_iconst (pc := 42) zr_53_42 (by decide) ?_
      refine ze_ixor (pc := 43) zr_53_43 ?_
      refine ze_iand (pc := 44) zr_53_44 ?_
      refine zq_istore (pc := 45) (ls2 := [some (.inr (.inr 97)), some (.inl l1), some (.inl l2), some (.inl l3), some (.inl (z_and (z_and z2101 l2) (z_xor l3 (-1)))), some (.inl l5)]) zr_53_45 rfl rfl ?_
      refine ze_iload_n (pc := 47) zr_53_47 rfl ?_
      refine ze_iload (pc := 48) zr_53_48 rfl ?_
      refine ze_ior (pc := 50) zr_53_50 ?_
      refine zq_istore_n (pc := 51) (ls2 := [some (.inr (.inr 97)), some (.inl l1), some (.inl l2), some (.inl (z_or l3 (z_and (z_and z2101 l2) (z_xor l3 (-1))))), some (.inl (z_and (z_and z2101 l2) (z_xor l3 (-1)))), some (.inl l5)]) zr_53_51 rfl rfl ?_
      refine zq_iinc (pc := 52) (ls2 := [some (.inr (.inr 97)), some (.inl l1), some (.inl l2), some (.inl (z_or l3 (z_and (z_and z2101 l2) (z_xor l3 (-1))))), some (.inl (z_and (z_and z2101 l2) (z_xor l3 (-1)))), some (.inl (z_add l5 1))]) zr_53_52 rfl rfl rfl ?_
      refine ze_goto (pc := 55) (t := 20) zr_53_55 (by decide) ?_
      exact h
  · refine ze_iload_n (pc := 58) zr_53_58 rfl ?_
    exact zq_ret1 (pc := 59) zr_53_59 rfl h
theorem zb54_97 {d : Nat} {Q : Int → z_M → Prop} (a0 : Int) (a1 : Int) (a2 : Int) {V : z_M}
    (h : zGu (0 ≤ a0 ∧ a0 < 6) (∀ x5 : Int, x5 = V 99 a0.toNat → z_Ex (z_MS d) 54 Q true 25 [some (.inr (.inr 97)), some (.inl a0), some (.inl a1), some (.inl a2), some (.inl (z_and x5 (V 97 7))), some (.inl (z_shl 1 a1)), some (.inl (z_shl 1 a1)), some (.inl 0)] [] 0 0 V)) :
    z_MS (d + 1) 54 true [.inr (.inr 97), .inl a0, .inl a1, .inl a2] V Q := by
  show z_Ex (z_MS d) 54 Q true 0 [some (.inr (.inr 97)), some (.inl a0), some (.inl a1), some (.inl a2), none, none, none, none] [] 0 0 V
  refine ze_aload_n (pc := 0) zr_54_0 rfl ?_
  refine ze_getfield (pc := 1) (v := .inr (.inr 99)) zr_54_1 rfl rfl ?_
  refine ze_iload_n (pc := 4) zr_54_4 rfl ?_
  refine z_gk h (fun g5 h => ?_)
  refine zl_iaload (pc := 5) zr_54_5 rfl rfl g5 h (fun x5 h => ?_)
  refine ze_aload_n (pc := 6) zr_54_6 rfl ?_
  refine ze_getfield (pc := 7) (v := .inl (V 97 7)) zr_54_7 rfl rfl ?_
  refine ze_iand (pc := 10) zr_54_10 ?_
  refine zq_istore (pc := 11) (ls2 := [some (.inr (.inr 97)), some (.inl a0), some (.inl a1), some (.inl a2), some (.inl (z_and x5 (V 97 7))), none, none, none]) zr_54_11 rfl rfl ?_
  refine ze_iconst (pc := 13) zr_54_13 (by decide) ?_
  refine ze_iload_n (pc := 14) zr_54_14 rfl ?_
  refine ze_ishl (pc := 15) zr_54_15 ?_
  refine zq_istore (pc := 16) (ls2 := [some (.inr (.inr 97)), some (.inl a0), some (.inl a1), some (.inl a2), some (.inl (z_and x5 (V 97 7))), some (.inl (z_shl 1 a1)), none, none]) zr_54_16 rfl rfl ?_
  refine ze_iload (pc := 18) zr_54_18 rfl ?_
  refine zq_istore (pc := 20) (ls2 := [some (.inr (.inr 97)), some (.inl a0), some (.inl a1), some (.inl a2), some (.inl (z_and x5 (V 97 7))), some (.inl (z_shl 1 a1)), some (.inl (z_shl 1 a1)), none]) zr_54_20 rfl rfl ?_
  refine ze_iconst (pc := 22) zr_54_22 (by decide) ?_
  refine zq_istore (pc := 23) (ls2 := [some (.inr (.inr 97)), some (.inl a0), some (.inl a1), some (.inl a2), some (.inl (z_and x5 (V 97 7))), some (.inl (z_shl 1 a1)), some (.inl (z_shl 1 a1)), some (.inl 0)]) zr_54_23 rfl rfl ?_
  exact h
theorem zb54_97_p25 {d : Nat} {Q : Int → z_M → Prop} (l1 : Int) (o2 : Option z_V) (l3 : Int) (l4 : Int) (l5 : Int) (l6 : Int) (l7 : Int) {V : z_M}
    (h : zI (l7 < 13) (zI (l6 = 0) (Q (-1) V) (zI ((z_and l6 l3) = 0) (z_MS d 51 true [.inr (.inr 97), .inl l1, .inl l6] V (fun z2601 V2601 => z_Ex (z_MS d) 54 Q true 25 [some (.inr (.inr 97)), some (.inl l1), o2, some (.inl l3), some (.inl l4), some (.inl (z_or l5 (z_and (z_and z2601 l4) (z_xor l5 (-1))))), some (.inl (z_and (z_and z2601 l4) (z_xor l5 (-1)))), some (.inl (z_add l7 1))] [] 0 0 V2601)) (z_MS d 52 true [.inl (z_and l6 l3)] V (fun z2602 V2602 => Q z2602 V2602)))) (Q (-1) V)) :
    z_Ex (z_MS d) 54 Q true 25 [some (.inr (.inr 97)), some (.inl l1), o2, some (.inl l3), some (.inl l4), some (.inl l5), some (.inl l6), some (.inl l7)] [] 0 0 V := by
  refine ze_iload (pc := 25) zr_54_25 rfl ?_
  refine ze_bipush (pc := 27) zr_54_27 (by decide) ?_
  refine zq_icmp_ge (pc := 29) (t := 82) zr_54_29 (by decide) (z_toif h) (fun h => ?_) (fun h => ?_)
  · refine ze_iload (pc := 32) zr_54_32 rfl ?_
    refine zq_if_eq (pc := 34) (t := 82) zr_54_34 (by decide) (z_toif h) (fun h => ?_) (fun h => ?_)
    · refine ze_iconst (pc := 82) zr_54_82 (by decide) ?_
      exact zq_ret1 (pc := 83) zr_54_83 rfl h
    · refine ze_iload (pc := 37) zr_54_37 rfl ?_
      refine ze_iload_n (pc := 39) zr_54_39 rfl ?_
      refine ze_iand (pc := 40) zr_54_40 ?_
      refine zq_if_eq (pc := 41) (t := 52) zr_54_41 (by decide) (z_toif h) (fun h => ?_) (fun h => ?_)
      · refine ze_aload_n (pc := 52) zr_54_52 rfl ?_
        refine ze_iload_n (pc := 53) zr_54_53 rfl ?_
        refine ze_iload (pc := 54) zr_54_54 rfl ?_
        refine zq_callV1 (pc := 56) (as := [.inr (.inr 97), .inl l1, .inl l6]) (r := []) (kc2 := 0) (ks2 := 0) zr_54_56 rfl (by decide) rfl rfl rfl rfl ⟨rfl, rfl⟩ ⟨rfl, rfl, rfl⟩ h (fun z2601 V2601 h => ?_)
        refine ze_iload (pc := 59) zr_54_59 rfl ?_
        refine ze_iand (pc := 61) zr_54_61 ?_
        refine ze_iload (pc := 62) zr_54_62 rfl ?_
        refine ze_iconst (pc := 64) zr_54_64 (by decide) ?_
        refine ze_ixor (pc := 65) zr_54_65 ?_
        refine ze_iand (pc := 66) zr_54_66 ?_
        refine zq_istore (pc := 67) (ls2 := [some (.inr (.inr 97)), some (.inl l1), o2, some (.inl l3), some (.inl l4), some (.inl l5), some (.inl (z_and (z_and z2601 l4) (z_xor l5 (-1)))), some (.inl l7)]) zr_54_67 rfl rfl ?_
        refine ze_iload (pc := 69) zr_54_69 rfl ?_
        refine ze_iload (pc := 71) zr_54_71 rfl ?_
        refine ze_ior (pc := 73) zr_54_73 ?_
        refine zq_istore (pc := 74) (ls2 := [some (.inr (.inr 97)), some (.inl l1), o2, some (.inl l3), some (.inl l4), some (.inl (z_or l5 (z_and (z_and z2601 l4) (z_xor l5 (-1))))), some (.inl (z_and (z_and z2601 l4) (z_xor l5 (-1)))), some (.inl l7)]) zr_54_74 rfl rfl ?_
        refine zq_iinc (pc := 76) (ls2 := [some (.inr (.inr 97)), some (.inl l1), o2, some (.inl l3), some (.inl l4), some (.inl (z_or l5 (z_and (z_and z2601 l4) (z_xor l5 (-1))))), some (.inl (z_and (z_and z2601 l4) (z_xor l5 (-1)))), some (.inl (z_add l7 1))]) zr_54_76 rfl rfl rfl ?_
        refine ze_goto (pc := 79) (t := 25) zr_54_79 (by decide) ?_
        exact h
      · refine ze_iload (pc := 44) zr_54_44 rfl ?_
        refine ze_iload_n (pc := 46) zr_54_46 rfl ?_
        refine ze_iand (pc := 47) zr_54_47 ?_
        refine zq_callS1 (pc := 48) (as := [.inl (z_and l6 l3)]) (r := []) (kc2 := 0) (ks2 := 0) zr_54_48 rfl rfl rfl rfl ⟨rfl, rfl⟩ ⟨rfl, rfl, rfl⟩ h (fun z2602 V2602 h => ?_)
        exact zq_ret1 (pc := 51) zr_54_51 rfl h
  · refine ze_iconst (pc := 82) zr_54_82 (by decide) ?_
    exact zq_ret1 (pc := 83) zr_54_83 rfl h
theorem zb55_97 {d : Nat} {Q : Int → z_M → Prop} (a0 : Int) {V : z_M}
    (h : z_MS d 54 true [.inr (.inr 97), .inl a0, .inl 0, .inl (z_shl 1 (V 97 8))] V (fun z1 V1 => Q (if z1 = (V1 97 8) then 1 else 0) V1)) :
    z_MS (d + 1) 55 true [.inr (.inr 97), .inl a0] V Q := by
  show z_Ex (z_MS d) 55 Q true 0 [some (.inr (.inr 97)), some (.inl a0)] [] 0 0 V
  refine ze_aload_n (pc := 0) zr_55_0 rfl ?_
  refine ze_iload_n (pc := 1) zr_55_1 rfl ?_
  refine ze_iconst (pc := 2) zr_55_2 (by decide) ?_
  refine ze_iconst (pc := 3) zr_55_3 (by decide) ?_
  refine ze_aload_n (pc := 4) zr_55_4 rfl ?_
  refine ze_getfield (pc := 5) (v := .inl (V 97 8)) zr_55_5 rfl rfl ?_
  refine ze_ishl (pc := 8) zr_55_8 ?_
  refine zq_callV1 (pc := 9) (as := [.inr (.inr 97), .inl a0, .inl 0, .inl (z_shl 1 (V 97 8))]) (r := []) (kc2 := 0) (ks2 := 0) zr_55_9 rfl (by decide) rfl rfl rfl rfl ⟨rfl, rfl⟩ ⟨rfl, rfl, rfl⟩ h (fun z1 V1 h => ?_)
  refine ze_aload_n (pc := 12) zr_55_12 rfl ?_
  refine ze_getfield (pc := 13) (v := .inl (V1 97 8)) zr_55_13 rfl rfl ?_
  have j16 : z_Ex (z_MS d) 55 Q true 24 [some (.inr (.inr 97)), some (.inl a0)] [.inl (if z1 = (V1 97 8) then 1 else 0)] 0 0 V1 := by
    exact zq_ret4 (pc := 24) zr_55_24 rfl (by (repeat' split) <;> decide) h
  refine ze_icmp_ne (pc := 16) (t := 23) zr_55_16 (by decide) (fun hc => ?_) (fun hc => ?_)
  · rw [if_pos (show z1 = (V1 97 8) from hc)] at j16
    refine ze_iconst (pc := 19) zr_55_19 (by decide) ?_
    refine ze_goto (pc := 20) (t := 24) zr_55_20 (by decide) ?_
    exact j16
  · rw [if_neg (show ¬ (z1 = (V1 97 8)) from hc)] at j16
    refine ze_iconst (pc := 23) zr_55_23 (by decide) ?_
    exact j16
theorem zb56_97 {d : Nat} {Q : Int → z_M → Prop} (a0 : Int) (a1 : Int) {V : z_M}
    (h : zGu (0 ≤ a0 ∧ a0 < 6) (∀ x5 : Int, x5 = V 99 a0.toNat → ∀ W1, W1 = z_up V 114 0 1 → z_Ex (z_MS d) 56 Q true 28 [some (.inr (.inr 97)), some (.inl a0), some (.inl a1), some (.inl (z_and x5 (V 97 7))), some (.inl 1), some (.inl 0), some (.inl 1), none] [] 0 0 W1)) :
    z_MS (d + 1) 56 true [.inr (.inr 97), .inl a0, .inl a1] V Q := by
  show z_Ex (z_MS d) 56 Q true 0 [some (.inr (.inr 97)), some (.inl a0), some (.inl a1), none, none, none, none, none] [] 0 0 V
  refine ze_aload_n (pc := 0) zr_56_0 rfl ?_
  refine ze_getfield (pc := 1) (v := .inr (.inr 99)) zr_56_1 rfl rfl ?_
  refine ze_iload_n (pc := 4) zr_56_4 rfl ?_
  refine z_gk h (fun g5 h => ?_)
  refine zl_iaload (pc := 5) zr_56_5 rfl rfl g5 h (fun x5 h => ?_)
  refine ze_aload_n (pc := 6) zr_56_6 rfl ?_
  refine ze_getfield (pc := 7) (v := .inl (V 97 7)) zr_56_7 rfl rfl ?_
  refine ze_iand (pc := 10) zr_56_10 ?_
  refine zq_istore_n (pc := 11) (ls2 := [some (.inr (.inr 97)), some (.inl a0), some (.inl a1), some (.inl (z_and x5 (V 97 7))), none, none, none, none]) zr_56_11 rfl rfl ?_
  refine ze_iconst (pc := 12) zr_56_12 (by decide) ?_
  refine zq_istore (pc := 13) (ls2 := [some (.inr (.inr 97)), some (.inl a0), some (.inl a1), some (.inl (z_and x5 (V 97 7))), some (.inl 1), none, none, none]) zr_56_13 rfl rfl ?_
  refine ze_iconst (pc := 15) zr_56_15 (by decide) ?_
  refine zq_istore (pc := 16) (ls2 := [some (.inr (.inr 97)), some (.inl a0), some (.inl a1), some (.inl (z_and x5 (V 97 7))), some (.inl 1), some (.inl 0), none, none]) zr_56_16 rfl rfl ?_
  refine ze_aload_n (pc := 18) zr_56_18 rfl ?_
  refine ze_getfield (pc := 19) (v := .inr (.inr 114)) zr_56_19 rfl rfl ?_
  refine ze_iconst (pc := 22) zr_56_22 (by decide) ?_
  refine ze_iconst (pc := 23) zr_56_23 (by decide) ?_
  refine zq_iastore (pc := 24) zr_56_24 (by decide) rfl (by decide) rfl h (fun W1 h => ?_)
  refine ze_iconst (pc := 25) zr_56_25 (by decide) ?_
  refine zq_istore (pc := 26) (ls2 := [some (.inr (.inr 97)), some (.inl a0), some (.inl a1), some (.inl (z_and x5 (V 97 7))), some (.inl 1), some (.inl 0), some (.inl 1), none]) zr_56_26 rfl rfl ?_
  exact h
theorem zb56_97_p28 {d : Nat} {Q : Int → z_M → Prop} (l1 : Int) (l2 : Int) (l3 : Int) (l4 : Int) (l5 : Int) (l6 : Int) {V : z_M}
    (h : zI (l6 < 13) (zI ((z_and (z_shr l4 l2) 1) = 0) (zGu (0 ≤ (z_sub l6 1) ∧ (z_sub l6 1) < 13) (∀ x60 : Int, x60 = V 114 (z_sub l6 1).toNat → z_MS d 51 true [.inr (.inr 97), .inl l1, .inl x60] V (fun z2903 V2903 => zGu (0 ≤ l6 ∧ l6 < 13) (∀ W2903, W2903 = z_up V2903 114 l6.toNat (z_and (z_and z2903 l3) (z_xor l4 (-1))) → zGu (0 ≤ l6 ∧ l6 < 13) (∀ x80 : Int, x80 = W2903 114 l6.toNat → z_Ex (z_MS d) 56 Q true 28 [some (.inr (.inr 97)), some (.inl l1), some (.inl l2), some (.inl l3), some (.inl (z_or l4 x80)), some (.inl l6), some (.inl (z_add l6 1)), none] [] 0 0 W2903))))) (zI ((z_and (z_shr l4 l2) 1) = 0) (Q (-1) V) (zGu (0 ≤ l5 ∧ l5 < 13) (∀ W2902, W2902 = z_up V 114 l5.toNat (z_shl 1 l2) → z_MS d 57 true [.inr (.inr 97), .inl l1, .inl l5] W2902 (fun z2902 V2902 => z_Ex (z_MS d) 56 Q true 128 [some (.inr (.inr 97)), some (.inl l1), some (.inl l2), some (.inl l3), some (.inl l4), some (.inl l5), some (.inl 0), some (.inl 1)] [] 0 0 V2902))))) (zI ((z_and (z_shr l4 l2) 1) = 0) (Q (-1) V) (zGu (0 ≤ l5 ∧ l5 < 13) (∀ W2901, W2901 = z_up V 114 l5.toNat (z_shl 1 l2) → z_MS d 57 true [.inr (.inr 97), .inl l1, .inl l5] W2901 (fun z2901 V2901 => z_Ex (z_MS d) 56 Q true 128 [some (.inr (.inr 97)), some (.inl l1), some (.inl l2), some (.inl l3), some (.inl l4), some (.inl l5), some (.inl 0), some (.inl 1)] [] 0 0 V2901))))) :
    z_Ex (z_MS d) 56 Q true 28 [some (.inr (.inr 97)), some (.inl l1), some (.inl l2), some (.inl l3), some (.inl l4), some (.inl l5), some (.inl l6), none] [] 0 0 V := by
  refine ze_iload (pc := 28) zr_56_28 rfl ?_
  refine ze_bipush (pc := 30) zr_56_30 (by decide) ?_
  refine zq_icmp_ge (pc := 32) (t := 94) zr_56_32 (by decide) (z_toif h) (fun h => ?_) (fun h => ?_)
  · refine ze_iload (pc := 35) zr_56_35 rfl ?_
    refine ze_iload_n (pc := 37) zr_56_37 rfl ?_
    refine ze_ishr (pc := 38) zr_56_38 ?_
    refine ze_iconst (pc := 39) zr_56_39 (by decide) ?_
    refine ze_iand (pc := 40) zr_56_40 ?_
    refine zq_if_ne (pc := 41) (t := 94) zr_56_41 (by decide) (z_toif h) (fun h => ?_) (fun h => ?_)
    · refine ze_aload_n (pc := 44) zr_56_44 rfl ?_
      refine ze_getfield (pc := 45) (v := .inr (.inr 114)) zr_56_45 rfl rfl ?_
      refine ze_iload (pc := 48) zr_56_48 rfl ?_
      refine ze_aload_n (pc := 50) zr_56_50 rfl ?_
      refine ze_iload_n (pc := 51) zr_56_51 rfl ?_
      refine ze_aload_n (pc := 52) zr_56_52 rfl ?_
      refine ze_getfield (pc := 53) (v := .inr (.inr 114)) zr_56_53 rfl rfl ?_
      refine ze_iload (pc := 56) zr_56_56 rfl ?_
      refine ze_iconst (pc := 58) zr_56_58 (by decide) ?_
      refine ze_isub (pc := 59) zr_56_59 ?_
      refine z_gk h (fun g60 h => ?_)
      refine zl_iaload (pc := 60) zr_56_60 rfl rfl g60 h (fun x60 h => ?_)
      refine zq_callV1 (pc := 61) (as := [.inr (.inr 97), .inl l1, .inl x60]) (r := [.inl l6, .inr (.inr 114)]) (kc2 := 0) (ks2 := 0) zr_56_61 rfl (by decide) rfl rfl rfl rfl ⟨rfl, rfl⟩ ⟨rfl, rfl, rfl⟩ h (fun z2903 V2903 h => ?_)
      refine ze_iload_n (pc := 64) zr_56_64 rfl ?_
      refine ze_iand (pc := 65) zr_56_65 ?_
      refine ze_iload (pc := 66) zr_56_66 rfl ?_
      refine ze_iconst (pc := 68) zr_56_68 (by decide) ?_
      refine ze_ixor (pc := 69) zr_56_69 ?_
      refine ze_iand (pc := 70) zr_56_70 ?_
      refine z_gk h (fun g71 h => ?_)
      refine zq_iastore (pc := 71) zr_56_71 (by decide) rfl g71 rfl h (fun W2903 h => ?_)
      refine ze_iload (pc := 72) zr_56_72 rfl ?_
      refine ze_aload_n (pc := 74) zr_56_74 rfl ?_
      refine ze_getfield (pc := 75) (v := .inr (.inr 114)) zr_56_75 rfl rfl ?_
      refine ze_iload (pc := 78) zr_56_78 rfl ?_
      refine z_gk h (fun g80 h => ?_)
      refine zl_iaload (pc := 80) zr_56_80 rfl rfl g80 h (fun x80 h => ?_)
      refine ze_ior (pc := 81) zr_56_81 ?_
      refine zq_istore (pc := 82) (ls2 := [some (.inr (.inr 97)), some (.inl l1), some (.inl l2), some (.inl l3), some (.inl (z_or l4 x80)), some (.inl l5), some (.inl l6), none]) zr_56_82 rfl rfl ?_
      refine ze_iload (pc := 84) zr_56_84 rfl ?_
      refine zq_istore (pc := 86) (ls2 := [some (.inr (.inr 97)), some (.inl l1), some (.inl l2), some (.inl l3), some (.inl (z_or l4 x80)), some (.inl l6), some (.inl l6), none]) zr_56_86 rfl rfl ?_
      refine zq_iinc (pc := 88) (ls2 := [some (.inr (.inr 97)), some (.inl l1), some (.inl l2), some (.inl l3), some (.inl (z_or l4 x80)), some (.inl l6), some (.inl (z_add l6 1)), none]) zr_56_88 rfl rfl rfl ?_
      refine ze_goto (pc := 91) (t := 28) zr_56_91 (by decide) ?_
      exact h
    · refine ze_iload (pc := 94) zr_56_94 rfl ?_
      refine ze_iload_n (pc := 96) zr_56_96 rfl ?_
      refine ze_ishr (pc := 97) zr_56_97 ?_
      refine ze_iconst (pc := 98) zr_56_98 (by decide) ?_
      refine ze_iand (pc := 99) zr_56_99 ?_
      refine zq_if_ne (pc := 100) (t := 105) zr_56_100 (by decide) (z_toif h) (fun h => ?_) (fun h => ?_)
      · refine ze_iconst (pc := 103) zr_56_103 (by decide) ?_
        exact zq_ret1 (pc := 104) zr_56_104 rfl h
      · refine ze_aload_n (pc := 105) zr_56_105 rfl ?_
        refine ze_getfield (pc := 106) (v := .inr (.inr 114)) zr_56_106 rfl rfl ?_
        refine ze_iload (pc := 109) zr_56_109 rfl ?_
        refine ze_iconst (pc := 111) zr_56_111 (by decide) ?_
        refine ze_iload_n (pc := 112) zr_56_112 rfl ?_
        refine ze_ishl (pc := 113) zr_56_113 ?_
        refine z_gk h (fun g114 h => ?_)
        refine zq_iastore (pc := 114) zr_56_114 (by decide) rfl g114 rfl h (fun W2902 h => ?_)
        refine ze_aload_n (pc := 115) zr_56_115 rfl ?_
        refine ze_iload_n (pc := 116) zr_56_116 rfl ?_
        refine ze_iload (pc := 117) zr_56_117 rfl ?_
        refine zq_callV0 (pc := 119) (as := [.inr (.inr 97), .inl l1, .inl l5]) (r := []) (kc2 := 0) (ks2 := 0) zr_56_119 rfl (by decide) rfl rfl rfl rfl ⟨rfl, rfl⟩ rfl h (fun z2902 V2902 h => ?_)
        refine ze_iconst (pc := 122) zr_56_122 (by decide) ?_
        refine zq_istore (pc := 123) (ls2 := [some (.inr (.inr 97)), some (.inl l1), some (.inl l2), some (.inl l3), some (.inl l4), some (.inl l5), some (.inl 0), none]) zr_56_123 rfl rfl ?_
        refine ze_iconst (pc := 125) zr_56_125 (by decide) ?_
        refine zq_istore (pc := 126) (ls2 := [some (.inr (.inr 97)), some (.inl l1), some (.inl l2), some (.inl l3), some (.inl l4), some (.inl l5), some (.inl 0), some (.inl 1)]) zr_56_126 rfl rfl ?_
        exact h
  · refine ze_iload (pc := 94) zr_56_94 rfl ?_
    refine ze_iload_n (pc := 96) zr_56_96 rfl ?_
    refine ze_ishr (pc := 97) zr_56_97 ?_
    refine ze_iconst (pc := 98) zr_56_98 (by decide) ?_
    refine ze_iand (pc := 99) zr_56_99 ?_
    refine zq_if_ne (pc := 100) (t := 105) zr_56_100 (by decide) (z_toif h) (fun h => ?_) (fun h => ?_)
    · refine ze_iconst (pc := 103) zr_56_103 (by decide) ?_
      exact zq_ret1 (pc := 104) zr_56_104 rfl h
    · refine ze_aload_n (pc := 105) zr_56_105 rfl ?_
      refine ze_getfield (pc := 106) (v := .inr (.inr 114)) zr_56_106 rfl rfl ?_
      refine ze_iload (pc := 109) zr_56_109 rfl ?_
      refine ze_iconst (pc := 111) zr_56_111 (by decide) ?_
      refine ze_iload_n (pc := 112) zr_56_112 rfl ?_
      refine ze_ishl (pc := 113) zr_56_113 ?_
      refine z_gk h (fun g114 h => ?_)
      refine zq_iastore (pc := 114) zr_56_114 (by decide) rfl g114 rfl h (fun W2901 h => ?_)
      refine ze_aload_n (pc := 115) zr_56_115 rfl ?_
      refine ze_iload_n (pc := 116) zr_56_116 rfl ?_
      refine ze_iload (pc := 117) zr_56_117 rfl ?_
      refine zq_callV0 (pc := 119) (as := [.inr (.inr 97), .inl l1, .inl l5]) (r := []) (kc2 := 0) (ks2 := 0) zr_56_119 rfl (by decide) rfl rfl rfl rfl ⟨rfl, rfl⟩ rfl h (fun z2901 V2901 h => ?_)
      refine ze_iconst (pc := 122) zr_56_122 (by decide) ?_
      refine zq_istore (pc := 123) (ls2 := [some (.inr (.inr 97)), some (.inl l1), some (.inl l2), some (.inl l3), some (.inl l4), some (.inl l5), some (.inl 0), none]) zr_56_123 rfl rfl ?_
      refine ze_iconst (pc := 125) zr_56_125 (by decide) ?_
      refine zq_istore (pc := 126) (ls2 := [some (.inr (.inr 97)), some (.inl l1), some (.inl l2), some (.inl l3), some (.inl l4), some (.inl l5), some (.inl 0), some (.inl 1)]) zr_56_126 rfl rfl ?_
      exact h
theorem zb56_97_p128 {d : Nat} {Q : Int → z_M → Prop} (l1 : Int) (o2 : Option z_V) (o3 : Option z_V) (o4 : Option z_V) (l5 : Int) (l6 : Int) (l7 : Int) {V : z_M}
    (h : zI (l5 < l7) (Q l5 V) (zGu (0 ≤ l7 ∧ l7 < 13) (∀ x142 : Int, x142 = V 114 l7.toNat → zGu (0 ≤ l1 ∧ l1 < 6) (∀ x148 : Nat, x148 = z_rr true V 100 l1.toNat → zGu (z_kd x148 = 101) (zGu (0 ≤ l6 ∧ l6 < z_len' V x148) (∀ x151 : Int, x151 = V x148 l6.toNat → z_MS d 52 true [.inl (z_and x142 x151)] V (fun z12901 V12901 => zGu (0 ≤ (z_sub l7 1) ∧ (z_sub l7 1) < 12) (∀ W12901, W12901 = z_up V12901 116 (z_sub l7 1).toNat (z_sub (z_max 0 z12901) 1) → z_Ex (z_MS d) 56 Q true 128 [some (.inr (.inr 97)), some (.inl l1), o2, o3, o4, some (.inl l5), some (.inl (z_max 0 z12901)), some (.inl (z_add l7 1))] [] 0 0 W12901)))))))) :
    z_Ex (z_MS d) 56 Q true 128 [some (.inr (.inr 97)), some (.inl l1), o2, o3, o4, some (.inl l5), some (.inl l6), some (.inl l7)] [] 0 0 V := by
  refine ze_iload (pc := 128) zr_56_128 rfl ?_
  refine ze_iload (pc := 130) zr_56_130 rfl ?_
  refine zq_icmp_gt (pc := 132) (t := 180) zr_56_132 (by decide) (z_toif h) (fun h => ?_) (fun h => ?_)
  · refine ze_iload (pc := 180) zr_56_180 rfl ?_
    exact zq_ret1 (pc := 182) zr_56_182 rfl h
  · refine ze_iconst (pc := 135) zr_56_135 (by decide) ?_
    refine ze_aload_n (pc := 136) zr_56_136 rfl ?_
    refine ze_getfield (pc := 137) (v := .inr (.inr 114)) zr_56_137 rfl rfl ?_
    refine ze_iload (pc := 140) zr_56_140 rfl ?_
    refine z_gk h (fun g142 h => ?_)
    refine zl_iaload (pc := 142) zr_56_142 rfl rfl g142 h (fun x142 h => ?_)
    refine ze_aload_n (pc := 143) zr_56_143 rfl ?_
    refine ze_getfield (pc := 144) (v := .inr (.inr 100)) zr_56_144 rfl rfl ?_
    refine ze_iload_n (pc := 147) zr_56_147 rfl ?_
    refine z_gk h (fun g148 h => ?_)
    refine zl_aaload (pc := 148) zr_56_148 (by decide) rfl g148 h (fun x148 h => ?_)
    refine ze_iload (pc := 149) zr_56_149 rfl ?_
    refine z_gk h (fun k151 h => ?_)
    refine z_gk h (fun g151 h => ?_)
    refine zl_ialoadv (pc := 151) zr_56_151 k151 g151 h (fun x151 h => ?_)
    refine ze_iand (pc := 152) zr_56_152 ?_
    refine zq_callS1 (pc := 153) (as := [.inl (z_and x142 x151)]) (r := [.inl 0]) (kc2 := 0) (ks2 := 0) zr_56_153 rfl rfl rfl rfl ⟨rfl, rfl⟩ ⟨rfl, rfl, rfl⟩ h (fun z12901 V12901 h => ?_)
    refine zq_max (pc := 156) zr_56_156 (Nat.le_of_ble_eq_true rfl) ?_
    refine zq_istore (pc := 159) (ls2 := [some (.inr (.inr 97)), some (.inl l1), o2, o3, o4, some (.inl l5), some (.inl (z_max 0 z12901)), some (.inl l7)]) zr_56_159 rfl rfl ?_
    refine ze_aload_n (pc := 161) zr_56_161 rfl ?_
    refine ze_getfield (pc := 162) (v := .inr (.inr 116)) zr_56_162 rfl rfl ?_
    refine ze_iload (pc := 165) zr_56_165 rfl ?_
    refine ze_iconst (pc := 167) zr_56_167 (by decide) ?_
    refine ze_isub (pc := 168) zr_56_168 ?_
    refine ze_iload (pc := 169) zr_56_169 rfl ?_
    refine ze_iconst (pc := 171) zr_56_171 (by decide) ?_
    refine ze_isub (pc := 172) zr_56_172 ?_
    refine z_gk h (fun g173 h => ?_)
    refine zq_iastore (pc := 173) zr_56_173 (by decide) rfl g173 rfl h (fun W12901 h => ?_)
    refine zq_iinc (pc := 174) (ls2 := [some (.inr (.inr 97)), some (.inl l1), o2, o3, o4, some (.inl l5), some (.inl (z_max 0 z12901)), some (.inl (z_add l7 1))]) zr_56_174 rfl rfl rfl ?_
    refine ze_goto (pc := 177) (t := 128) zr_56_177 (by decide) ?_
    exact h
