/-! blocks of rows: printed by a program (blk2.py) -/
theorem zb224_141 {d : Nat} {Q : Int → z_M → Prop}  {V : z_M}
    (h : z_Ex (z_MS d) 224 Q true 4 [some (.inr (.inr 141)), some (.inl 0), some (.inl 0)] [] 0 0 V) :
    z_MS (d + 1) 224 true [.inr (.inr 141)] V Q := by
  show z_Ex (z_MS d) 224 Q true 0 [some (.inr (.inr 141)), none, none] [] 0 0 V
  refine ze_iconst (pc := 0) zr_224_0 (by decide) ?_
  refine zq_istore_n (pc := 1) (ls2 := [some (.inr (.inr 141)), some (.inl 0), none]) zr_224_1 rfl rfl ?_
  refine ze_iconst (pc := 2) zr_224_2 (by decide) ?_
  refine zq_istore_n (pc := 3) (ls2 := [some (.inr (.inr 141)), some (.inl 0), some (.inl 0)]) zr_224_3 rfl rfl ?_
  exact h
theorem zb224_141_p4 {d : Nat} {Q : Int → z_M → Prop} (l1 : Int) (l2 : Int) {V : z_M}
    (h : zI (l2 < (V 143 1)) (zGu (0 ≤ l2 ∧ l2 < 6) (∀ x19 : Int, x19 = V 162 l2.toNat → zI (x19 = 0) (z_Ex (z_MS d) 224 Q true 4 [some (.inr (.inr 141)), some (.inl l1), some (.inl (z_add l2 1))] [] 0 0 V) (zGu (0 ≤ l2 ∧ l2 < 6) (∀ x30 : Int, x30 = V 162 l2.toNat → zGu (0 ≤ l2 ∧ l2 < 6) (∀ x36 : Int, x36 = V 157 l2.toNat → z_MS d 207 true [.inr (.inr 141), .inl l2, .inl x30, .inl (z_and x36 (z_xor (V 141 44) (-1)))] V (fun z501 V501 => z_Ex (z_MS d) 224 Q true 4 [some (.inr (.inr 141)), some (.inl (z_or l1 (if (V501 159 0) = (-1) then z_shl 1 l2 else 0))), some (.inl (z_add l2 1))] [] 0 0 V501)))))) (Q l1 V)) :
    z_Ex (z_MS d) 224 Q true 4 [some (.inr (.inr 141)), some (.inl l1), some (.inl l2)] [] 0 0 V := by
  refine ze_iload_n (pc := 4) zr_224_4 rfl ?_
  refine ze_aload_n (pc := 5) zr_224_5 rfl ?_
  refine ze_getfield (pc := 6) (v := .inr (.inr 143)) zr_224_6 rfl rfl ?_
  refine ze_iconst (pc := 9) zr_224_9 (by decide) ?_
  refine zq_iaload (pc := 10) (v := .inl (V 143 1)) zr_224_10 rfl rfl (by decide) rfl ?_
  refine zq_icmp_ge (pc := 11) (t := 73) zr_224_11 (by decide) (z_toif h) (fun h => ?_) (fun h => ?_)
  · refine ze_aload_n (pc := 14) zr_224_14 rfl ?_
    refine ze_getfield (pc := 15) (v := .inr (.inr 162)) zr_224_15 rfl rfl ?_
    refine ze_iload_n (pc := 18) zr_224_18 rfl ?_
    refine z_gk h (fun g19 h => ?_)
    refine zl_iaload (pc := 19) zr_224_19 rfl rfl g19 h (fun x19 h => ?_)
    refine zq_if_eq (pc := 20) (t := 67) zr_224_20 (by decide) (z_toif h) (fun h => ?_) (fun h => ?_)
    · refine zq_iinc (pc := 67) (ls2 := [some (.inr (.inr 141)), some (.inl l1), some (.inl (z_add l2 1))]) zr_224_67 rfl rfl rfl ?_
      refine ze_goto (pc := 70) (t := 4) zr_224_70 (by decide) ?_
      exact h
    · refine ze_aload_n (pc := 23) zr_224_23 rfl ?_
      refine ze_iload_n (pc := 24) zr_224_24 rfl ?_
      refine ze_aload_n (pc := 25) zr_224_25 rfl ?_
      refine ze_getfield (pc := 26) (v := .inr (.inr 162)) zr_224_26 rfl rfl ?_
      refine ze_iload_n (pc := 29) zr_224_29 rfl ?_
      refine z_gk h (fun g30 h => ?_)
      refine zl_iaload (pc := 30) zr_224_30 rfl rfl g30 h (fun x30 h => ?_)
      refine ze_aload_n (pc := 31) zr_224_31 rfl ?_
      refine ze_getfield (pc := 32) (v := .inr (.inr 157)) zr_224_32 rfl rfl ?_
      refine ze_iload_n (pc := 35) zr_224_35 rfl ?_
      refine z_gk h (fun g36 h => ?_)
      refine zl_iaload (pc := 36) zr_224_36 rfl rfl g36 h (fun x36 h => ?_)
      refine ze_aload_n (pc := 37) zr_224_37 rfl ?_
      refine ze_getfield (pc := 38) (v := .inl (V 141 44)) zr_224_38 rfl rfl ?_
      refine ze_iconst (pc := 41) zr_224_41 (by decide) ?_
      refine ze_ixor (pc := 42) zr_224_42 ?_
      refine ze_iand (pc := 43) zr_224_43 ?_
      refine zq_callV0 (pc := 44) (as := [.inr (.inr 141), .inl l2, .inl x30, .inl (z_and x36 (z_xor (V 141 44) (-1)))]) (r := []) (kc2 := 0) (ks2 := 0) zr_224_44 rfl (by decide) rfl rfl rfl rfl ⟨rfl, rfl⟩ rfl h (fun z501 V501 h => ?_)
      refine ze_iload_n (pc := 47) zr_224_47 rfl ?_
      refine ze_aload_n (pc := 48) zr_224_48 rfl ?_
      refine ze_getfield (pc := 49) (v := .inr (.inr 159)) zr_224_49 rfl rfl ?_
      refine ze_iconst (pc := 52) zr_224_52 (by decide) ?_
      refine zq_iaload (pc := 53) (v := .inl (V501 159 0)) zr_224_53 rfl rfl (by decide) rfl ?_
      refine ze_iconst (pc := 54) zr_224_54 (by decide) ?_
      have j55 : z_Ex (z_MS d) 224 Q true 65 [some (.inr (.inr 141)), some (.inl l1), some (.inl l2)] [.inl (if (V501 159 0) = (-1) then z_shl 1 l2 else 0), .inl l1] 0 0 V501 := by
        refine ze_ior (pc := 65) zr_224_65 ?_
        refine zq_istore_n (pc := 66) (ls2 := [some (.inr (.inr 141)), some (.inl (z_or l1 (if (V501 159 0) = (-1) then z_shl 1 l2 else 0))), some (.inl l2)]) zr_224_66 rfl rfl ?_
        refine zq_iinc (pc := 67) (ls2 := [some (.inr (.inr 141)), some (.inl (z_or l1 (if (V501 159 0) = (-1) then z_shl 1 l2 else 0))), some (.inl (z_add l2 1))]) zr_224_67 rfl rfl rfl ?_
        refine ze_goto (pc := 70) (t := 4) zr_224_70 (by decide) ?_
        exact h
      refine ze_icmp_ne (pc := 55) (t := 64) zr_224_55 (by decide) (fun hc => ?_) (fun hc => ?_)
      · rw [if_pos (show (V501 159 0) = (-1) from hc)] at j55
        refine ze_iconst (pc := 58) zr_224_58 (by decide) ?_
        refine ze_iload_n (pc := 59) zr_224_59 rfl ?_
        refine ze_ishl (pc := 60) zr_224_60 ?_
        refine ze_goto (pc := 61) (t := 65) zr_224_61 (by decide) ?_
        exact j55
      · rw [if_neg (show ¬ ((V501 159 0) = (-1)) from hc)] at j55
        refine ze_iconst (pc := 64) zr_224_64 (by decide) ?_
        exact j55
  · refine ze_iload_n (pc := 73) zr_224_73 rfl ?_
    exact zq_ret1 (pc := 74) zr_224_74 rfl h
theorem zb225_141 {d : Nat} {Q : Int → z_M → Prop} (a0 : Int) {V : z_M}
    (h : zGu (0 ≤ (z_add 68 (z_mul 2 a0)) ∧ (z_add 68 (z_mul 2 a0)) < 5490) (∀ x10 : Int, x10 = V 143 (z_add 68 (z_mul 2 a0)).toNat → Q x10 V)) :
    z_MS (d + 1) 225 true [.inr (.inr 141), .inl a0] V Q := by
  show z_Ex (z_MS d) 225 Q true 0 [some (.inr (.inr 141)), some (.inl a0)] [] 0 0 V
  refine ze_aload_n (pc := 0) zr_225_0 rfl ?_
  refine ze_getfield (pc := 1) (v := .inr (.inr 143)) zr_225_1 rfl rfl ?_
  refine ze_bipush (pc := 4) zr_225_4 (by decide) ?_
  refine ze_iconst (pc := 6) zr_225_6 (by decide) ?_
  refine ze_iload_n (pc := 7) zr_225_7 rfl ?_
  refine ze_imul (pc := 8) zr_225_8 ?_
  refine ze_iadd (pc := 9) zr_225_9 ?_
  refine z_gk h (fun g10 h => ?_)
  refine zl_iaload (pc := 10) zr_225_10 rfl rfl g10 h (fun x10 h => ?_)
  exact zq_ret1 (pc := 11) zr_225_11 rfl h
theorem zb226_141 {d : Nat} {Q : Int → z_M → Prop}  {V : z_M}
    (h : z_MS d 221 true [.inr (.inr 141)] V (fun z1 V1 => z_Ex (z_MS d) 226 Q true 8 [some (.inr (.inr 141)), some (.inl 0), some (.inl 0)] [] 0 0 V1)) :
    z_MS (d + 1) 226 true [.inr (.inr 141)] V Q := by
  show z_Ex (z_MS d) 226 Q true 0 [some (.inr (.inr 141)), none, none] [] 0 0 V
  refine ze_aload_n (pc := 0) zr_226_0 rfl ?_
  refine zq_callV0 (pc := 1) (as := [.inr (.inr 141)]) (r := []) (kc2 := 0) (ks2 := 0) zr_226_1 rfl (by decide) rfl rfl rfl rfl ⟨rfl, rfl⟩ rfl h (fun z1 V1 h => ?_)
  refine ze_iconst (pc := 4) zr_226_4 (by decide) ?_
  refine zq_istore_n (pc := 5) (ls2 := [some (.inr (.inr 141)), some (.inl 0), none]) zr_226_5 rfl rfl ?_
  refine ze_iconst (pc := 6) zr_226_6 (by decide) ?_
  refine zq_istore_n (pc := 7) (ls2 := [some (.inr (.inr 141)), some (.inl 0), some (.inl 0)]) zr_226_7 rfl rfl ?_
  exact h
theorem zb226_141_p8 {d : Nat} {Q : Int → z_M → Prop} (l1 : Int) (l2 : Int) {V : z_M}
    (h : zI (l2 < (V 143 4)) (z_MS d 225 true [.inr (.inr 141), .inl l2] V (fun z901 V901 => zGu (0 ≤ l2 ∧ l2 < 7) (∀ x30 : Int, x30 = V901 158 l2.toNat → z_MS d 223 true [.inr (.inr 141), .inl z901, .inl x30] V901 (fun z902 V902 => z_Ex (z_MS d) 226 Q true 8 [some (.inr (.inr 141)), some (.inl (z_or l1 (if z902 = 0 then 0 else z_shl 1 l2))), some (.inl (z_add l2 1))] [] 0 0 V902)))) (Q l1 V)) :
    z_Ex (z_MS d) 226 Q true 8 [some (.inr (.inr 141)), some (.inl l1), some (.inl l2)] [] 0 0 V := by
  refine ze_iload_n (pc := 8) zr_226_8 rfl ?_
  refine ze_aload_n (pc := 9) zr_226_9 rfl ?_
  refine ze_getfield (pc := 10) (v := .inr (.inr 143)) zr_226_10 rfl rfl ?_
  refine ze_iconst (pc := 13) zr_226_13 (by decide) ?_
  refine zq_iaload (pc := 14) (v := .inl (V 143 4)) zr_226_14 rfl rfl (by decide) rfl ?_
  refine zq_icmp_ge (pc := 15) (t := 52) zr_226_15 (by decide) (z_toif h) (fun h => ?_) (fun h => ?_)
  · refine ze_iload_n (pc := 18) zr_226_18 rfl ?_
    refine ze_aload_n (pc := 19) zr_226_19 rfl ?_
    refine ze_aload_n (pc := 20) zr_226_20 rfl ?_
    refine ze_iload_n (pc := 21) zr_226_21 rfl ?_
    refine zq_callV1 (pc := 22) (as := [.inr (.inr 141), .inl l2]) (r := [.inr (.inr 141), .inl l1]) (kc2 := 0) (ks2 := 0) zr_226_22 rfl (by decide) rfl rfl rfl rfl ⟨rfl, rfl⟩ ⟨rfl, rfl, rfl⟩ h (fun z901 V901 h => ?_)
    refine ze_aload_n (pc := 25) zr_226_25 rfl ?_
    refine ze_getfield (pc := 26) (v := .inr (.inr 158)) zr_226_26 rfl rfl ?_
    refine ze_iload_n (pc := 29) zr_226_29 rfl ?_
    refine z_gk h (fun g30 h => ?_)
    refine zl_iaload (pc := 30) zr_226_30 rfl rfl g30 h (fun x30 h => ?_)
    refine zq_callV1 (pc := 31) (as := [.inr (.inr 141), .inl z901, .inl x30]) (r := [.inl l1]) (kc2 := 0) (ks2 := 0) zr_226_31 rfl (by decide) rfl rfl rfl rfl ⟨rfl, rfl⟩ ⟨rfl, rfl, rfl⟩ h (fun z902 V902 h => ?_)
    have j34 : z_Ex (z_MS d) 226 Q true 44 [some (.inr (.inr 141)), some (.inl l1), some (.inl l2)] [.inl (if z902 = 0 then 0 else z_shl 1 l2), .inl l1] 0 0 V902 := by
      refine ze_ior (pc := 44) zr_226_44 ?_
      refine zq_istore_n (pc := 45) (ls2 := [some (.inr (.inr 141)), some (.inl (z_or l1 (if z902 = 0 then 0 else z_shl 1 l2))), some (.inl l2)]) zr_226_45 rfl rfl ?_
      refine zq_iinc (pc := 46) (ls2 := [some (.inr (.inr 141)), some (.inl (z_or l1 (if z902 = 0 then 0 else z_shl 1 l2))), some (.inl (z_add l2 1))]) zr_226_46 rfl rfl rfl ?_
      refine ze_goto (pc := 49) (t := 8) zr_226_49 (by decide) ?_
      exact h
    refine ze_if_eq (pc := 34) (t := 43) zr_226_34 (by decide) (fun hc => ?_) (fun hc => ?_)
    · rw [if_pos (show z902 = 0 from hc)] at j34
      refine ze_iconst (pc := 43) zr_226_43 (by decide) ?_
      exact j34
    · rw [if_neg (show ¬ (z902 = 0) from hc)] at j34
      refine ze_iconst (pc := 37) zr_226_37 (by decide) ?_
      refine ze_iload_n (pc := 38) zr_226_38 rfl ?_
      refine ze_ishl (pc := 39) zr_226_39 ?_
      refine ze_goto (pc := 40) (t := 44) zr_226_40 (by decide) ?_
      exact j34
  · refine ze_iload_n (pc := 52) zr_226_52 rfl ?_
    exact zq_ret1 (pc := 53) zr_226_53 rfl h
theorem zb227_141 {d : Nat} {Q : Int → z_M → Prop} (a0 : Int) {V : z_M}
    (h : ∀ W1, W1 = z_up V 141 0 0 → z_MS d 145 true [.inr (.inl a0), .inr (.inl 0), .inr (.inl 2)] W1 (fun z1 V1 => zI (z1 = 0) (Q (-1) V1) (z_MS d 201 true [.inr (.inr 141)] V1 (fun z2 V2 => z_MS d 226 true [.inr (.inr 141)] V2 (fun z3 V3 => zI (a0 = 0) (Q z3 V3) (zI (a0 = 1) (z_MS d 224 true [.inr (.inr 141)] V3 (fun z4 V4 => Q z4 V4)) (Q (V3 141 44) V3))))))) :
    z_MS (d + 1) 227 true [.inr (.inr 141), .inl a0] V Q := by
  show z_Ex (z_MS d) 227 Q true 0 [some (.inr (.inr 141)), some (.inl a0), none] [] 0 0 V
  refine ze_aload_n (pc := 0) zr_227_0 rfl ?_
  refine ze_iconst (pc := 1) zr_227_1 (by decide) ?_
  refine zq_putI (pc := 2) zr_227_2 (by decide) rfl h (fun W1 h => ?_)
  refine ze_iload_n (pc := 5) zr_227_5 rfl ?_
  refine ze_i2l (pc := 6) zr_227_6 ?_
  refine ze_lconst (pc := 7) zr_227_7 ?_
  refine ze_ldc2 (pc := 8) (z := 2) zr_227_8 (by decide) rfl ?_
  refine zq_callS1 (pc := 11) (as := [.inr (.inl a0), .inr (.inl 0), .inr (.inl 2)]) (r := []) (kc2 := 0) (ks2 := 0) zr_227_11 rfl rfl rfl rfl ⟨rfl, rfl⟩ ⟨rfl, rfl, rfl⟩ h (fun z1 V1 h => ?_)
  refine zq_if_ne (pc := 14) (t := 19) zr_227_14 (by decide) (z_toif h) (fun h => ?_) (fun h => ?_)
  · refine ze_iconst (pc := 17) zr_227_17 (by decide) ?_
    exact zq_ret1 (pc := 18) zr_227_18 rfl h
  · refine ze_aload_n (pc := 19) zr_227_19 rfl ?_
    refine zq_callV0 (pc := 20) (as := [.inr (.inr 141)]) (r := []) (kc2 := 0) (ks2 := 0) zr_227_20 rfl (by decide) rfl rfl rfl rfl ⟨rfl, rfl⟩ rfl h (fun z2 V2 h => ?_)
    refine ze_aload_n (pc := 23) zr_227_23 rfl ?_
    refine zq_callV1 (pc := 24) (as := [.inr (.inr 141)]) (r := []) (kc2 := 0) (ks2 := 0) zr_227_24 rfl (by decide) rfl rfl rfl rfl ⟨rfl, rfl⟩ ⟨rfl, rfl, rfl⟩ h (fun z3 V3 h => ?_)
    refine zq_istore_n (pc := 27) (ls2 := [some (.inr (.inr 141)), some (.inl a0), some (.inl z3)]) zr_227_27 rfl rfl ?_
    refine ze_iload_n (pc := 28) zr_227_28 rfl ?_
    refine zq_if_ne (pc := 29) (t := 36) zr_227_29 (by decide) (z_toif h) (fun h => ?_) (fun h => ?_)
    · refine ze_iload_n (pc := 32) zr_227_32 rfl ?_
      refine ze_goto (pc := 33) (t := 52) zr_227_33 (by decide) ?_
      exact zq_ret1 (pc := 52) zr_227_52 rfl h
    · refine ze_iload_n (pc := 36) zr_227_36 rfl ?_
      refine ze_iconst (pc := 37) zr_227_37 (by decide) ?_
      refine zq_icmp_ne (pc := 38) (t := 48) zr_227_38 (by decide) (z_toif h) (fun h => ?_) (fun h => ?_)
      · refine ze_aload_n (pc := 41) zr_227_41 rfl ?_
        refine zq_callV1 (pc := 42) (as := [.inr (.inr 141)]) (r := []) (kc2 := 0) (ks2 := 0) zr_227_42 rfl (by decide) rfl rfl rfl rfl ⟨rfl, rfl⟩ ⟨rfl, rfl, rfl⟩ h (fun z4 V4 h => ?_)
        refine ze_goto (pc := 45) (t := 52) zr_227_45 (by decide) ?_
        exact zq_ret1 (pc := 52) zr_227_52 rfl h
      · refine ze_aload_n (pc := 48) zr_227_48 rfl ?_
        refine ze_getfield (pc := 49) (v := .inl (V3 141 44)) zr_227_49 rfl rfl ?_
        exact zq_ret1 (pc := 52) zr_227_52 rfl h
theorem zb228_141 {d : Nat} {Q : Int → z_M → Prop} (a0 : Int) {V : z_M}
    (h : ∀ W1, W1 = z_up V 141 0 0 → z_MS d 156 true [.inr (.inr 141), .inl a0] W1 (fun z1 V1 => zI (z1 = 0) (Q (-1) V1) (z_MS d 201 true [.inr (.inr 141)] V1 (fun z2 V2 => z_MS d 226 true [.inr (.inr 141)] V2 (fun z3 V3 => zI (z3 < 0) (Q 100 V3) (zGu (0 ≤ a0 ∧ a0 < 6) (∀ x31 : Int, x31 = V3 162 a0.toNat → zI (x31 = 0) (Q 100 V3) (zGu (0 ≤ a0 ∧ a0 < 6) (∀ x45 : Int, x45 = V3 162 a0.toNat → Q (z_sub x45 1) V3))))))))) :
    z_MS (d + 1) 228 true [.inr (.inr 141), .inl a0] V Q := by
  show z_Ex (z_MS d) 228 Q true 0 [some (.inr (.inr 141)), some (.inl a0)] [] 0 0 V
  refine ze_aload_n (pc := 0) zr_228_0 rfl ?_
  refine ze_iconst (pc := 1) zr_228_1 (by decide) ?_
  refine zq_putI (pc := 2) zr_228_2 (by decide) rfl h (fun W1 h => ?_)
  refine ze_aload_n (pc := 5) zr_228_5 rfl ?_
  refine ze_iload_n (pc := 6) zr_228_6 rfl ?_
  refine zq_callV1 (pc := 7) (as := [.inr (.inr 141), .inl a0]) (r := []) (kc2 := 0) (ks2 := 0) zr_228_7 rfl (by decide) rfl rfl rfl rfl ⟨rfl, rfl⟩ ⟨rfl, rfl, rfl⟩ h (fun z1 V1 h => ?_)
  refine zq_if_ne (pc := 10) (t := 15) zr_228_10 (by decide) (z_toif h) (fun h => ?_) (fun h => ?_)
  · refine ze_iconst (pc := 13) zr_228_13 (by decide) ?_
    exact zq_ret1 (pc := 14) zr_228_14 rfl h
  · refine ze_aload_n (pc := 15) zr_228_15 rfl ?_
    refine zq_callV0 (pc := 16) (as := [.inr (.inr 141)]) (r := []) (kc2 := 0) (ks2 := 0) zr_228_16 rfl (by decide) rfl rfl rfl rfl ⟨rfl, rfl⟩ rfl h (fun z2 V2 h => ?_)
    refine ze_aload_n (pc := 19) zr_228_19 rfl ?_
    refine zq_callV1 (pc := 20) (as := [.inr (.inr 141)]) (r := []) (kc2 := 0) (ks2 := 0) zr_228_20 rfl (by decide) rfl rfl rfl rfl ⟨rfl, rfl⟩ ⟨rfl, rfl, rfl⟩ h (fun z3 V3 h => ?_)
    refine zq_if_lt (pc := 23) (t := 35) zr_228_23 (by decide) (z_toif h) (fun h => ?_) (fun h => ?_)
    · refine ze_bipush (pc := 35) zr_228_35 (by decide) ?_
      refine ze_goto (pc := 37) (t := 48) zr_228_37 (by decide) ?_
      exact zq_ret1 (pc := 48) zr_228_48 rfl h
    · refine ze_aload_n (pc := 26) zr_228_26 rfl ?_
      refine ze_getfield (pc := 27) (v := .inr (.inr 162)) zr_228_27 rfl rfl ?_
      refine ze_iload_n (pc := 30) zr_228_30 rfl ?_
      refine z_gk h (fun g31 h => ?_)
      refine zl_iaload (pc := 31) zr_228_31 rfl rfl g31 h (fun x31 h => ?_)
      refine zq_if_ne (pc := 32) (t := 40) zr_228_32 (by decide) (z_toif h) (fun h => ?_) (fun h => ?_)
      · refine ze_bipush (pc := 35) zr_228_35 (by decide) ?_
        refine ze_goto (pc := 37) (t := 48) zr_228_37 (by decide) ?_
        exact zq_ret1 (pc := 48) zr_228_48 rfl h
      · refine ze_aload_n (pc := 40) zr_228_40 rfl ?_
        refine ze_getfield (pc := 41) (v := .inr (.inr 162)) zr_228_41 rfl rfl ?_
        refine ze_iload_n (pc := 44) zr_228_44 rfl ?_
        refine z_gk h (fun g45 h => ?_)
        refine zl_iaload (pc := 45) zr_228_45 rfl rfl g45 h (fun x45 h => ?_)
        refine ze_iconst (pc := 46) zr_228_46 (by decide) ?_
        refine ze_isub (pc := 47) zr_228_47 ?_
        exact zq_ret1 (pc := 48) zr_228_48 rfl h
theorem zb229_141 {d : Nat} {Q : Int → z_M → Prop} (a0 : Int) {V : z_M}
    (h : z_Ex (z_MS d) 229 Q true 2 [some (.inr (.inr 141)), some (.inl a0), some (.inl 0)] [] 0 0 V) :
    z_MS (d + 1) 229 true [.inr (.inr 141), .inl a0] V Q := by
  show z_Ex (z_MS d) 229 Q true 0 [some (.inr (.inr 141)), some (.inl a0), none] [] 0 0 V
  refine ze_iconst (pc := 0) zr_229_0 (by decide) ?_
  refine zq_istore_n (pc := 1) (ls2 := [some (.inr (.inr 141)), some (.inl a0), some (.inl 0)]) zr_229_1 rfl rfl ?_
  exact h
theorem zb229_141_p2 {d : Nat} {Q : Int → z_M → Prop} (l1 : Int) (l2 : Int) {V : z_M}
    (h : zI (l2 < l1) (zGu (0 ≤ l2 ∧ l2 < 7) (∀ W304, W304 = z_up V 163 l2.toNat l2 → z_Ex (z_MS d) 229 Q true 2 [some (.inr (.inr 141)), some (.inl l1), some (.inl (z_add l2 1))] [] 0 0 W304)) (∀ W301, W301 = z_up V 141 47 (-1) → ∀ W302, W302 = z_up W301 141 48 0 → ∀ W303, W303 = z_up W302 141 49 0 → Q 0 W303)) :
    z_Ex (z_MS d) 229 Q true 2 [some (.inr (.inr 141)), some (.inl l1), some (.inl l2)] [] 0 0 V := by
  refine ze_iload_n (pc := 2) zr_229_2 rfl ?_
  refine ze_iload_n (pc := 3) zr_229_3 rfl ?_
  refine zq_icmp_ge (pc := 4) (t := 20) zr_229_4 (by decide) (z_toif h) (fun h => ?_) (fun h => ?_)
  · refine ze_aload_n (pc := 7) zr_229_7 rfl ?_
    refine ze_getfield (pc := 8) (v := .inr (.inr 163)) zr_229_8 rfl rfl ?_
    refine ze_iload_n (pc := 11) zr_229_11 rfl ?_
    refine ze_iload_n (pc := 12) zr_229_12 rfl ?_
    refine z_gk h (fun g13 h => ?_)
    refine zq_iastore (pc := 13) zr_229_13 (by decide) rfl g13 rfl h (fun W304 h => ?_)
    refine zq_iinc (pc := 14) (ls2 := [some (.inr (.inr 141)), some (.inl l1), some (.inl (z_add l2 1))]) zr_229_14 rfl rfl rfl ?_
    refine ze_goto (pc := 17) (t := 2) zr_229_17 (by decide) ?_
    exact h
  · refine ze_aload_n (pc := 20) zr_229_20 rfl ?_
    refine ze_iconst (pc := 21) zr_229_21 (by decide) ?_
    refine zq_putI (pc := 22) zr_229_22 (by decide) rfl h (fun W301 h => ?_)
    refine ze_aload_n (pc := 25) zr_229_25 rfl ?_
    refine ze_iconst (pc := 26) zr_229_26 (by decide) ?_
    refine zq_putI (pc := 27) zr_229_27 (by decide) rfl h (fun W302 h => ?_)
    refine ze_aload_n (pc := 30) zr_229_30 rfl ?_
    refine ze_iconst (pc := 31) zr_229_31 (by decide) ?_
    refine zq_putI (pc := 32) zr_229_32 (by decide) rfl h (fun W303 h => ?_)
    exact ze_vret (pc := 35) zr_229_35 rfl h
theorem zb230_141 {d : Nat} {Q : Int → z_M → Prop} (a0 : Int) {V : z_M}
    (h : z_Ex (z_MS d) 230 Q true 4 [some (.inr (.inr 141)), some (.inl a0), some (.inl (z_sub a0 2)), none, none, none] [] 0 0 V) :
    z_MS (d + 1) 230 true [.inr (.inr 141), .inl a0] V Q := by
  show z_Ex (z_MS d) 230 Q true 0 [some (.inr (.inr 141)), some (.inl a0), none, none, none, none] [] 0 0 V
  refine ze_iload_n (pc := 0) zr_230_0 rfl ?_
  refine ze_iconst (pc := 1) zr_230_1 (by decide) ?_
  refine ze_isub (pc := 2) zr_230_2 ?_
  refine zq_istore_n (pc := 3) (ls2 := [some (.inr (.inr 141)), some (.inl a0), some (.inl (z_sub a0 2)), none, none, none]) zr_230_3 rfl rfl ?_
  exact h
theorem zb230_141_p4 {d : Nat} {Q : Int → z_M → Prop} (l1 : Int) (l2 : Int) {V : z_M}
    (h : zI (l2 < 0) (zI (l2 < 0) (Q 0 V) (z_Ex (z_MS d) 230 Q true 41 [some (.inr (.inr 141)), some (.inl l1), some (.inl l2), some (.inl (z_sub l1 1)), none, none] [] 0 0 V)) (zGu (0 ≤ l2 ∧ l2 < 7) (∀ x13 : Int, x13 = V 163 l2.toNat → zGu (0 ≤ (z_add l2 1) ∧ (z_add l2 1) < 7) (∀ x21 : Int, x21 = V 163 (z_add l2 1).toNat → zI (x21 < x13) (z_Ex (z_MS d) 230 Q true 4 [some (.inr (.inr 141)), some (.inl l1), some (.inl (z_add l2 (-1))), none, none, none] [] 0 0 V) (zI (l2 < 0) (Q 0 V) (z_Ex (z_MS d) 230 Q true 41 [some (.inr (.inr 141)), some (.inl l1), some (.inl l2), some (.inl (z_sub l1 1)), none, none] [] 0 0 V)))))) :
    z_Ex (z_MS d) 230 Q true 4 [some (.inr (.inr 141)), some (.inl l1), some (.inl l2), none, none, none] [] 0 0 V := by
  refine ze_iload_n (pc := 4) zr_230_4 rfl ?_
  refine zq_if_lt (pc := 5) (t := 31) zr_230_5 (by decide) (z_toif h) (fun h => ?_) (fun h => ?_)
  · refine ze_iload_n (pc := 31) zr_230_31 rfl ?_
    refine zq_if_ge (pc := 32) (t := 37) zr_230_32 (by decide) (z_toif h) (fun h => ?_) (fun h => ?_)
    · refine ze_iconst (pc := 35) zr_230_35 (by decide) ?_
      exact zq_ret4 (pc := 36) zr_230_36 rfl (by decide) h
    · refine ze_iload_n (pc := 37) zr_230_37 rfl ?_
      refine ze_iconst (pc := 38) zr_230_38 (by decide) ?_
      refine ze_isub (pc := 39) zr_230_39 ?_
      refine zq_istore_n (pc := 40) (ls2 := [some (.inr (.inr 141)), some (.inl l1), some (.inl l2), some (.inl (z_sub l1 1)), none, none]) zr_230_40 rfl rfl ?_
      exact h
  · refine ze_aload_n (pc := 8) zr_230_8 rfl ?_
    refine ze_getfield (pc := 9) (v := .inr (.inr 163)) zr_230_9 rfl rfl ?_
    refine ze_iload_n (pc := 12) zr_230_12 rfl ?_
    refine z_gk h (fun g13 h => ?_)
    refine zl_iaload (pc := 13) zr_230_13 rfl rfl g13 h (fun x13 h => ?_)
    refine ze_aload_n (pc := 14) zr_230_14 rfl ?_
    refine ze_getfield (pc := 15) (v := .inr (.inr 163)) zr_230_15 rfl rfl ?_
    refine ze_iload_n (pc := 18) zr_230_18 rfl ?_
    refine ze_iconst (pc := 19) zr_230_19 (by decide) ?_
    refine ze_iadd (pc := 20) zr_230_20 ?_
    refine z_gk h (fun g21 h => ?_)
    refine zl_iaload (pc := 21) zr_230_21 rfl rfl g21 h (fun x21 h => ?_)
    refine zq_icmp_le (pc := 22) (t := 31) zr_230_22 (by decide) (z_toif h) (fun h => ?_) (fun h => ?_)
    · refine zq_iinc (pc := 25) (ls2 := [some (.inr (.inr 141)), some (.inl l1), some (.inl (z_add l2 (-1))), none, none, none]) zr_230_25 rfl rfl rfl ?_
      refine ze_goto (pc := 28) (t := 4) zr_230_28 (by decide) ?_
      exact h
    · refine ze_iload_n (pc := 31) zr_230_31 rfl ?_
      refine zq_if_ge (pc := 32) (t := 37) zr_230_32 (by decide) (z_toif h) (fun h => ?_) (fun h => ?_)
      · refine ze_iconst (pc := 35) zr_230_35 (by decide) ?_
        exact zq_ret4 (pc := 36) zr_230_36 rfl (by decide) h
      · refine ze_iload_n (pc := 37) zr_230_37 rfl ?_
        refine ze_iconst (pc := 38) zr_230_38 (by decide) ?_
        refine ze_isub (pc := 39) zr_230_39 ?_
        refine zq_istore_n (pc := 40) (ls2 := [some (.inr (.inr 141)), some (.inl l1), some (.inl l2), some (.inl (z_sub l1 1)), none, none]) zr_230_40 rfl rfl ?_
        exact h
theorem zb230_141_p41 {d : Nat} {Q : Int → z_M → Prop} (l1 : Int) (l2 : Int) (l3 : Int) {V : z_M}
    (h : zGu (0 ≤ l3 ∧ l3 < 7) (∀ x46 : Int, x46 = V 163 l3.toNat → zGu (0 ≤ l2 ∧ l2 < 7) (∀ x52 : Int, x52 = V 163 l2.toNat → zI (x46 < x52) (z_Ex (z_MS d) 230 Q true 41 [some (.inr (.inr 141)), some (.inl l1), some (.inl l2), some (.inl (z_add l3 (-1))), none, none] [] 0 0 V) (z_MS d 231 true [.inr (.inr 141), .inl l2, .inl l3] V (fun z4201 V4201 => z_Ex (z_MS d) 230 Q true 78 [some (.inr (.inr 141)), some (.inl l1), some (.inl l2), some (.inl l3), some (.inl (z_add l2 1)), some (.inl (z_sub l1 1))] [] 0 0 V4201))))) :
    z_Ex (z_MS d) 230 Q true 41 [some (.inr (.inr 141)), some (.inl l1), some (.inl l2), some (.inl l3), none, none] [] 0 0 V := by
  refine ze_aload_n (pc := 41) zr_230_41 rfl ?_
  refine ze_getfield (pc := 42) (v := .inr (.inr 163)) zr_230_42 rfl rfl ?_
  refine ze_iload_n (pc := 45) zr_230_45 rfl ?_
  refine z_gk h (fun g46 h => ?_)
  refine zl_iaload (pc := 46) zr_230_46 rfl rfl g46 h (fun x46 h => ?_)
  refine ze_aload_n (pc := 47) zr_230_47 rfl ?_
  refine ze_getfield (pc := 48) (v := .inr (.inr 163)) zr_230_48 rfl rfl ?_
  refine ze_iload_n (pc := 51) zr_230_51 rfl ?_
  refine z_gk h (fun g52 h => ?_)
  refine zl_iaload (pc := 52) zr_230_52 rfl rfl g52 h (fun x52 h => ?_)
  refine zq_icmp_ge (pc := 53) (t := 62) zr_230_53 (by decide) (z_toif h) (fun h => ?_) (fun h => ?_)
  · refine zq_iinc (pc := 56) (ls2 := [some (.inr (.inr 141)), some (.inl l1), some (.inl l2), some (.inl (z_add l3 (-1))), none, none]) zr_230_56 rfl rfl rfl ?_
    refine ze_goto (pc := 59) (t := 41) zr_230_59 (by decide) ?_
    exact h
  · refine ze_aload_n (pc := 62) zr_230_62 rfl ?_
    refine ze_iload_n (pc := 63) zr_230_63 rfl ?_
    refine ze_iload_n (pc := 64) zr_230_64 rfl ?_
    refine zq_callV0 (pc := 65) (as := [.inr (.inr 141), .inl l2, .inl l3]) (r := []) (kc2 := 0) (ks2 := 0) zr_230_65 rfl (by decide) rfl rfl rfl rfl ⟨rfl, rfl⟩ rfl h (fun z4201 V4201 h => ?_)
    refine ze_iload_n (pc := 68) zr_230_68 rfl ?_
    refine ze_iconst (pc := 69) zr_230_69 (by decide) ?_
    refine ze_iadd (pc := 70) zr_230_70 ?_
    refine zq_istore (pc := 71) (ls2 := [some (.inr (.inr 141)), some (.inl l1), some (.inl l2), some (.inl l3), some (.inl (z_add l2 1)), none]) zr_230_71 rfl rfl ?_
    refine ze_iload_n (pc := 73) zr_230_73 rfl ?_
    refine ze_iconst (pc := 74) zr_230_74 (by decide) ?_
    refine ze_isub (pc := 75) zr_230_75 ?_
    refine zq_istore (pc := 76) (ls2 := [some (.inr (.inr 141)), some (.inl l1), some (.inl l2), some (.inl l3), some (.inl (z_add l2 1)), some (.inl (z_sub l1 1))]) zr_230_76 rfl rfl ?_
    exact h
theorem zb230_141_p78 {d : Nat} {Q : Int → z_M → Prop} (o1 : Option z_V) (o2 : Option z_V) (o3 : Option z_V) (l4 : Int) (l5 : Int) {V : z_M}
    (h : zI (l4 < l5) (z_MS d 231 true [.inr (.inr 141), .inl l4, .inl l5] V (fun z7901 V7901 => z_Ex (z_MS d) 230 Q true 78 [some (.inr (.inr 141)), o1, o2, (cond (z_o2 o3) none o3), some (.inl (z_add l4 1)), some (.inl (z_add l5 (-1)))] [] 0 0 V7901)) (Q 1 V)) :
    z_Ex (z_MS d) 230 Q true 78 [some (.inr (.inr 141)), o1, o2, o3, some (.inl l4), some (.inl l5)] [] 0 0 V := by
  refine ze_iload (pc := 78) zr_230_78 rfl ?_
  refine ze_iload (pc := 80) zr_230_80 rfl ?_
  refine zq_icmp_ge (pc := 82) (t := 102) zr_230_82 (by decide) (z_toif h) (fun h => ?_) (fun h => ?_)
  · refine ze_aload_n (pc := 85) zr_230_85 rfl ?_
    refine ze_iload (pc := 86) zr_230_86 rfl ?_
    refine ze_iload (pc := 88) zr_230_88 rfl ?_
    refine zq_callV0 (pc := 90) (as := [.inr (.inr 141), .inl l4, .inl l5]) (r := []) (kc2 := 0) (ks2 := 0) zr_230_90 rfl (by decide) rfl rfl rfl rfl ⟨rfl, rfl⟩ rfl h (fun z7901 V7901 h => ?_)
    refine zq_iinc (pc := 93) (ls2 := [some (.inr (.inr 141)), o1, o2, (cond (z_o2 o3) none o3), some (.inl (z_add l4 1)), some (.inl l5)]) zr_230_93 rfl rfl rfl ?_
    refine zq_iinc (pc := 96) (ls2 := [some (.inr (.inr 141)), o1, o2, (cond (z_o2 o3) none o3), some (.inl (z_add l4 1)), some (.inl (z_add l5 (-1)))]) zr_230_96 rfl rfl rfl ?_
    refine ze_goto (pc := 99) (t := 78) zr_230_99 (by decide) ?_
    exact h
  · refine ze_iconst (pc := 102) zr_230_102 (by decide) ?_
    exact zq_ret4 (pc := 103) zr_230_103 rfl (by decide) h
theorem zb231_141 {d : Nat} {Q : Int → z_M → Prop} (a0 : Int) (a1 : Int) {V : z_M}
    (h : zGu (0 ≤ a0 ∧ a0 < 7) (∀ x5 : Int, x5 = V 163 a0.toNat → zGu (0 ≤ a1 ∧ a1 < 7) (∀ x17 : Int, x17 = V 163 a1.toNat → zGu (0 ≤ a0 ∧ a0 < 7) (∀ W1, W1 = z_up V 163 a0.toNat x17 → zGu (0 ≤ a1 ∧ a1 < 7) (∀ W2, W2 = z_up W1 163 a1.toNat x5 → Q 0 W2))))) :
    z_MS (d + 1) 231 true [.inr (.inr 141), .inl a0, .inl a1] V Q := by
  show z_Ex (z_MS d) 231 Q true 0 [some (.inr (.inr 141)), some (.inl a0), some (.inl a1), none] [] 0 0 V
  refine ze_aload_n (pc := 0) zr_231_0 rfl ?_
  refine ze_getfield (pc := 1) (v := .inr (.inr 163)) zr_231_1 rfl rfl ?_
  refine ze_iload_n (pc := 4) zr_231_4 rfl ?_
  refine z_gk h (fun g5 h => ?_)
  refine zl_iaload (pc := 5) zr_231_5 rfl rfl g5 h (fun x5 h => ?_)
  refine zq_istore_n (pc := 6) (ls2 := [some (.inr (.inr 141)), some (.inl a0), some (.inl a1), some (.inl x5)]) zr_231_6 rfl rfl ?_
  refine ze_aload_n (pc := 7) zr_231_7 rfl ?_
  refine ze_getfield (pc := 8) (v := .inr (.inr 163)) zr_231_8 rfl rfl ?_
  refine ze_iload_n (pc := 11) zr_231_11 rfl ?_
  refine ze_aload_n (pc := 12) zr_231_12 rfl ?_
  refine ze_getfield (pc := 13) (v := .inr (.inr 163)) zr_231_13 rfl rfl ?_
  refine ze_iload_n (pc := 16) zr_231_16 rfl ?_
  refine z_gk h (fun g17 h => ?_)
  refine zl_iaload (pc := 17) zr_231_17 rfl rfl g17 h (fun x17 h => ?_)
  refine z_gk h (fun g18 h => ?_)
  refine zq_iastore (pc := 18) zr_231_18 (by decide) rfl g18 rfl h (fun W1 h => ?_)
  refine ze_aload_n (pc := 19) zr_231_19 rfl ?_
  refine ze_getfield (pc := 20) (v := .inr (.inr 163)) zr_231_20 rfl rfl ?_
  refine ze_iload_n (pc := 23) zr_231_23 rfl ?_
  refine ze_iload_n (pc := 24) zr_231_24 rfl ?_
  refine z_gk h (fun g25 h => ?_)
  refine zq_iastore (pc := 25) zr_231_25 (by decide) rfl g25 rfl h (fun W2 h => ?_)
  exact ze_vret (pc := 26) zr_231_26 rfl h
theorem zb232_141 {d : Nat} {Q : Int → z_M → Prop} (a0 : Int) (a1 : Int) (a2 : Int) {V : z_M}
    (h : zI ((if (V 141 47) < a0 then 1 else (if a0 = (V 141 47) then (if a1 < (V 141 48) then 1 else 0) else 0) : Int) = 0) (zI (a0 = (V 141 47)) (∀ W2, W2 = z_up V 141 49 (z_add (V 141 49) (if a1 = (V 141 48) then 1 else 0)) → Q 0 W2) (∀ W1, W1 = z_up V 141 49 (z_add (V 141 49) 0) → Q 0 W1)) (∀ W3, W3 = z_up V 141 47 a0 → ∀ W4, W4 = z_up W3 141 48 a1 → ∀ W5, W5 = z_up W4 141 49 0 → z_Ex (z_MS d) 232 Q true 54 [some (.inr (.inr 141)), some (.inl a0), some (.inl a1), some (.inl a2), some (.inl (if (V 141 47) < a0 then 1 else (if a0 = (V 141 47) then (if a1 < (V 141 48) then 1 else 0) else 0))), some (.inl 0)] [] 0 0 W5)) :
    z_MS (d + 1) 232 true [.inr (.inr 141), .inl a0, .inl a1, .inl a2] V Q := by
  show z_Ex (z_MS d) 232 Q true 0 [some (.inr (.inr 141)), some (.inl a0), some (.inl a1), some (.inl a2), none, none] [] 0 0 V
  refine ze_iload_n (pc := 0) zr_232_0 rfl ?_
  refine ze_aload_n (pc := 1) zr_232_1 rfl ?_
  refine ze_getfield (pc := 2) (v := .inl (V 141 47)) zr_232_2 rfl rfl ?_
  have j5 : z_Ex (z_MS d) 232 Q true 29 [some (.inr (.inr 141)), some (.inl a0), some (.inl a1), some (.inl a2), none, none] [.inl (if (V 141 47) < a0 then 1 else (if a0 = (V 141 47) then (if a1 < (V 141 48) then 1 else 0) else 0))] 0 0 V := by
    refine zq_istore (pc := 29) (ls2 := [some (.inr (.inr 141)), some (.inl a0), some (.inl a1), some (.inl a2), some (.inl (if (V 141 47) < a0 then 1 else (if a0 = (V 141 47) then (if a1 < (V 141 48) then 1 else 0) else 0))), none]) zr_232_29 rfl rfl ?_
    refine ze_iload (pc := 31) zr_232_31 rfl ?_
    refine zq_if_eq (pc := 33) (t := 80) zr_232_33 (by decide) (z_toif h) (fun h => ?_) (fun h => ?_)
    · refine ze_aload_n (pc := 80) zr_232_80 rfl ?_
      refine ze_dup (pc := 81) zr_232_81 rfl ?_
      refine ze_getfield (pc := 82) (v := .inl (V 141 49)) zr_232_82 rfl rfl ?_
      refine ze_iload_n (pc := 85) zr_232_85 rfl ?_
      refine ze_aload_n (pc := 86) zr_232_86 rfl ?_
      refine ze_getfield (pc := 87) (v := .inl (V 141 47)) zr_232_87 rfl rfl ?_
      refine zq_icmp_ne (pc := 90) (t := 105) zr_232_90 (by decide) (z_toif h) (fun h => ?_) (fun h => ?_)
      · refine ze_iload_n (pc := 93) zr_232_93 rfl ?_
        refine ze_aload_n (pc := 94) zr_232_94 rfl ?_
        refine ze_getfield (pc := 95) (v := .inl (V 141 48)) zr_232_95 rfl rfl ?_
        have j98 : z_Ex (z_MS d) 232 Q true 106 [some (.inr (.inr 141)), some (.inl a0), some (.inl a1), some (.inl a2), some (.inl (if (V 141 47) < a0 then 1 else (if a0 = (V 141 47) then (if a1 < (V 141 48) then 1 else 0) else 0))), none] [.inl (if a1 = (V 141 48) then 1 else 0), .inl (V 141 49), .inr (.inr 141)] 0 0 V := by
          refine ze_iadd (pc := 106) zr_232_106 ?_
          refine zq_putI (pc := 107) zr_232_107 (by decide) rfl h (fun W2 h => ?_)
          exact ze_vret (pc := 110) zr_232_110 rfl h
        refine ze_icmp_ne (pc := 98) (t := 105) zr_232_98 (by decide) (fun hc => ?_) (fun hc => ?_)
        · rw [if_pos (show a1 = (V 141 48) from hc)] at j98
          refine ze_iconst (pc := 101) zr_232_101 (by decide) ?_
          refine ze_goto (pc := 102) (t := 106) zr_232_102 (by decide) ?_
          exact j98
        · rw [if_neg (show ¬ (a1 = (V 141 48)) from hc)] at j98
          refine ze_iconst (pc := 105) zr_232_105 (by decide) ?_
          exact j98
      · refine ze_iconst (pc := 105) zr_232_105 (by decide) ?_
        refine ze_iadd (pc := 106) zr_232_106 ?_
        refine zq_putI (pc := 107) zr_232_107 (by decide) rfl h (fun W1 h => ?_)
        exact ze_vret (pc := 110) zr_232_110 rfl h
    · refine ze_aload_n (pc := 36) zr_232_36 rfl ?_
      refine ze_iload_n (pc := 37) zr_232_37 rfl ?_
      refine zq_putI (pc := 38) zr_232_38 (by decide) rfl h (fun W3 h => ?_)
      refine ze_aload_n (pc := 41) zr_232_41 rfl ?_
      refine ze_iload_n (pc := 42) zr_232_42 rfl ?_
      refine zq_putI (pc := 43) zr_232_43 (by decide) rfl h (fun W4 h => ?_)
      refine ze_aload_n (pc := 46) zr_232_46 rfl ?_
      refine ze_iconst (pc := 47) zr_232_47 (by decide) ?_
      refine zq_putI (pc := 48) zr_232_48 (by decide) rfl h (fun W5 h => ?_)
      refine ze_iconst (pc := 51) zr_232_51 (by decide) ?_
      refine zq_istore (pc := 52) (ls2 := [some (.inr (.inr 141)), some (.inl a0), some (.inl a1), some (.inl a2), some (.inl (if (V 141 47) < a0 then 1 else (if a0 = (V 141 47) then (if a1 < (V 141 48) then 1 else 0) else 0))), some (.inl 0)]) zr_232_52 rfl rfl ?_
      exact h
  refine ze_icmp_gt (pc := 5) (t := 24) zr_232_5 (by decide) (fun hc => ?_) (fun hc => ?_)
  · rw [if_pos (show (V 141 47) < a0 from hc)] at j5
    refine ze_iconst (pc := 24) zr_232_24 (by decide) ?_
    refine ze_goto (pc := 25) (t := 29) zr_232_25 (by decide) ?_
    exact j5
  · rw [if_neg (show ¬ ((V 141 47) < a0) from hc)] at j5
    refine ze_iload_n (pc := 8) zr_232_8 rfl ?_
    refine ze_aload_n (pc := 9) zr_232_9 rfl ?_
    refine ze_getfield (pc := 10) (v := .inl (V 141 47)) zr_232_10 rfl rfl ?_
    refine ze_icmp_ne (pc := 13) (t := 28) zr_232_13 (by decide) (fun hc => ?_) (fun hc => ?_)
    · rw [if_pos (show a0 = (V 141 47) from hc)] at j5
      refine ze_iload_n (pc := 16) zr_232_16 rfl ?_
      refine ze_aload_n (pc := 17) zr_232_17 rfl ?_
      refine ze_getfield (pc := 18) (v := .inl (V 141 48)) zr_232_18 rfl rfl ?_
      refine ze_icmp_ge (pc := 21) (t := 28) zr_232_21 (by decide) (fun hc => ?_) (fun hc => ?_)
      · rw [if_pos (show a1 < (V 141 48) from hc)] at j5
        refine ze_iconst (pc := 24) zr_232_24 (by decide) ?_
        refine ze_goto (pc := 25) (t := 29) zr_232_25 (by decide) ?_
        exact j5
      · rw [if_neg (show ¬ (a1 < (V 141 48)) from hc)] at j5
        refine ze_iconst (pc := 28) zr_232_28 (by decide) ?_
        exact j5
    · rw [if_neg (show ¬ (a0 = (V 141 47)) from hc)] at j5
      refine ze_iconst (pc := 28) zr_232_28 (by decide) ?_
      exact j5
theorem zb232_141_p54 {d : Nat} {Q : Int → z_M → Prop} (l1 : Int) (l2 : Int) (l3 : Int) (o4 : Option z_V) (l5 : Int) {V : z_M}
    (h : zI (l5 < l3) (zGu (0 ≤ l5 ∧ l5 < 7) (∀ x72 : Int, x72 = V 163 l5.toNat → zGu (0 ≤ l5 ∧ l5 < 7) (∀ W5503, W5503 = z_up V 164 l5.toNat x72 → z_Ex (z_MS d) 232 Q true 54 [some (.inr (.inr 141)), some (.inl l1), some (.inl l2), some (.inl l3), (cond (z_o2 o4) none o4), some (.inl (z_add l5 1))] [] 0 0 W5503))) (zI (l1 = (V 141 47)) (∀ W5502, W5502 = z_up V 141 49 (z_add (V 141 49) (if l2 = (V 141 48) then 1 else 0)) → Q 0 W5502) (∀ W5501, W5501 = z_up V 141 49 (z_add (V 141 49) 0) → Q 0 W5501))) :
    z_Ex (z_MS d) 232 Q true 54 [some (.inr (.inr 141)), some (.inl l1), some (.inl l2), some (.inl l3), o4, some (.inl l5)] [] 0 0 V := by
  refine ze_iload (pc := 54) zr_232_54 rfl ?_
  refine ze_iload_n (pc := 56) zr_232_56 rfl ?_
  refine zq_icmp_ge (pc := 57) (t := 80) zr_232_57 (by decide) (z_toif h) (fun h => ?_) (fun h => ?_)
  · refine ze_aload_n (pc := 60) zr_232_60 rfl ?_
    refine ze_getfield (pc := 61) (v := .inr (.inr 164)) zr_232_61 rfl rfl ?_
    refine ze_iload (pc := 64) zr_232_64 rfl ?_
    refine ze_aload_n (pc := 66) zr_232_66 rfl ?_
    refine ze_getfield (pc := 67) (v := .inr (.inr 163)) zr_232_67 rfl rfl ?_
    refine ze_iload (pc := 70) zr_232_70 rfl ?_
    refine z_gk h (fun g72 h => ?_)
    refine zl_iaload (pc := 72) zr_232_72 rfl rfl g72 h (fun x72 h => ?_)
    refine z_gk h (fun g73 h => ?_)
    refine zq_iastore (pc := 73) zr_232_73 (by decide) rfl g73 rfl h (fun W5503 h => ?_)
    refine zq_iinc (pc := 74) (ls2 := [some (.inr (.inr 141)), some (.inl l1), some (.inl l2), some (.inl l3), (cond (z_o2 o4) none o4), some (.inl (z_add l5 1))]) zr_232_74 rfl rfl rfl ?_
    refine ze_goto (pc := 77) (t := 54) zr_232_77 (by decide) ?_
    exact h
  · refine ze_aload_n (pc := 80) zr_232_80 rfl ?_
    refine ze_dup (pc := 81) zr_232_81 rfl ?_
    refine ze_getfield (pc := 82) (v := .inl (V 141 49)) zr_232_82 rfl rfl ?_
    refine ze_iload_n (pc := 85) zr_232_85 rfl ?_
    refine ze_aload_n (pc := 86) zr_232_86 rfl ?_
    refine ze_getfield (pc := 87) (v := .inl (V 141 47)) zr_232_87 rfl rfl ?_
    refine zq_icmp_ne (pc := 90) (t := 105) zr_232_90 (by decide) (z_toif h) (fun h => ?_) (fun h => ?_)
    · refine ze_iload_n (pc := 93) zr_232_93 rfl ?_
      refine ze_aload_n (pc := 94) zr_232_94 rfl ?_
      refine ze_getfield (pc := 95) (v := .inl (V 141 48)) zr_232_95 rfl rfl ?_
      have j98 : z_Ex (z_MS d) 232 Q true 106 [some (.inr (.inr 141)), some (.inl l1), some (.inl l2), some (.inl l3), o4, some (.inl l5)] [.inl (if l2 = (V 141 48) then 1 else 0), .inl (V 141 49), .inr (.inr 141)] 0 0 V := by
        refine ze_iadd (pc := 106) zr_232_106 ?_
        refine zq_putI (pc := 107) zr_232_107 (by decide) rfl h (fun W5502 h => ?_)
        exact ze_vret (pc := 110) zr_232_110 rfl h
      refine ze_icmp_ne (pc := 98) (t := 105) zr_232_98 (by decide) (fun hc => ?_) (fun hc => ?_)
      · rw [if_pos (show l2 = (V 141 48) from hc)] at j98
        refine ze_iconst (pc := 101) zr_232_101 (by decide) ?_
        refine ze_goto (pc := 102) (t := 106) zr_232_102 (by decide) ?_
        exact j98
      · rw [if_neg (show ¬ (l2 = (V 141 48)) from hc)] at j98
        refine ze_iconst (pc := 105) zr_232_105 (by decide) ?_
        exact j98
    · refine ze_iconst (pc := 105) zr_232_105 (by decide) ?_
      refine ze_iadd (pc := 106) zr_232_106 ?_
      refine zq_putI (pc := 107) zr_232_107 (by decide) rfl h (fun W5501 h => ?_)
      exact ze_vret (pc := 110) zr_232_110 rfl h
theorem zb233_141 {d : Nat} {Q : Int → z_M → Prop} (a0 : Int) {V : z_M}
    (h : ∀ W1, W1 = z_up V 141 0 0 → z_MS d 145 true [.inr (.inl a0), .inr (.inl 0), .inr (.inl (z_ladd 2 (W1 143 4)))] W1 (fun z1 V1 => zI (z1 = 0) (Q (-1) V1) (z_MS d 201 true [.inr (.inr 141)] V1 (fun z2 V2 => z_MS d 229 true [.inr (.inr 141), .inl (W1 143 4)] V2 (fun z3 V3 => z_Ex (z_MS d) 233 Q true 40 [some (.inr (.inr 141)), some (.inl a0), some (.inl (W1 143 4)), some (.inl 1), none, none] [] 0 0 V3))))) :
    z_MS (d + 1) 233 true [.inr (.inr 141), .inl a0] V Q := by
  show z_Ex (z_MS d) 233 Q true 0 [some (.inr (.inr 141)), some (.inl a0), none, none, none, none] [] 0 0 V
  refine ze_aload_n (pc := 0) zr_233_0 rfl ?_
  refine ze_iconst (pc := 1) zr_233_1 (by decide) ?_
  refine zq_putI (pc := 2) zr_233_2 (by decide) rfl h (fun W1 h => ?_)
  refine ze_aload_n (pc := 5) zr_233_5 rfl ?_
  refine ze_getfield (pc := 6) (v := .inr (.inr 143)) zr_233_6 rfl rfl ?_
  refine ze_iconst (pc := 9) zr_233_9 (by decide) ?_
  refine zq_iaload (pc := 10) (v := .inl (W1 143 4)) zr_233_10 rfl rfl (by decide) rfl ?_
  refine zq_istore_n (pc := 11) (ls2 := [some (.inr (.inr 141)), some (.inl a0), some (.inl (W1 143 4)), none, none, none]) zr_233_11 rfl rfl ?_
  refine ze_iload_n (pc := 12) zr_233_12 rfl ?_
  refine ze_i2l (pc := 13) zr_233_13 ?_
  refine ze_lconst (pc := 14) zr_233_14 ?_
  refine ze_ldc2 (pc := 15) (z := 2) zr_233_15 (by decide) rfl ?_
  refine ze_iload_n (pc := 18) zr_233_18 rfl ?_
  refine ze_i2l (pc := 19) zr_233_19 ?_
  refine ze_ladd (pc := 20) zr_233_20 ?_
  refine zq_callS1 (pc := 21) (as := [.inr (.inl a0), .inr (.inl 0), .inr (.inl (z_ladd 2 (W1 143 4)))]) (r := []) (kc2 := 0) (ks2 := 0) zr_233_21 rfl rfl rfl rfl ⟨rfl, rfl⟩ ⟨rfl, rfl, rfl⟩ h (fun z1 V1 h => ?_)
  refine zq_if_ne (pc := 24) (t := 29) zr_233_24 (by decide) (z_toif h) (fun h => ?_) (fun h => ?_)
  · refine ze_iconst (pc := 27) zr_233_27 (by decide) ?_
    exact zq_ret1 (pc := 28) zr_233_28 rfl h
  · refine ze_aload_n (pc := 29) zr_233_29 rfl ?_
    refine zq_callV0 (pc := 30) (as := [.inr (.inr 141)]) (r := []) (kc2 := 0) (ks2 := 0) zr_233_30 rfl (by decide) rfl rfl rfl rfl ⟨rfl, rfl⟩ rfl h (fun z2 V2 h => ?_)
    refine ze_aload_n (pc := 33) zr_233_33 rfl ?_
    refine ze_iload_n (pc := 34) zr_233_34 rfl ?_
    refine zq_callV0 (pc := 35) (as := [.inr (.inr 141), .inl (W1 143 4)]) (r := []) (kc2 := 0) (ks2 := 0) zr_233_35 rfl (by decide) rfl rfl rfl rfl ⟨rfl, rfl⟩ rfl h (fun z3 V3 h => ?_)
    refine ze_iconst (pc := 38) zr_233_38 (by decide) ?_
    refine zq_istore_n (pc := 39) (ls2 := [some (.inr (.inr 141)), some (.inl a0), some (.inl (W1 143 4)), some (.inl 1), none, none]) zr_233_39 rfl rfl ?_
    exact h
theorem zb233_141_p40 {d : Nat} {Q : Int → z_M → Prop} (l1 : Int) (l2 : Int) (l3 : Int) (o4 : Option z_V) (o5 : Option z_V) {V : z_M}
    (h : zI (l3 = 0) (zI (l1 = 0) (Q (V 141 47) V) (zI (l1 = 1) (Q (V 141 48) V) (zI (l1 = 2) (Q (V 141 49) V) (zGu (0 ≤ (z_sub l1 3) ∧ (z_sub l1 3) < 7) (∀ x171 : Int, x171 = V 164 (z_sub l1 3).toNat → Q x171 V))))) (z_MS d 221 true [.inr (.inr 141)] V (fun z4101 V4101 => z_Ex (z_MS d) 233 Q true 54 [some (.inr (.inr 141)), some (.inl l1), some (.inl l2), some (.inl l3), some (.inl 0), some (.inl 0)] [] 0 0 V4101))) :
    z_Ex (z_MS d) 233 Q true 40 [some (.inr (.inr 141)), some (.inl l1), some (.inl l2), some (.inl l3), o4, o5] [] 0 0 V := by
  refine ze_iload_n (pc := 40) zr_233_40 rfl ?_
  refine zq_if_eq (pc := 41) (t := 129) zr_233_41 (by decide) (z_toif h) (fun h => ?_) (fun h => ?_)
  · refine ze_iload_n (pc := 129) zr_233_129 rfl ?_
    refine zq_if_ne (pc := 130) (t := 140) zr_233_130 (by decide) (z_toif h) (fun h => ?_) (fun h => ?_)
    · refine ze_aload_n (pc := 133) zr_233_133 rfl ?_
      refine ze_getfield (pc := 134) (v := .inl (V 141 47)) zr_233_134 rfl rfl ?_
      refine ze_goto (pc := 137) (t := 172) zr_233_137 (by decide) ?_
      exact zq_ret1 (pc := 172) zr_233_172 rfl h
    · refine ze_iload_n (pc := 140) zr_233_140 rfl ?_
      refine ze_iconst (pc := 141) zr_233_141 (by decide) ?_
      refine zq_icmp_ne (pc := 142) (t := 152) zr_233_142 (by decide) (z_toif h) (fun h => ?_) (fun h => ?_)
      · refine ze_aload_n (pc := 145) zr_233_145 rfl ?_
        refine ze_getfield (pc := 146) (v := .inl (V 141 48)) zr_233_146 rfl rfl ?_
        refine ze_goto (pc := 149) (t := 172) zr_233_149 (by decide) ?_
        exact zq_ret1 (pc := 172) zr_233_172 rfl h
      · refine ze_iload_n (pc := 152) zr_233_152 rfl ?_
        refine ze_iconst (pc := 153) zr_233_153 (by decide) ?_
        refine zq_icmp_ne (pc := 154) (t := 164) zr_233_154 (by decide) (z_toif h) (fun h => ?_) (fun h => ?_)
        · refine ze_aload_n (pc := 157) zr_233_157 rfl ?_
          refine ze_getfield (pc := 158) (v := .inl (V 141 49)) zr_233_158 rfl rfl ?_
          refine ze_goto (pc := 161) (t := 172) zr_233_161 (by decide) ?_
          exact zq_ret1 (pc := 172) zr_233_172 rfl h
        · refine ze_aload_n (pc := 164) zr_233_164 rfl ?_
          refine ze_getfield (pc := 165) (v := .inr (.inr 164)) zr_233_165 rfl rfl ?_
          refine ze_iload_n (pc := 168) zr_233_168 rfl ?_
          refine ze_iconst (pc := 169) zr_233_169 (by decide) ?_
          refine ze_isub (pc := 170) zr_233_170 ?_
          refine z_gk h (fun g171 h => ?_)
          refine zl_iaload (pc := 171) zr_233_171 rfl rfl g171 h (fun x171 h => ?_)
          exact zq_ret1 (pc := 172) zr_233_172 rfl h
  · refine ze_aload_n (pc := 44) zr_233_44 rfl ?_
    refine zq_callV0 (pc := 45) (as := [.inr (.inr 141)]) (r := []) (kc2 := 0) (ks2 := 0) zr_233_45 rfl (by decide) rfl rfl rfl rfl ⟨rfl, rfl⟩ rfl h (fun z4101 V4101 h => ?_)
    refine ze_iconst (pc := 48) zr_233_48 (by decide) ?_
    refine zq_istore (pc := 49) (ls2 := [some (.inr (.inr 141)), some (.inl l1), some (.inl l2), some (.inl l3), some (.inl 0), o5]) zr_233_49 rfl rfl ?_
    refine ze_iconst (pc := 51) zr_233_51 (by decide) ?_
    refine zq_istore (pc := 52) (ls2 := [some (.inr (.inr 141)), some (.inl l1), some (.inl l2), some (.inl l3), some (.inl 0), some (.inl 0)]) zr_233_52 rfl rfl ?_
    exact h
theorem zb233_141_p54 {d : Nat} {Q : Int → z_M → Prop} (l1 : Int) (l2 : Int) (o3 : Option z_V) (l4 : Int) (l5 : Int) {V : z_M}
    (h : zI (l5 < l2) (zGu (0 ≤ l5 ∧ l5 < 7) (∀ x70 : Int, x70 = V 163 l5.toNat → z_MS d 225 true [.inr (.inr 141), .inl x70] V (fun z5505 V5505 => zGu (0 ≤ l5 ∧ l5 < 7) (∀ x84 : Int, x84 = V5505 163 l5.toNat → zGu (0 ≤ x84 ∧ x84 < 7) (∀ x85 : Int, x85 = V5505 158 x84.toNat → z_MS d 223 true [.inr (.inr 141), .inl z5505, .inl x85] V5505 (fun z5506 V5506 => z_Ex (z_MS d) 233 Q true 54 [some (.inr (.inr 141)), some (.inl l1), some (.inl l2), (cond (z_o2 o3) none o3), some (.inl (z_add l4 (if z5506 = 0 then 0 else 1))), some (.inl (z_add l5 1))] [] 0 0 V5506)))))) (z_MS d 224 true [.inr (.inr 141)] V (fun z5501 V5501 => z_MS d 147 true [.inl z5501] V5501 (fun z5502 V5502 => z_MS d 232 true [.inr (.inr 141), .inl l4, .inl z5502, .inl l2] V5502 (fun z5503 V5503 => z_MS d 230 true [.inr (.inr 141), .inl l2] V5503 (fun z5504 V5504 => z_Ex (z_MS d) 233 Q true 40 [some (.inr (.inr 141)), some (.inl l1), some (.inl l2), some (.inl z5504), some (.inl l4), some (.inl l5)] [] 0 0 V5504)))))) :
    z_Ex (z_MS d) 233 Q true 54 [some (.inr (.inr 141)), some (.inl l1), some (.inl l2), o3, some (.inl l4), some (.inl l5)] [] 0 0 V := by
  refine ze_iload (pc := 54) zr_233_54 rfl ?_
  refine ze_iload_n (pc := 56) zr_233_56 rfl ?_
  refine zq_icmp_ge (pc := 57) (t := 106) zr_233_57 (by decide) (z_toif h) (fun h => ?_) (fun h => ?_)
  · refine ze_iload (pc := 60) zr_233_60 rfl ?_
    refine ze_aload_n (pc := 62) zr_233_62 rfl ?_
    refine ze_aload_n (pc := 63) zr_233_63 rfl ?_
    refine ze_aload_n (pc := 64) zr_233_64 rfl ?_
    refine ze_getfield (pc := 65) (v := .inr (.inr 163)) zr_233_65 rfl rfl ?_
    refine ze_iload (pc := 68) zr_233_68 rfl ?_
    refine z_gk h (fun g70 h => ?_)
    refine zl_iaload (pc := 70) zr_233_70 rfl rfl g70 h (fun x70 h => ?_)
    refine zq_callV1 (pc := 71) (as := [.inr (.inr 141), .inl x70]) (r := [.inr (.inr 141), .inl l4]) (kc2 := 0) (ks2 := 0) zr_233_71 rfl (by decide) rfl rfl rfl rfl ⟨rfl, rfl⟩ ⟨rfl, rfl, rfl⟩ h (fun z5505 V5505 h => ?_)
    refine ze_aload_n (pc := 74) zr_233_74 rfl ?_
    refine ze_getfield (pc := 75) (v := .inr (.inr 158)) zr_233_75 rfl rfl ?_
    refine ze_aload_n (pc := 78) zr_233_78 rfl ?_
    refine ze_getfield (pc := 79) (v := .inr (.inr 163)) zr_233_79 rfl rfl ?_
    refine ze_iload (pc := 82) zr_233_82 rfl ?_
    refine z_gk h (fun g84 h => ?_)
    refine zl_iaload (pc := 84) zr_233_84 rfl rfl g84 h (fun x84 h => ?_)
    refine z_gk h (fun g85 h => ?_)
    refine zl_iaload (pc := 85) zr_233_85 rfl rfl g85 h (fun x85 h => ?_)
    refine zq_callV1 (pc := 86) (as := [.inr (.inr 141), .inl z5505, .inl x85]) (r := [.inl l4]) (kc2 := 0) (ks2 := 0) zr_233_86 rfl (by decide) rfl rfl rfl rfl ⟨rfl, rfl⟩ ⟨rfl, rfl, rfl⟩ h (fun z5506 V5506 h => ?_)
    have j89 : z_Ex (z_MS d) 233 Q true 97 [some (.inr (.inr 141)), some (.inl l1), some (.inl l2), o3, some (.inl l4), some (.inl l5)] [.inl (if z5506 = 0 then 0 else 1), .inl l4] 0 0 V5506 := by
      refine ze_iadd (pc := 97) zr_233_97 ?_
      refine zq_istore (pc := 98) (ls2 := [some (.inr (.inr 141)), some (.inl l1), some (.inl l2), (cond (z_o2 o3) none o3), some (.inl (z_add l4 (if z5506 = 0 then 0 else 1))), some (.inl l5)]) zr_233_98 rfl rfl ?_
      refine zq_iinc (pc := 100) (ls2 := [some (.inr (.inr 141)), some (.inl l1), some (.inl l2), (cond (z_o2 o3) none o3), some (.inl (z_add l4 (if z5506 = 0 then 0 else 1))), some (.inl (z_add l5 1))]) zr_233_100 rfl rfl rfl ?_
      refine ze_goto (pc := 103) (t := 54) zr_233_103 (by decide) ?_
      exact h
    refine ze_if_eq (pc := 89) (t := 96) zr_233_89 (by decide) (fun hc => ?_) (fun hc => ?_)
    · rw [if_pos (show z5506 = 0 from hc)] at j89
      refine ze_iconst (pc := 96) zr_233_96 (by decide) ?_
      exact j89
    · rw [if_neg (show ¬ (z5506 = 0) from hc)] at j89
      refine ze_iconst (pc := 92) zr_233_92 (by decide) ?_
      refine ze_goto (pc := 93) (t := 97) zr_233_93 (by decide) ?_
      exact j89
  · refine ze_aload_n (pc := 106) zr_233_106 rfl ?_
    refine ze_iload (pc := 107) zr_233_107 rfl ?_
    refine ze_aload_n (pc := 109) zr_233_109 rfl ?_
    refine zq_callV1 (pc := 110) (as := [.inr (.inr 141)]) (r := [.inl l4, .inr (.inr 141)]) (kc2 := 0) (ks2 := 0) zr_233_110 rfl (by decide) rfl rfl rfl rfl ⟨rfl, rfl⟩ ⟨rfl, rfl, rfl⟩ h (fun z5501 V5501 h => ?_)
    refine zq_callS1 (pc := 113) (as := [.inl z5501]) (r := [.inl l4, .inr (.inr 141)]) (kc2 := 0) (ks2 := 0) zr_233_113 rfl rfl rfl rfl ⟨rfl, rfl⟩ ⟨rfl, rfl, rfl⟩ h (fun z5502 V5502 h => ?_)
    refine ze_iload_n (pc := 116) zr_233_116 rfl ?_
    refine zq_callV0 (pc := 117) (as := [.inr (.inr 141), .inl l4, .inl z5502, .inl l2]) (r := []) (kc2 := 0) (ks2 := 0) zr_233_117 rfl (by decide) rfl rfl rfl rfl ⟨rfl, rfl⟩ rfl h (fun z5503 V5503 h => ?_)
    refine ze_aload_n (pc := 120) zr_233_120 rfl ?_
    refine ze_iload_n (pc := 121) zr_233_121 rfl ?_
    refine zq_callV1 (pc := 122) (as := [.inr (.inr 141), .inl l2]) (r := []) (kc2 := 0) (ks2 := 0) zr_233_122 rfl (by decide) rfl rfl rfl rfl ⟨rfl, rfl⟩ ⟨rfl, rfl, rfl⟩ h (fun z5504 V5504 h => ?_)
    refine zq_istore_n (pc := 125) (ls2 := [some (.inr (.inr 141)), some (.inl l1), some (.inl l2), some (.inl z5504), some (.inl l4), some (.inl l5)]) zr_233_125 rfl rfl ?_
    refine ze_goto (pc := 126) (t := 40) zr_233_126 (by decide) ?_
    exact h
theorem zb234_141 {d : Nat} {Q : Int → z_M → Prop}  {V : z_M}
    (h : z_MS d 154 true [.inr (.inr 141)] V (fun z1 V1 => z_MS d 229 true [.inr (.inr 141), .inl z1] V1 (fun z2 V2 => z_Ex (z_MS d) 234 Q true 12 [some (.inr (.inr 141)), some (.inl z1), some (.inl 1), none] [] 0 0 V2))) :
    z_MS (d + 1) 234 true [.inr (.inr 141)] V Q := by
  show z_Ex (z_MS d) 234 Q true 0 [some (.inr (.inr 141)), none, none, none] [] 0 0 V
  refine ze_aload_n (pc := 0) zr_234_0 rfl ?_
  refine zq_callV1 (pc := 1) (as := [.inr (.inr 141)]) (r := []) (kc2 := 0) (ks2 := 0) zr_234_1 rfl (by decide) rfl rfl rfl rfl ⟨rfl, rfl⟩ ⟨rfl, rfl, rfl⟩ h (fun z1 V1 h => ?_)
  refine zq_istore_n (pc := 4) (ls2 := [some (.inr (.inr 141)), some (.inl z1), none, none]) zr_234_4 rfl rfl ?_
  refine ze_aload_n (pc := 5) zr_234_5 rfl ?_
  refine ze_iload_n (pc := 6) zr_234_6 rfl ?_
  refine zq_callV0 (pc := 7) (as := [.inr (.inr 141), .inl z1]) (r := []) (kc2 := 0) (ks2 := 0) zr_234_7 rfl (by decide) rfl rfl rfl rfl ⟨rfl, rfl⟩ rfl h (fun z2 V2 h => ?_)
  refine ze_iconst (pc := 10) zr_234_10 (by decide) ?_
  refine zq_istore_n (pc := 11) (ls2 := [some (.inr (.inr 141)), some (.inl z1), some (.inl 1), none]) zr_234_11 rfl rfl ?_
  exact h
theorem zb234_141_p12 {d : Nat} {Q : Int → z_M → Prop} (l1 : Int) (l2 : Int) (o3 : Option z_V) {V : z_M}
    (h : zI (l2 = 0) (Q 0 V) (z_Ex (z_MS d) 234 Q true 18 [some (.inr (.inr 141)), some (.inl l1), some (.inl l2), some (.inl 0)] [] 0 0 V)) :
    z_Ex (z_MS d) 234 Q true 12 [some (.inr (.inr 141)), some (.inl l1), some (.inl l2), o3] [] 0 0 V := by
  refine ze_iload_n (pc := 12) zr_234_12 rfl ?_
  refine zq_if_eq (pc := 13) (t := 75) zr_234_13 (by decide) (z_toif h) (fun h => ?_) (fun h => ?_)
  · exact ze_vret (pc := 75) zr_234_75 rfl h
  · refine ze_iconst (pc := 16) zr_234_16 (by decide) ?_
    refine zq_istore_n (pc := 17) (ls2 := [some (.inr (.inr 141)), some (.inl l1), some (.inl l2), some (.inl 0)]) zr_234_17 rfl rfl ?_
    exact h
theorem zb234_141_p18 {d : Nat} {Q : Int → z_M → Prop} (l1 : Int) (o2 : Option z_V) (l3 : Int) {V : z_M}
    (h : zI (l3 < l1) (zGu (0 ≤ l3 ∧ l3 < 7) (∀ x33 : Int, x33 = V 163 l3.toNat → zGu (0 ≤ l3 ∧ l3 < 12) (∀ W1901, W1901 = z_up V 155 l3.toNat x33 → z_Ex (z_MS d) 234 Q true 18 [some (.inr (.inr 141)), some (.inl l1), (cond (z_o2 o2) none o2), some (.inl (z_add l3 1))] [] 0 0 W1901))) (z_MS d 202 true [.inr (.inr 141)] V (fun z1901 V1901 => z_MS d 226 true [.inr (.inr 141)] V1901 (fun z1902 V1902 => z_MS d 147 true [.inl z1902] V1902 (fun z1903 V1903 => z_MS d 224 true [.inr (.inr 141)] V1903 (fun z1904 V1904 => z_MS d 147 true [.inl z1904] V1904 (fun z1905 V1905 => z_MS d 232 true [.inr (.inr 141), .inl z1903, .inl z1905, .inl l1] V1905 (fun z1906 V1906 => z_MS d 230 true [.inr (.inr 141), .inl l1] V1906 (fun z1907 V1907 => z_Ex (z_MS d) 234 Q true 12 [some (.inr (.inr 141)), some (.inl l1), some (.inl z1907), some (.inl z1903)] [] 0 0 V1907))))))))) :
    z_Ex (z_MS d) 234 Q true 18 [some (.inr (.inr 141)), some (.inl l1), o2, some (.inl l3)] [] 0 0 V := by
  refine ze_iload_n (pc := 18) zr_234_18 rfl ?_
  refine ze_iload_n (pc := 19) zr_234_19 rfl ?_
  refine zq_icmp_ge (pc := 20) (t := 41) zr_234_20 (by decide) (z_toif h) (fun h => ?_) (fun h => ?_)
  · refine ze_aload_n (pc := 23) zr_234_23 rfl ?_
    refine ze_getfield (pc := 24) (v := .inr (.inr 155)) zr_234_24 rfl rfl ?_
    refine ze_iload_n (pc := 27) zr_234_27 rfl ?_
    refine ze_aload_n (pc := 28) zr_234_28 rfl ?_
    refine ze_getfield (pc := 29) (v := .inr (.inr 163)) zr_234_29 rfl rfl ?_
    refine ze_iload_n (pc := 32) zr_234_32 rfl ?_
    refine z_gk h (fun g33 h => ?_)
    refine zl_iaload (pc := 33) zr_234_33 rfl rfl g33 h (fun x33 h => ?_)
    refine z_gk h (fun g34 h => ?_)
    refine zq_iastore (pc := 34) zr_234_34 (by decide) rfl g34 rfl h (fun W1901 h => ?_)
    refine zq_iinc (pc := 35) (ls2 := [some (.inr (.inr 141)), some (.inl l1), (cond (z_o2 o2) none o2), some (.inl (z_add l3 1))]) zr_234_35 rfl rfl rfl ?_
    refine ze_goto (pc := 38) (t := 18) zr_234_38 (by decide) ?_
    exact h
  · refine ze_aload_n (pc := 41) zr_234_41 rfl ?_
    refine zq_callV0 (pc := 42) (as := [.inr (.inr 141)]) (r := []) (kc2 := 0) (ks2 := 0) zr_234_42 rfl (by decide) rfl rfl rfl rfl ⟨rfl, rfl⟩ rfl h (fun z1901 V1901 h => ?_)
    refine ze_aload_n (pc := 45) zr_234_45 rfl ?_
    refine zq_callV1 (pc := 46) (as := [.inr (.inr 141)]) (r := []) (kc2 := 0) (ks2 := 0) zr_234_46 rfl (by decide) rfl rfl rfl rfl ⟨rfl, rfl⟩ ⟨rfl, rfl, rfl⟩ h (fun z1902 V1902 h => ?_)
    refine zq_callS1 (pc := 49) (as := [.inl z1902]) (r := []) (kc2 := 0) (ks2 := 0) zr_234_49 rfl rfl rfl rfl ⟨rfl, rfl⟩ ⟨rfl, rfl, rfl⟩ h (fun z1903 V1903 h => ?_)
    refine zq_istore_n (pc := 52) (ls2 := [some (.inr (.inr 141)), some (.inl l1), (cond (z_o2 o2) none o2), some (.inl z1903)]) zr_234_52 rfl rfl ?_
    refine ze_aload_n (pc := 53) zr_234_53 rfl ?_
    refine ze_iload_n (pc := 54) zr_234_54 rfl ?_
    refine ze_aload_n (pc := 55) zr_234_55 rfl ?_
    refine zq_callV1 (pc := 56) (as := [.inr (.inr 141)]) (r := [.inl z1903, .inr (.inr 141)]) (kc2 := 0) (ks2 := 0) zr_234_56 rfl (by decide) rfl rfl rfl rfl ⟨rfl, rfl⟩ ⟨rfl, rfl, rfl⟩ h (fun z1904 V1904 h => ?_)
    refine zq_callS1 (pc := 59) (as := [.inl z1904]) (r := [.inl z1903, .inr (.inr 141)]) (kc2 := 0) (ks2 := 0) zr_234_59 rfl rfl rfl rfl ⟨rfl, rfl⟩ ⟨rfl, rfl, rfl⟩ h (fun z1905 V1905 h => ?_)
    refine ze_iload_n (pc := 62) zr_234_62 rfl ?_
    refine zq_callV0 (pc := 63) (as := [.inr (.inr 141), .inl z1903, .inl z1905, .inl l1]) (r := []) (kc2 := 0) (ks2 := 0) zr_234_63 rfl (by decide) rfl rfl rfl rfl ⟨rfl, rfl⟩ rfl h (fun z1906 V1906 h => ?_)
    refine ze_aload_n (pc := 66) zr_234_66 rfl ?_
    refine ze_iload_n (pc := 67) zr_234_67 rfl ?_
    refine zq_callV1 (pc := 68) (as := [.inr (.inr 141), .inl l1]) (r := []) (kc2 := 0) (ks2 := 0) zr_234_68 rfl (by decide) rfl rfl rfl rfl ⟨rfl, rfl⟩ ⟨rfl, rfl, rfl⟩ h (fun z1907 V1907 h => ?_)
    refine zq_istore_n (pc := 71) (ls2 := [some (.inr (.inr 141)), some (.inl l1), some (.inl z1907), some (.inl z1903)]) zr_234_71 rfl rfl ?_
    refine ze_goto (pc := 72) (t := 12) zr_234_72 (by decide) ?_
    exact h
theorem zb235_141 {d : Nat} {Q : Int → z_M → Prop} (a0 : Int) {V : z_M}
    (h : ∀ W1, W1 = z_up V 141 0 0 → z_MS d 154 true [.inr (.inr 141)] W1 (fun z1 V1 => zI (6 < z1) (Q (-1) V1) (z_MS d 154 true [.inr (.inr 141)] V1 (fun z2 V2 => z_MS d 145 true [.inr (.inl a0), .inr (.inl 0), .inr (.inl (z_ladd 2 z2))] V2 (fun z3 V3 => zI (z3 = 0) (Q (-1) V3) (z_MS d 234 true [.inr (.inr 141)] V3 (fun z4 V4 => zI (a0 = 0) (Q (V4 141 47) V4) (zI (a0 = 1) (Q (V4 141 48) V4) (zI (a0 = 2) (Q (V4 141 49) V4) (zGu (0 ≤ (z_sub a0 3) ∧ (z_sub a0 3) < 7) (∀ x80 : Int, x80 = V4 164 (z_sub a0 3).toNat → Q x80 V4))))))))))) :
    z_MS (d + 1) 235 true [.inr (.inr 141), .inl a0] V Q := by
  show z_Ex (z_MS d) 235 Q true 0 [some (.inr (.inr 141)), some (.inl a0)] [] 0 0 V
  refine ze_aload_n (pc := 0) zr_235_0 rfl ?_
  refine ze_iconst (pc := 1) zr_235_1 (by decide) ?_
  refine zq_putI (pc := 2) zr_235_2 (by decide) rfl h (fun W1 h => ?_)
  refine ze_aload_n (pc := 5) zr_235_5 rfl ?_
  refine zq_callV1 (pc := 6) (as := [.inr (.inr 141)]) (r := []) (kc2 := 0) (ks2 := 0) zr_235_6 rfl (by decide) rfl rfl rfl rfl ⟨rfl, rfl⟩ ⟨rfl, rfl, rfl⟩ h (fun z1 V1 h => ?_)
  refine ze_bipush (pc := 9) zr_235_9 (by decide) ?_
  refine zq_icmp_gt (pc := 11) (t := 32) zr_235_11 (by decide) (z_toif h) (fun h => ?_) (fun h => ?_)
  · refine ze_iconst (pc := 32) zr_235_32 (by decide) ?_
    exact zq_ret1 (pc := 33) zr_235_33 rfl h
  · refine ze_iload_n (pc := 14) zr_235_14 rfl ?_
    refine ze_i2l (pc := 15) zr_235_15 ?_
    refine ze_lconst (pc := 16) zr_235_16 ?_
    refine ze_ldc2 (pc := 17) (z := 2) zr_235_17 (by decide) rfl ?_
    refine ze_aload_n (pc := 20) zr_235_20 rfl ?_
    refine zq_callV1 (pc := 21) (as := [.inr (.inr 141)]) (r := [.inr (.inl 2), .inr (.inl 0), .inr (.inl a0)]) (kc2 := 0) (ks2 := 0) zr_235_21 rfl (by decide) rfl rfl rfl rfl ⟨rfl, rfl⟩ ⟨rfl, rfl, rfl⟩ h (fun z2 V2 h => ?_)
    refine ze_i2l (pc := 24) zr_235_24 ?_
    refine ze_ladd (pc := 25) zr_235_25 ?_
    refine zq_callS1 (pc := 26) (as := [.inr (.inl a0), .inr (.inl 0), .inr (.inl (z_ladd 2 z2))]) (r := []) (kc2 := 0) (ks2 := 0) zr_235_26 rfl rfl rfl rfl ⟨rfl, rfl⟩ ⟨rfl, rfl, rfl⟩ h (fun z3 V3 h => ?_)
    refine zq_if_ne (pc := 29) (t := 34) zr_235_29 (by decide) (z_toif h) (fun h => ?_) (fun h => ?_)
    · refine ze_iconst (pc := 32) zr_235_32 (by decide) ?_
      exact zq_ret1 (pc := 33) zr_235_33 rfl h
    · refine ze_aload_n (pc := 34) zr_235_34 rfl ?_
      refine zq_callV0 (pc := 35) (as := [.inr (.inr 141)]) (r := []) (kc2 := 0) (ks2 := 0) zr_235_35 rfl (by decide) rfl rfl rfl rfl ⟨rfl, rfl⟩ rfl h (fun z4 V4 h => ?_)
      refine ze_iload_n (pc := 38) zr_235_38 rfl ?_
      refine zq_if_ne (pc := 39) (t := 49) zr_235_39 (by decide) (z_toif h) (fun h => ?_) (fun h => ?_)
      · refine ze_aload_n (pc := 42) zr_235_42 rfl ?_
        refine ze_getfield (pc := 43) (v := .inl (V4 141 47)) zr_235_43 rfl rfl ?_
        refine ze_goto (pc := 46) (t := 81) zr_235_46 (by decide) ?_
        exact zq_ret1 (pc := 81) zr_235_81 rfl h
      · refine ze_iload_n (pc := 49) zr_235_49 rfl ?_
        refine ze_iconst (pc := 50) zr_235_50 (by decide) ?_
        refine zq_icmp_ne (pc := 51) (t := 61) zr_235_51 (by decide) (z_toif h) (fun h => ?_) (fun h => ?_)
        · refine ze_aload_n (pc := 54) zr_235_54 rfl ?_
          refine ze_getfield (pc := 55) (v := .inl (V4 141 48)) zr_235_55 rfl rfl ?_
          refine ze_goto (pc := 58) (t := 81) zr_235_58 (by decide) ?_
          exact zq_ret1 (pc := 81) zr_235_81 rfl h
        · refine ze_iload_n (pc := 61) zr_235_61 rfl ?_
          refine ze_iconst (pc := 62) zr_235_62 (by decide) ?_
          refine zq_icmp_ne (pc := 63) (t := 73) zr_235_63 (by decide) (z_toif h) (fun h => ?_) (fun h => ?_)
          · refine ze_aload_n (pc := 66) zr_235_66 rfl ?_
            refine ze_getfield (pc := 67) (v := .inl (V4 141 49)) zr_235_67 rfl rfl ?_
            refine ze_goto (pc := 70) (t := 81) zr_235_70 (by decide) ?_
            exact zq_ret1 (pc := 81) zr_235_81 rfl h
          · refine ze_aload_n (pc := 73) zr_235_73 rfl ?_
            refine ze_getfield (pc := 74) (v := .inr (.inr 164)) zr_235_74 rfl rfl ?_
            refine ze_iload_n (pc := 77) zr_235_77 rfl ?_
            refine ze_iconst (pc := 78) zr_235_78 (by decide) ?_
            refine ze_isub (pc := 79) zr_235_79 ?_
            refine z_gk h (fun g80 h => ?_)
            refine zl_iaload (pc := 80) zr_235_80 rfl rfl g80 h (fun x80 h => ?_)
            exact zq_ret1 (pc := 81) zr_235_81 rfl h
theorem zb236_141 {d : Nat} {Q : Int → z_M → Prop}  {V : z_M}
    (h : ∀ W1, W1 = z_up V 141 0 0 → z_MS d 154 true [.inr (.inr 141)] W1 (fun z1 V1 => zI (6 < z1) (z_MS d 149 true [.inr (.inr 141), .inl (-3)] V1 (fun z3 V3 => Q z3 V3)) (z_MS d 234 true [.inr (.inr 141)] V1 (fun z2 V2 => z_Ex (z_MS d) 236 Q true 29 [some (.inr (.inr 141)), some (.inl 0), some (.inl 0), none, none] [] 0 0 V2)))) :
    z_MS (d + 1) 236 true [.inr (.inr 141)] V Q := by
  show z_Ex (z_MS d) 236 Q true 0 [some (.inr (.inr 141)), none, none, none, none] [] 0 0 V
  refine ze_aload_n (pc := 0) zr_236_0 rfl ?_
  refine ze_iconst (pc := 1) zr_236_1 (by decide) ?_
  refine zq_putI (pc := 2) zr_236_2 (by decide) rfl h (fun W1 h => ?_)
  refine ze_aload_n (pc := 5) zr_236_5 rfl ?_
  refine zq_callV1 (pc := 6) (as := [.inr (.inr 141)]) (r := []) (kc2 := 0) (ks2 := 0) zr_236_6 rfl (by decide) rfl rfl rfl rfl ⟨rfl, rfl⟩ ⟨rfl, rfl, rfl⟩ h (fun z1 V1 h => ?_)
  refine ze_bipush (pc := 9) zr_236_9 (by decide) ?_
  refine zq_icmp_le (pc := 11) (t := 21) zr_236_11 (by decide) (z_toif h) (fun h => ?_) (fun h => ?_)
  · refine ze_aload_n (pc := 14) zr_236_14 rfl ?_
    refine ze_bipush (pc := 15) zr_236_15 (by decide) ?_
    refine zq_callV1 (pc := 17) (as := [.inr (.inr 141), .inl (-3)]) (r := []) (kc2 := 0) (ks2 := 0) zr_236_17 rfl (by decide) rfl rfl rfl rfl ⟨rfl, rfl⟩ ⟨rfl, rfl, rfl⟩ h (fun z3 V3 h => ?_)
    exact zq_ret1 (pc := 20) zr_236_20 rfl h
  · refine ze_aload_n (pc := 21) zr_236_21 rfl ?_
    refine zq_callV0 (pc := 22) (as := [.inr (.inr 141)]) (r := []) (kc2 := 0) (ks2 := 0) zr_236_22 rfl (by decide) rfl rfl rfl rfl ⟨rfl, rfl⟩ rfl h (fun z2 V2 h => ?_)
    refine ze_iconst (pc := 25) zr_236_25 (by decide) ?_
    refine zq_istore_n (pc := 26) (ls2 := [some (.inr (.inr 141)), some (.inl 0), none, none, none]) zr_236_26 rfl rfl ?_
    refine ze_iconst (pc := 27) zr_236_27 (by decide) ?_
    refine zq_istore_n (pc := 28) (ls2 := [some (.inr (.inr 141)), some (.inl 0), some (.inl 0), none, none]) zr_236_28 rfl rfl ?_
    exact h
theorem zb236_141_p29 {d : Nat} {Q : Int → z_M → Prop} (l1 : Int) (l2 : Int) {V : z_M}
    (h : zI (l2 < 48) (zGu (0 ≤ (z_add 8 l2) ∧ (z_add 8 l2) < 5490) (∀ x48 : Int, x48 = V 143 (z_add 8 l2).toNat → zGu (0 ≤ l2 ∧ l2 < 48) (∀ W3001, W3001 = z_up V 165 l2.toNat x48 → z_Ex (z_MS d) 236 Q true 29 [some (.inr (.inr 141)), some (.inl l1), some (.inl (z_add l2 1)), none, none] [] 0 0 W3001))) (z_Ex (z_MS d) 236 Q true 58 [some (.inr (.inr 141)), some (.inl l1), some (.inl 0), none, none] [] 0 0 V)) :
    z_Ex (z_MS d) 236 Q true 29 [some (.inr (.inr 141)), some (.inl l1), some (.inl l2), none, none] [] 0 0 V := by
  refine ze_iload_n (pc := 29) zr_236_29 rfl ?_
  refine ze_bipush (pc := 30) zr_236_30 (by decide) ?_
  refine zq_icmp_ge (pc := 32) (t := 56) zr_236_32 (by decide) (z_toif h) (fun h => ?_) (fun h => ?_)
  · refine ze_aload_n (pc := 35) zr_236_35 rfl ?_
    refine ze_getfield (pc := 36) (v := .inr (.inr 165)) zr_236_36 rfl rfl ?_
    refine ze_iload_n (pc := 39) zr_236_39 rfl ?_
    refine ze_aload_n (pc := 40) zr_236_40 rfl ?_
    refine ze_getfield (pc := 41) (v := .inr (.inr 143)) zr_236_41 rfl rfl ?_
    refine ze_bipush (pc := 44) zr_236_44 (by decide) ?_
    refine ze_iload_n (pc := 46) zr_236_46 rfl ?_
    refine ze_iadd (pc := 47) zr_236_47 ?_
    refine z_gk h (fun g48 h => ?_)
    refine zl_iaload (pc := 48) zr_236_48 rfl rfl g48 h (fun x48 h => ?_)
    refine z_gk h (fun g49 h => ?_)
    refine zq_iastore (pc := 49) zr_236_49 (by decide) rfl g49 rfl h (fun W3001 h => ?_)
    refine zq_iinc (pc := 50) (ls2 := [some (.inr (.inr 141)), some (.inl l1), some (.inl (z_add l2 1)), none, none]) zr_236_50 rfl rfl rfl ?_
    refine ze_goto (pc := 53) (t := 29) zr_236_53 (by decide) ?_
    exact h
  · refine ze_iconst (pc := 56) zr_236_56 (by decide) ?_
    refine zq_istore_n (pc := 57) (ls2 := [some (.inr (.inr 141)), some (.inl l1), some (.inl 0), none, none]) zr_236_57 rfl rfl ?_
    exact h
theorem zb236_141_p58 {d : Nat} {Q : Int → z_M → Prop} (l1 : Int) (l2 : Int) (o3 : Option z_V) {V : z_M}
    (h : z_MS d 154 true [.inr (.inr 141)] V (fun z5901 V5901 => zI (l2 < z5901) (zGu (0 ≤ l2 ∧ l2 < 7) (∀ x72 : Int, x72 = V5901 164 l2.toNat → z_Ex (z_MS d) 236 Q true 86 [some (.inr (.inr 141)), some (.inl (z_add l1 (if x72 = l2 then 0 else 1))), some (.inl l2), some (.inl 0), none] [] 0 0 V5901)) (z_Ex (z_MS d) 236 Q true 133 [some (.inr (.inr 141)), some (.inl l1), some (.inl 0), o3, none] [] 0 0 V5901))) :
    z_Ex (z_MS d) 236 Q true 58 [some (.inr (.inr 141)), some (.inl l1), some (.inl l2), o3, none] [] 0 0 V := by
  refine ze_iload_n (pc := 58) zr_236_58 rfl ?_
  refine ze_aload_n (pc := 59) zr_236_59 rfl ?_
  refine zq_callV1 (pc := 60) (as := [.inr (.inr 141)]) (r := [.inl l2]) (kc2 := 0) (ks2 := 0) zr_236_60 rfl (by decide) rfl rfl rfl rfl ⟨rfl, rfl⟩ ⟨rfl, rfl, rfl⟩ h (fun z5901 V5901 h => ?_)
  refine zq_icmp_ge (pc := 63) (t := 131) zr_236_63 (by decide) (z_toif h) (fun h => ?_) (fun h => ?_)
  · refine ze_iload_n (pc := 66) zr_236_66 rfl ?_
    refine ze_aload_n (pc := 67) zr_236_67 rfl ?_
    refine ze_getfield (pc := 68) (v := .inr (.inr 164)) zr_236_68 rfl rfl ?_
    refine ze_iload_n (pc := 71) zr_236_71 rfl ?_
    refine z_gk h (fun g72 h => ?_)
    refine zl_iaload (pc := 72) zr_236_72 rfl rfl g72 h (fun x72 h => ?_)
    refine ze_iload_n (pc := 73) zr_236_73 rfl ?_
    have j74 : z_Ex (z_MS d) 236 Q true 82 [some (.inr (.inr 141)), some (.inl l1), some (.inl l2), o3, none] [.inl (if x72 = l2 then 0 else 1), .inl l1] 0 0 V5901 := by
      refine ze_iadd (pc := 82) zr_236_82 ?_
      refine zq_istore_n (pc := 83) (ls2 := [some (.inr (.inr 141)), some (.inl (z_add l1 (if x72 = l2 then 0 else 1))), some (.inl l2), o3, none]) zr_236_83 rfl rfl ?_
      refine ze_iconst (pc := 84) zr_236_84 (by decide) ?_
      refine zq_istore_n (pc := 85) (ls2 := [some (.inr (.inr 141)), some (.inl (z_add l1 (if x72 = l2 then 0 else 1))), some (.inl l2), some (.inl 0), none]) zr_236_85 rfl rfl ?_
      exact h
    refine ze_icmp_ne (pc := 74) (t := 81) zr_236_74 (by decide) (fun hc => ?_) (fun hc => ?_)
    · rw [if_pos (show x72 = l2 from hc)] at j74
      refine ze_iconst (pc := 77) zr_236_77 (by decide) ?_
      refine ze_goto (pc := 78) (t := 82) zr_236_78 (by decide) ?_
      exact j74
    · rw [if_neg (show ¬ (x72 = l2) from hc)] at j74
      refine ze_iconst (pc := 81) zr_236_81 (by decide) ?_
      exact j74
  · refine ze_iconst (pc := 131) zr_236_131 (by decide) ?_
    refine zq_istore_n (pc := 132) (ls2 := [some (.inr (.inr 141)), some (.inl l1), some (.inl 0), o3, none]) zr_236_132 rfl rfl ?_
    exact h
theorem zb236_141_p86 {d : Nat} {Q : Int → z_M → Prop} (l1 : Int) (l2 : Int) (l3 : Int) {V : z_M}
    (h : zI (l3 < 4) (zGu (0 ≤ l2 ∧ l2 < 7) (∀ x113 : Int, x113 = V 164 l2.toNat → zGu (0 ≤ (z_add (z_mul 4 x113) l3) ∧ (z_add (z_mul 4 x113) l3) < 48) (∀ x117 : Int, x117 = V 165 (z_add (z_mul 4 x113) l3).toNat → zGu (0 ≤ (z_add (z_add 8 (z_mul 4 l2)) l3) ∧ (z_add (z_add 8 (z_mul 4 l2)) l3) < 5490) (∀ W8701, W8701 = z_up V 143 (z_add (z_add 8 (z_mul 4 l2)) l3).toNat x117 → z_Ex (z_MS d) 236 Q true 86 [some (.inr (.inr 141)), some (.inl l1), some (.inl l2), some (.inl (z_add l3 1)), none] [] 0 0 W8701)))) (z_Ex (z_MS d) 236 Q true 58 [some (.inr (.inr 141)), some (.inl l1), some (.inl (z_add l2 1)), some (.inl l3), none] [] 0 0 V)) :
    z_Ex (z_MS d) 236 Q true 86 [some (.inr (.inr 141)), some (.inl l1), some (.inl l2), some (.inl l3), none] [] 0 0 V := by
  refine ze_iload_n (pc := 86) zr_236_86 rfl ?_
  refine ze_iconst (pc := 87) zr_236_87 (by decide) ?_
  refine zq_icmp_ge (pc := 88) (t := 125) zr_236_88 (by decide) (z_toif h) (fun h => ?_) (fun h => ?_)
  · refine ze_aload_n (pc := 91) zr_236_91 rfl ?_
    refine ze_getfield (pc := 92) (v := .inr (.inr 143)) zr_236_92 rfl rfl ?_
    refine ze_bipush (pc := 95) zr_236_95 (by decide) ?_
    refine ze_iconst (pc := 97) zr_236_97 (by decide) ?_
    refine ze_iload_n (pc := 98) zr_236_98 rfl ?_
    refine ze_imul (pc := 99) zr_236_99 ?_
    refine ze_iadd (pc := 100) zr_236_100 ?_
    refine ze_iload_n (pc := 101) zr_236_101 rfl ?_
    refine ze_iadd (pc := 102) zr_236_102 ?_
    refine ze_aload_n (pc := 103) zr_236_103 rfl ?_
    refine ze_getfield (pc := 104) (v := .inr (.inr 165)) zr_236_104 rfl rfl ?_
    refine ze_iconst (pc := 107) zr_236_107 (by decide) ?_
    refine ze_aload_n (pc := 108) zr_236_108 rfl ?_
    refine ze_getfield (pc := 109) (v := .inr (.inr 164)) zr_236_109 rfl rfl ?_
    refine ze_iload_n (pc := 112) zr_236_112 rfl ?_
    refine z_gk h (fun g113 h => ?_)
    refine zl_iaload (pc := 113) zr_236_113 rfl rfl g113 h (fun x113 h => ?_)
    refine ze_imul (pc := 114) zr_236_114 ?_
    refine ze_iload_n (pc := 115) zr_236_115 rfl ?_
    refine ze_iadd (pc := 116) zr_236_116 ?_
    refine z_gk h (fun g117 h => ?_)
    refine zl_iaload (pc := 117) zr_236_117 rfl rfl g117 h (fun x117 h => ?_)
    refine z_gk h (fun g118 h => ?_)
    refine zq_iastore (pc := 118) zr_236_118 (by decide) rfl g118 rfl h (fun W8701 h => ?_)
    refine zq_iinc (pc := 119) (ls2 := [some (.inr (.inr 141)), some (.inl l1), some (.inl l2), some (.inl (z_add l3 1)), none]) zr_236_119 rfl rfl rfl ?_
    refine ze_goto (pc := 122) (t := 86) zr_236_122 (by decide) ?_
    exact h
  · refine zq_iinc (pc := 125) (ls2 := [some (.inr (.inr 141)), some (.inl l1), some (.inl (z_add l2 1)), some (.inl l3), none]) zr_236_125 rfl rfl rfl ?_
    refine ze_goto (pc := 128) (t := 58) zr_236_128 (by decide) ?_
    exact h
theorem zb236_141_p133 {d : Nat} {Q : Int → z_M → Prop} (l1 : Int) (l2 : Int) (o3 : Option z_V) (o4 : Option z_V) {V : z_M}
    (h : zI (l2 < (V 143 4)) (zGu (0 ≤ (z_add (z_add 68 (z_mul 2 l2)) 1) ∧ (z_add (z_add 68 (z_mul 2 l2)) 1) < 5490) (∀ x155 : Int, x155 = V 143 (z_add (z_add 68 (z_mul 2 l2)) 1).toNat → z_Ex (z_MS d) 236 Q true 160 [some (.inr (.inr 141)), some (.inl l1), some (.inl l2), some (.inl x155), some (.inl 0)] [] 0 0 V)) (z_MS d 149 true [.inr (.inr 141), .inl l1] V (fun z13401 V13401 => Q z13401 V13401))) :
    z_Ex (z_MS d) 236 Q true 133 [some (.inr (.inr 141)), some (.inl l1), some (.inl l2), o3, o4] [] 0 0 V := by
  refine ze_iload_n (pc := 133) zr_236_133 rfl ?_
  refine ze_aload_n (pc := 134) zr_236_134 rfl ?_
  refine ze_getfield (pc := 135) (v := .inr (.inr 143)) zr_236_135 rfl rfl ?_
  refine ze_iconst (pc := 138) zr_236_138 (by decide) ?_
  refine zq_iaload (pc := 139) (v := .inl (V 143 4)) zr_236_139 rfl rfl (by decide) rfl ?_
  refine zq_icmp_ge (pc := 140) (t := 223) zr_236_140 (by decide) (z_toif h) (fun h => ?_) (fun h => ?_)
  · refine ze_aload_n (pc := 143) zr_236_143 rfl ?_
    refine ze_getfield (pc := 144) (v := .inr (.inr 143)) zr_236_144 rfl rfl ?_
    refine ze_bipush (pc := 147) zr_236_147 (by decide) ?_
    refine ze_iconst (pc := 149) zr_236_149 (by decide) ?_
    refine ze_iload_n (pc := 150) zr_236_150 rfl ?_
    refine ze_imul (pc := 151) zr_236_151 ?_
    refine ze_iadd (pc := 152) zr_236_152 ?_
    refine ze_iconst (pc := 153) zr_236_153 (by decide) ?_
    refine ze_iadd (pc := 154) zr_236_154 ?_
    refine z_gk h (fun g155 h => ?_)
    refine zl_iaload (pc := 155) zr_236_155 rfl rfl g155 h (fun x155 h => ?_)
    refine zq_istore_n (pc := 156) (ls2 := [some (.inr (.inr 141)), some (.inl l1), some (.inl l2), some (.inl x155), o4]) zr_236_156 rfl rfl ?_
    refine ze_iconst (pc := 157) zr_236_157 (by decide) ?_
    refine zq_istore (pc := 158) (ls2 := [some (.inr (.inr 141)), some (.inl l1), some (.inl l2), some (.inl x155), some (.inl 0)]) zr_236_158 rfl rfl ?_
    exact h
  · refine ze_aload_n (pc := 223) zr_236_223 rfl ?_
    refine ze_iload_n (pc := 224) zr_236_224 rfl ?_
    refine zq_callV1 (pc := 225) (as := [.inr (.inr 141), .inl l1]) (r := []) (kc2 := 0) (ks2 := 0) zr_236_225 rfl (by decide) rfl rfl rfl rfl ⟨rfl, rfl⟩ ⟨rfl, rfl, rfl⟩ h (fun z13401 V13401 h => ?_)
    exact zq_ret1 (pc := 228) zr_236_228 rfl h
theorem zb236_141_p160 {d : Nat} {Q : Int → z_M → Prop} (l1 : Int) (l2 : Int) (l3 : Int) (l4 : Int) {V : z_M}
    (h : z_MS d 154 true [.inr (.inr 141)] V (fun z16101 V16101 => zI (l4 < z16101) (zGu (0 ≤ l4 ∧ l4 < 7) (∀ x187 : Int, x187 = V16101 164 l4.toNat → zI (x187 = l3) (zGu (0 ≤ (z_add (z_add 68 (z_mul 2 l2)) 1) ∧ (z_add (z_add 68 (z_mul 2 l2)) 1) < 5490) (∀ W16102, W16102 = z_up V16101 143 (z_add (z_add 68 (z_mul 2 l2)) 1).toNat l4 → z_Ex (z_MS d) 236 Q true 160 [some (.inr (.inr 141)), some (.inl l1), some (.inl l2), some (.inl l3), some (.inl (z_add l4 1))] [] 0 0 W16102)) (zGu (0 ≤ (z_add (z_add 68 (z_mul 2 l2)) 1) ∧ (z_add (z_add 68 (z_mul 2 l2)) 1) < 5490) (∀ x209 : Int, x209 = V16101 143 (z_add (z_add 68 (z_mul 2 l2)) 1).toNat → zGu (0 ≤ (z_add (z_add 68 (z_mul 2 l2)) 1) ∧ (z_add (z_add 68 (z_mul 2 l2)) 1) < 5490) (∀ W16101, W16101 = z_up V16101 143 (z_add (z_add 68 (z_mul 2 l2)) 1).toNat x209 → z_Ex (z_MS d) 236 Q true 160 [some (.inr (.inr 141)), some (.inl l1), some (.inl l2), some (.inl l3), some (.inl (z_add l4 1))] [] 0 0 W16101))))) (z_Ex (z_MS d) 236 Q true 133 [some (.inr (.inr 141)), some (.inl l1), some (.inl (z_add l2 1)), some (.inl l3), some (.inl l4)] [] 0 0 V16101))) :
    z_Ex (z_MS d) 236 Q true 160 [some (.inr (.inr 141)), some (.inl l1), some (.inl l2), some (.inl l3), some (.inl l4)] [] 0 0 V := by
  refine ze_iload (pc := 160) zr_236_160 rfl ?_
  refine ze_aload_n (pc := 162) zr_236_162 rfl ?_
  refine zq_callV1 (pc := 163) (as := [.inr (.inr 141)]) (r := [.inl l4]) (kc2 := 0) (ks2 := 0) zr_236_163 rfl (by decide) rfl rfl rfl rfl ⟨rfl, rfl⟩ ⟨rfl, rfl, rfl⟩ h (fun z16101 V16101 h => ?_)
  refine zq_icmp_ge (pc := 166) (t := 217) zr_236_166 (by decide) (z_toif h) (fun h => ?_) (fun h => ?_)
  · refine ze_aload_n (pc := 169) zr_236_169 rfl ?_
    refine ze_getfield (pc := 170) (v := .inr (.inr 143)) zr_236_170 rfl rfl ?_
    refine ze_bipush (pc := 173) zr_236_173 (by decide) ?_
    refine ze_iconst (pc := 175) zr_236_175 (by decide) ?_
    refine ze_iload_n (pc := 176) zr_236_176 rfl ?_
    refine ze_imul (pc := 177) zr_236_177 ?_
    refine ze_iadd (pc := 178) zr_236_178 ?_
    refine ze_iconst (pc := 179) zr_236_179 (by decide) ?_
    refine ze_iadd (pc := 180) zr_236_180 ?_
    refine ze_aload_n (pc := 181) zr_236_181 rfl ?_
    refine ze_getfield (pc := 182) (v := .inr (.inr 164)) zr_236_182 rfl rfl ?_
    refine ze_iload (pc := 185) zr_236_185 rfl ?_
    refine z_gk h (fun g187 h => ?_)
    refine zl_iaload (pc := 187) zr_236_187 rfl rfl g187 h (fun x187 h => ?_)
    refine ze_iload_n (pc := 188) zr_236_188 rfl ?_
    refine zq_icmp_ne (pc := 189) (t := 197) zr_236_189 (by decide) (z_toif h) (fun h => ?_) (fun h => ?_)
    · refine ze_iload (pc := 192) zr_236_192 rfl ?_
      refine ze_goto (pc := 194) (t := 210) zr_236_194 (by decide) ?_
      refine z_gk h (fun g210 h => ?_)
      refine zq_iastore (pc := 210) zr_236_210 (by decide) rfl g210 rfl h (fun W16102 h => ?_)
      refine zq_iinc (pc := 211) (ls2 := [some (.inr (.inr 141)), some (.inl l1), some (.inl l2), some (.inl l3), some (.inl (z_add l4 1))]) zr_236_211 rfl rfl rfl ?_
      refine ze_goto (pc := 214) (t := 160) zr_236_214 (by decide) ?_
      exact h
    · refine ze_aload_n (pc := 197) zr_236_197 rfl ?_
      refine ze_getfield (pc := 198) (v := .inr (.inr 143)) zr_236_198 rfl rfl ?_
      refine ze_bipush (pc := 201) zr_236_201 (by decide) ?_
      refine ze_iconst (pc := 203) zr_236_203 (by decide) ?_
      refine ze_iload_n (pc := 204) zr_236_204 rfl ?_
      refine ze_imul (pc := 205) zr_236_205 ?_
      refine ze_iadd (pc := 206) zr_236_206 ?_
      refine ze_iconst (pc := 207) zr_236_207 (by decide) ?_
      refine ze_iadd (pc := 208) zr_236_208 ?_
      refine z_gk h (fun g209 h => ?_)
      refine zl_iaload (pc := 209) zr_236_209 rfl rfl g209 h (fun x209 h => ?_)
      refine z_gk h (fun g210 h => ?_)
      refine zq_iastore (pc := 210) zr_236_210 (by decide) rfl g210 rfl h (fun W16101 h => ?_)
      refine zq_iinc (pc := 211) (ls2 := [some (.inr (.inr 141)), some (.inl l1), some (.inl l2), some (.inl l3), some (.inl (z_add l4 1))]) zr_236_211 rfl rfl rfl ?_
      refine ze_goto (pc := 214) (t := 160) zr_236_214 (by decide) ?_
      exact h
  · refine zq_iinc (pc := 217) (ls2 := [some (.inr (.inr 141)), some (.inl l1), some (.inl (z_add l2 1)), some (.inl l3), some (.inl l4)]) zr_236_217 rfl rfl rfl ?_
    refine ze_goto (pc := 220) (t := 133) zr_236_220 (by decide) ?_
    exact h
theorem zb237_141 {d : Nat} {Q : Int → z_M → Prop} (a0 : Int) (a1 : Int) {V : z_M}
    (h : ∀ W1, W1 = z_up V 141 0 0 → z_MS d 155 true [.inr (.inr 141), .inl a0] W1 (fun z1 V1 => zI (z1 = 0) (z_MS d 149 true [.inr (.inr 141), .inl (-2)] V1 (fun z2 V2 => Q z2 V2)) (z_MS d 155 true [.inr (.inr 141), .inl a1] V1 (fun z3 V3 => zI (z3 = 0) (z_MS d 149 true [.inr (.inr 141), .inl (-2)] V3 (fun z5 V5 => Q z5 V5)) (zI (a0 = a1) (z_MS d 149 true [.inr (.inr 141), .inl (-3)] V3 (fun z4 V4 => Q z4 V4)) (z_Ex (z_MS d) 237 Q true 42 [some (.inr (.inr 141)), some (.inl a0), some (.inl a1), some (.inl 0), none] [] 0 0 V3)))))) :
    z_MS (d + 1) 237 true [.inr (.inr 141), .inl a0, .inl a1] V Q := by
  show z_Ex (z_MS d) 237 Q true 0 [some (.inr (.inr 141)), some (.inl a0), some (.inl a1), none, none] [] 0 0 V
  refine ze_aload_n (pc := 0) zr_237_0 rfl ?_
  refine ze_iconst (pc := 1) zr_237_1 (by decide) ?_
  refine zq_putI (pc := 2) zr_237_2 (by decide) rfl h (fun W1 h => ?_)
  refine ze_aload_n (pc := 5) zr_237_5 rfl ?_
  refine ze_iload_n (pc := 6) zr_237_6 rfl ?_
  refine zq_callV1 (pc := 7) (as := [.inr (.inr 141), .inl a0]) (r := []) (kc2 := 0) (ks2 := 0) zr_237_7 rfl (by decide) rfl rfl rfl rfl ⟨rfl, rfl⟩ ⟨rfl, rfl, rfl⟩ h (fun z1 V1 h => ?_)
  refine zq_if_eq (pc := 10) (t := 21) zr_237_10 (by decide) (z_toif h) (fun h => ?_) (fun h => ?_)
  · refine ze_aload_n (pc := 21) zr_237_21 rfl ?_
    refine ze_bipush (pc := 22) zr_237_22 (by decide) ?_
    refine zq_callV1 (pc := 24) (as := [.inr (.inr 141), .inl (-2)]) (r := []) (kc2 := 0) (ks2 := 0) zr_237_24 rfl (by decide) rfl rfl rfl rfl ⟨rfl, rfl⟩ ⟨rfl, rfl, rfl⟩ h (fun z2 V2 h => ?_)
    exact zq_ret1 (pc := 27) zr_237_27 rfl h
  · refine ze_aload_n (pc := 13) zr_237_13 rfl ?_
    refine ze_iload_n (pc := 14) zr_237_14 rfl ?_
    refine zq_callV1 (pc := 15) (as := [.inr (.inr 141), .inl a1]) (r := []) (kc2 := 0) (ks2 := 0) zr_237_15 rfl (by decide) rfl rfl rfl rfl ⟨rfl, rfl⟩ ⟨rfl, rfl, rfl⟩ h (fun z3 V3 h => ?_)
    refine zq_if_ne (pc := 18) (t := 28) zr_237_18 (by decide) (z_toif h) (fun h => ?_) (fun h => ?_)
    · refine ze_aload_n (pc := 21) zr_237_21 rfl ?_
      refine ze_bipush (pc := 22) zr_237_22 (by decide) ?_
      refine zq_callV1 (pc := 24) (as := [.inr (.inr 141), .inl (-2)]) (r := []) (kc2 := 0) (ks2 := 0) zr_237_24 rfl (by decide) rfl rfl rfl rfl ⟨rfl, rfl⟩ ⟨rfl, rfl, rfl⟩ h (fun z5 V5 h => ?_)
      exact zq_ret1 (pc := 27) zr_237_27 rfl h
    · refine ze_iload_n (pc := 28) zr_237_28 rfl ?_
      refine ze_iload_n (pc := 29) zr_237_29 rfl ?_
      refine zq_icmp_ne (pc := 30) (t := 40) zr_237_30 (by decide) (z_toif h) (fun h => ?_) (fun h => ?_)
      · refine ze_aload_n (pc := 33) zr_237_33 rfl ?_
        refine ze_bipush (pc := 34) zr_237_34 (by decide) ?_
        refine zq_callV1 (pc := 36) (as := [.inr (.inr 141), .inl (-3)]) (r := []) (kc2 := 0) (ks2 := 0) zr_237_36 rfl (by decide) rfl rfl rfl rfl ⟨rfl, rfl⟩ ⟨rfl, rfl, rfl⟩ h (fun z4 V4 h => ?_)
        exact zq_ret1 (pc := 39) zr_237_39 rfl h
      · refine ze_iconst (pc := 40) zr_237_40 (by decide) ?_
        refine zq_istore_n (pc := 41) (ls2 := [some (.inr (.inr 141)), some (.inl a0), some (.inl a1), some (.inl 0), none]) zr_237_41 rfl rfl ?_
        exact h
theorem zb237_141_p42 {d : Nat} {Q : Int → z_M → Prop} (l1 : Int) (l2 : Int) (l3 : Int) (o4 : Option z_V) {V : z_M}
    (h : zI (l3 < 4) (zGu (0 ≤ (z_add (z_add 8 (z_mul 4 l1)) l3) ∧ (z_add (z_add 8 (z_mul 4 l1)) l3) < 5490) (∀ x59 : Int, x59 = V 143 (z_add (z_add 8 (z_mul 4 l1)) l3).toNat → zGu (0 ≤ (z_add (z_add 8 (z_mul 4 l2)) l3) ∧ (z_add (z_add 8 (z_mul 4 l2)) l3) < 5490) (∀ x86 : Int, x86 = V 143 (z_add (z_add 8 (z_mul 4 l2)) l3).toNat → zGu (0 ≤ (z_add (z_add 8 (z_mul 4 l1)) l3) ∧ (z_add (z_add 8 (z_mul 4 l1)) l3) < 5490) (∀ W4301, W4301 = z_up V 143 (z_add (z_add 8 (z_mul 4 l1)) l3).toNat x86 → zGu (0 ≤ (z_add (z_add 8 (z_mul 4 l2)) l3) ∧ (z_add (z_add 8 (z_mul 4 l2)) l3) < 5490) (∀ W4302, W4302 = z_up W4301 143 (z_add (z_add 8 (z_mul 4 l2)) l3).toNat x59 → z_Ex (z_MS d) 237 Q true 42 [some (.inr (.inr 141)), some (.inl l1), some (.inl l2), some (.inl (z_add l3 1)), some (.inl x59)] [] 0 0 W4302))))) (z_Ex (z_MS d) 237 Q true 111 [some (.inr (.inr 141)), some (.inl l1), some (.inl l2), some (.inl 0), o4] [] 0 0 V)) :
    z_Ex (z_MS d) 237 Q true 42 [some (.inr (.inr 141)), some (.inl l1), some (.inl l2), some (.inl l3), o4] [] 0 0 V := by
  refine ze_iload_n (pc := 42) zr_237_42 rfl ?_
  refine ze_iconst (pc := 43) zr_237_43 (by decide) ?_
  refine zq_icmp_ge (pc := 44) (t := 109) zr_237_44 (by decide) (z_toif h) (fun h => ?_) (fun h => ?_)
  · refine ze_aload_n (pc := 47) zr_237_47 rfl ?_
    refine ze_getfield (pc := 48) (v := .inr (.inr 143)) zr_237_48 rfl rfl ?_
    refine ze_bipush (pc := 51) zr_237_51 (by decide) ?_
    refine ze_iconst (pc := 53) zr_237_53 (by decide) ?_
    refine ze_iload_n (pc := 54) zr_237_54 rfl ?_
    refine ze_imul (pc := 55) zr_237_55 ?_
    refine ze_iadd (pc := 56) zr_237_56 ?_
    refine ze_iload_n (pc := 57) zr_237_57 rfl ?_
    refine ze_iadd (pc := 58) zr_237_58 ?_
    refine z_gk h (fun g59 h => ?_)
    refine zl_iaload (pc := 59) zr_237_59 rfl rfl g59 h (fun x59 h => ?_)
    refine zq_istore (pc := 60) (ls2 := [some (.inr (.inr 141)), some (.inl l1), some (.inl l2), some (.inl l3), some (.inl x59)]) zr_237_60 rfl rfl ?_
    refine ze_aload_n (pc := 62) zr_237_62 rfl ?_
    refine ze_getfield (pc := 63) (v := .inr (.inr 143)) zr_237_63 rfl rfl ?_
    refine ze_bipush (pc := 66) zr_237_66 (by decide) ?_
    refine ze_iconst (pc := 68) zr_237_68 (by decide) ?_
    refine ze_iload_n (pc := 69) zr_237_69 rfl ?_
    refine ze_imul (pc := 70) zr_237_70 ?_
    refine ze_iadd (pc := 71) zr_237_71 ?_
    refine ze_iload_n (pc := 72) zr_237_72 rfl ?_
    refine ze_iadd (pc := 73) zr_237_73 ?_
    refine ze_aload_n (pc := 74) zr_237_74 rfl ?_
    refine ze_getfield (pc := 75) (v := .inr (.inr 143)) zr_237_75 rfl rfl ?_
    refine ze_bipush (pc := 78) zr_237_78 (by decide) ?_
    refine ze_iconst (pc := 80) zr_237_80 (by decide) ?_
    refine ze_iload_n (pc := 81) zr_237_81 rfl ?_
    refine ze_imul (pc := 82) zr_237_82 ?_
    refine ze_iadd (pc := 83) zr_237_83 ?_
    refine ze_iload_n (pc := 84) zr_237_84 rfl ?_
    refine ze_iadd (pc := 85) zr_237_85 ?_
    refine z_gk h (fun g86 h => ?_)
    refine zl_iaload (pc := 86) zr_237_86 rfl rfl g86 h (fun x86 h => ?_)
    refine z_gk h (fun g87 h => ?_)
    refine zq_iastore (pc := 87) zr_237_87 (by decide) rfl g87 rfl h (fun W4301 h => ?_)
    refine ze_aload_n (pc := 88) zr_237_88 rfl ?_
    refine ze_getfield (pc := 89) (v := .inr (.inr 143)) zr_237_89 rfl rfl ?_
    refine ze_bipush (pc := 92) zr_237_92 (by decide) ?_
    refine ze_iconst (pc := 94) zr_237_94 (by decide) ?_
    refine ze_iload_n (pc := 95) zr_237_95 rfl ?_
    refine ze_imul (pc := 96) zr_237_96 ?_
    refine ze_iadd (pc := 97) zr_237_97 ?_
    refine ze_iload_n (pc := 98) zr_237_98 rfl ?_
    refine ze_iadd (pc := 99) zr_237_99 ?_
    refine ze_iload (pc := 100) zr_237_100 rfl ?_
    refine z_gk h (fun g102 h => ?_)
    refine zq_iastore (pc := 102) zr_237_102 (by decide) rfl g102 rfl h (fun W4302 h => ?_)
    refine zq_iinc (pc := 103) (ls2 := [some (.inr (.inr 141)), some (.inl l1), some (.inl l2), some (.inl (z_add l3 1)), some (.inl x59)]) zr_237_103 rfl rfl rfl ?_
    refine ze_goto (pc := 106) (t := 42) zr_237_106 (by decide) ?_
    exact h
  · refine ze_iconst (pc := 109) zr_237_109 (by decide) ?_
    refine zq_istore_n (pc := 110) (ls2 := [some (.inr (.inr 141)), some (.inl l1), some (.inl l2), some (.inl 0), o4]) zr_237_110 rfl rfl ?_
    exact h
theorem zb237_141_p111 {d : Nat} {Q : Int → z_M → Prop} (l1 : Int) (l2 : Int) (l3 : Int) (o4 : Option z_V) {V : z_M}
    (h : zI (l3 < (V 143 4)) (zGu (0 ≤ (z_add (z_add 68 (z_mul 2 l3)) 1) ∧ (z_add (z_add 68 (z_mul 2 l3)) 1) < 5490) (∀ x133 : Int, x133 = V 143 (z_add (z_add 68 (z_mul 2 l3)) 1).toNat → zGu (0 ≤ (z_add (z_add 68 (z_mul 2 l3)) 1) ∧ (z_add (z_add 68 (z_mul 2 l3)) 1) < 5490) (∀ W11201, W11201 = z_up V 143 (z_add (z_add 68 (z_mul 2 l3)) 1).toNat (if x133 = l1 then l2 else (if x133 = l2 then l1 else x133)) → z_Ex (z_MS d) 237 Q true 111 [some (.inr (.inr 141)), some (.inl l1), some (.inl l2), some (.inl (z_add l3 1)), some (.inl x133)] [] 0 0 W11201))) (z_MS d 149 true [.inr (.inr 141), .inl 0] V (fun z11201 V11201 => Q z11201 V11201))) :
    z_Ex (z_MS d) 237 Q true 111 [some (.inr (.inr 141)), some (.inl l1), some (.inl l2), some (.inl l3), o4] [] 0 0 V := by
  refine ze_iload_n (pc := 111) zr_237_111 rfl ?_
  refine ze_aload_n (pc := 112) zr_237_112 rfl ?_
  refine ze_getfield (pc := 113) (v := .inr (.inr 143)) zr_237_113 rfl rfl ?_
  refine ze_iconst (pc := 116) zr_237_116 (by decide) ?_
  refine zq_iaload (pc := 117) (v := .inl (V 143 4)) zr_237_117 rfl rfl (by decide) rfl ?_
  refine zq_icmp_ge (pc := 118) (t := 177) zr_237_118 (by decide) (z_toif h) (fun h => ?_) (fun h => ?_)
  · refine ze_aload_n (pc := 121) zr_237_121 rfl ?_
    refine ze_getfield (pc := 122) (v := .inr (.inr 143)) zr_237_122 rfl rfl ?_
    refine ze_bipush (pc := 125) zr_237_125 (by decide) ?_
    refine ze_iconst (pc := 127) zr_237_127 (by decide) ?_
    refine ze_iload_n (pc := 128) zr_237_128 rfl ?_
    refine ze_imul (pc := 129) zr_237_129 ?_
    refine ze_iadd (pc := 130) zr_237_130 ?_
    refine ze_iconst (pc := 131) zr_237_131 (by decide) ?_
    refine ze_iadd (pc := 132) zr_237_132 ?_
    refine z_gk h (fun g133 h => ?_)
    refine zl_iaload (pc := 133) zr_237_133 rfl rfl g133 h (fun x133 h => ?_)
    refine zq_istore (pc := 134) (ls2 := [some (.inr (.inr 141)), some (.inl l1), some (.inl l2), some (.inl l3), some (.inl x133)]) zr_237_134 rfl rfl ?_
    refine ze_aload_n (pc := 136) zr_237_136 rfl ?_
    refine ze_getfield (pc := 137) (v := .inr (.inr 143)) zr_237_137 rfl rfl ?_
    refine ze_bipush (pc := 140) zr_237_140 (by decide) ?_
    refine ze_iconst (pc := 142) zr_237_142 (by decide) ?_
    refine ze_iload_n (pc := 143) zr_237_143 rfl ?_
    refine ze_imul (pc := 144) zr_237_144 ?_
    refine ze_iadd (pc := 145) zr_237_145 ?_
    refine ze_iconst (pc := 146) zr_237_146 (by decide) ?_
    refine ze_iadd (pc := 147) zr_237_147 ?_
    refine ze_iload (pc := 148) zr_237_148 rfl ?_
    refine ze_iload_n (pc := 150) zr_237_150 rfl ?_
    have j151 : z_Ex (z_MS d) 237 Q true 170 [some (.inr (.inr 141)), some (.inl l1), some (.inl l2), some (.inl l3), some (.inl x133)] [.inl (if x133 = l1 then l2 else (if x133 = l2 then l1 else x133)), .inl (z_add (z_add 68 (z_mul 2 l3)) 1), .inr (.inr 143)] 0 0 V := by
      refine z_gk h (fun g170 h => ?_)
      refine zq_iastore (pc := 170) zr_237_170 (by decide) rfl g170 rfl h (fun W11201 h => ?_)
      refine zq_iinc (pc := 171) (ls2 := [some (.inr (.inr 141)), some (.inl l1), some (.inl l2), some (.inl (z_add l3 1)), some (.inl x133)]) zr_237_171 rfl rfl rfl ?_
      refine ze_goto (pc := 174) (t := 111) zr_237_174 (by decide) ?_
      exact h
    refine ze_icmp_ne (pc := 151) (t := 158) zr_237_151 (by decide) (fun hc => ?_) (fun hc => ?_)
    · rw [if_pos (show x133 = l1 from hc)] at j151
      refine ze_iload_n (pc := 154) zr_237_154 rfl ?_
      refine ze_goto (pc := 155) (t := 170) zr_237_155 (by decide) ?_
      exact j151
    · rw [if_neg (show ¬ (x133 = l1) from hc)] at j151
      refine ze_iload (pc := 158) zr_237_158 rfl ?_
      refine ze_iload_n (pc := 160) zr_237_160 rfl ?_
      refine ze_icmp_ne (pc := 161) (t := 168) zr_237_161 (by decide) (fun hc => ?_) (fun hc => ?_)
      · rw [if_pos (show x133 = l2 from hc)] at j151
        refine ze_iload_n (pc := 164) zr_237_164 rfl ?_
        refine ze_goto (pc := 165) (t := 170) zr_237_165 (by decide) ?_
        exact j151
      · rw [if_neg (show ¬ (x133 = l2) from hc)] at j151
        refine ze_iload (pc := 168) zr_237_168 rfl ?_
        exact j151
  · refine ze_aload_n (pc := 177) zr_237_177 rfl ?_
    refine ze_iconst (pc := 178) zr_237_178 (by decide) ?_
    refine zq_callV1 (pc := 179) (as := [.inr (.inr 141), .inl 0]) (r := []) (kc2 := 0) (ks2 := 0) zr_237_179 rfl (by decide) rfl rfl rfl rfl ⟨rfl, rfl⟩ ⟨rfl, rfl, rfl⟩ h (fun z11201 V11201 h => ?_)
    exact zq_ret1 (pc := 182) zr_237_182 rfl h
theorem zb238_141 {d : Nat} {Q : Int → z_M → Prop} (a0 : Int) (a1 : Int) {V : z_M}
    (h : ∀ W1, W1 = z_up V 141 0 0 → z_MS d 154 true [.inr (.inr 141)] W1 (fun z1 V1 => z_MS d 145 true [.inr (.inl a0), .inr (.inl 0), .inr (.inl (z_lsub (z_shl 1 z1) 1))] V1 (fun z2 V2 => zI (z2 = 0) (Q (-1) V2) (z_MS d 145 true [.inr (.inl a1), .inr (.inl 0), .inr (.inl 2)] V2 (fun z3 V3 => zI (z3 = 0) (Q (-1) V3) (z_MS d 201 true [.inr (.inr 141)] V3 (fun z4 V4 => z_Ex (z_MS d) 238 Q true 43 [some (.inr (.inr 141)), some (.inl a0), some (.inl a1), some (.inl 0), none, none, none, none, none, none] [] 0 0 V4))))))) :
    z_MS (d + 1) 238 true [.inr (.inr 141), .inl a0, .inl a1] V Q := by
  show z_Ex (z_MS d) 238 Q true 0 [some (.inr (.inr 141)), some (.inl a0), some (.inl a1), none, none, none, none, none, none, none] [] 0 0 V
  refine ze_aload_n (pc := 0) zr_238_0 rfl ?_
  refine ze_iconst (pc := 1) zr_238_1 (by decide) ?_
  refine zq_putI (pc := 2) zr_238_2 (by decide) rfl h (fun W1 h => ?_)
  refine ze_iload_n (pc := 5) zr_238_5 rfl ?_
  refine ze_i2l (pc := 6) zr_238_6 ?_
  refine ze_lconst (pc := 7) zr_238_7 ?_
  refine ze_iconst (pc := 8) zr_238_8 (by decide) ?_
  refine ze_aload_n (pc := 9) zr_238_9 rfl ?_
  refine zq_callV1 (pc := 10) (as := [.inr (.inr 141)]) (r := [.inl 1, .inr (.inl 0), .inr (.inl a0)]) (kc2 := 0) (ks2 := 0) zr_238_10 rfl (by decide) rfl rfl rfl rfl ⟨rfl, rfl⟩ ⟨rfl, rfl, rfl⟩ h (fun z1 V1 h => ?_)
  refine ze_ishl (pc := 13) zr_238_13 ?_
  refine ze_i2l (pc := 14) zr_238_14 ?_
  refine ze_lconst (pc := 15) zr_238_15 ?_
  refine ze_lsub (pc := 16) zr_238_16 ?_
  refine zq_callS1 (pc := 17) (as := [.inr (.inl a0), .inr (.inl 0), .inr (.inl (z_lsub (z_shl 1 z1) 1))]) (r := []) (kc2 := 0) (ks2 := 0) zr_238_17 rfl rfl rfl rfl ⟨rfl, rfl⟩ ⟨rfl, rfl, rfl⟩ h (fun z2 V2 h => ?_)
  refine zq_if_eq (pc := 20) (t := 35) zr_238_20 (by decide) (z_toif h) (fun h => ?_) (fun h => ?_)
  · refine ze_iconst (pc := 35) zr_238_35 (by decide) ?_
    exact zq_ret1 (pc := 36) zr_238_36 rfl h
  · refine ze_iload_n (pc := 23) zr_238_23 rfl ?_
    refine ze_i2l (pc := 24) zr_238_24 ?_
    refine ze_lconst (pc := 25) zr_238_25 ?_
    refine ze_ldc2 (pc := 26) (z := 2) zr_238_26 (by decide) rfl ?_
    refine zq_callS1 (pc := 29) (as := [.inr (.inl a1), .inr (.inl 0), .inr (.inl 2)]) (r := []) (kc2 := 0) (ks2 := 0) zr_238_29 rfl rfl rfl rfl ⟨rfl, rfl⟩ ⟨rfl, rfl, rfl⟩ h (fun z3 V3 h => ?_)
    refine zq_if_ne (pc := 32) (t := 37) zr_238_32 (by decide) (z_toif h) (fun h => ?_) (fun h => ?_)
    · refine ze_iconst (pc := 35) zr_238_35 (by decide) ?_
      exact zq_ret1 (pc := 36) zr_238_36 rfl h
    · refine ze_aload_n (pc := 37) zr_238_37 rfl ?_
      refine zq_callV0 (pc := 38) (as := [.inr (.inr 141)]) (r := []) (kc2 := 0) (ks2 := 0) zr_238_38 rfl (by decide) rfl rfl rfl rfl ⟨rfl, rfl⟩ rfl h (fun z4 V4 h => ?_)
      refine ze_iconst (pc := 41) zr_238_41 (by decide) ?_
      refine zq_istore_n (pc := 42) (ls2 := [some (.inr (.inr 141)), some (.inl a0), some (.inl a1), some (.inl 0), none, none, none, none, none, none]) zr_238_42 rfl rfl ?_
      exact h
theorem zb238_141_p43 {d : Nat} {Q : Int → z_M → Prop} (l1 : Int) (l2 : Int) (l3 : Int) (o4 : Option z_V) (o5 : Option z_V) {V : z_M}
    (h : zI (l3 < (V 143 1)) (zGu (0 ≤ l3 ∧ l3 < 6) (∀ W4401, W4401 = z_up V 166 l3.toNat (-1) → z_MS d 154 true [.inr (.inr 141)] W4401 (fun z4401 V4401 => zI (z4401 = 0) (z_Ex (z_MS d) 238 Q true 87 [some (.inr (.inr 141)), some (.inl l1), some (.inl l2), some (.inl l3), some (.inl (-1)), some (.inl 0), none, none, none, none] [] 0 0 V4401) (z_MS d 154 true [.inr (.inr 141)] V4401 (fun z4402 V4402 => z_MS d 211 true [.inr (.inr 141), .inl l3, .inl (z_sub z4402 1)] V4402 (fun z4403 V4403 => z_Ex (z_MS d) 238 Q true 87 [some (.inr (.inr 141)), some (.inl l1), some (.inl l2), some (.inl l3), some (.inl z4403), some (.inl 0), none, none, none, none] [] 0 0 V4403)))))) (z_Ex (z_MS d) 238 Q true 149 [some (.inr (.inr 141)), some (.inl l1), some (.inl l2), some (.inl 0), some (.inl (-1)), some (.inl 63), some (.inl 0), none, none, none] [] 0 0 V)) :
    z_Ex (z_MS d) 238 Q true 43 [some (.inr (.inr 141)), some (.inl l1), some (.inl l2), some (.inl l3), o4, o5, none, none, none, none] [] 0 0 V := by
  refine ze_iload_n (pc := 43) zr_238_43 rfl ?_
  refine ze_aload_n (pc := 44) zr_238_44 rfl ?_
  refine ze_getfield (pc := 45) (v := .inr (.inr 143)) zr_238_45 rfl rfl ?_
  refine ze_iconst (pc := 48) zr_238_48 (by decide) ?_
  refine zq_iaload (pc := 49) (v := .inl (V 143 1)) zr_238_49 rfl rfl (by decide) rfl ?_
  refine zq_icmp_ge (pc := 50) (t := 137) zr_238_50 (by decide) (z_toif h) (fun h => ?_) (fun h => ?_)
  · refine ze_aload_n (pc := 53) zr_238_53 rfl ?_
    refine ze_getfield (pc := 54) (v := .inr (.inr 166)) zr_238_54 rfl rfl ?_
    refine ze_iload_n (pc := 57) zr_238_57 rfl ?_
    refine ze_iconst (pc := 58) zr_238_58 (by decide) ?_
    refine z_gk h (fun g59 h => ?_)
    refine zq_iastore (pc := 59) zr_238_59 (by decide) rfl g59 rfl h (fun W4401 h => ?_)
    refine ze_aload_n (pc := 60) zr_238_60 rfl ?_
    refine zq_callV1 (pc := 61) (as := [.inr (.inr 141)]) (r := []) (kc2 := 0) (ks2 := 0) zr_238_61 rfl (by decide) rfl rfl rfl rfl ⟨rfl, rfl⟩ ⟨rfl, rfl, rfl⟩ h (fun z4401 V4401 h => ?_)
    refine zq_if_ne (pc := 64) (t := 71) zr_238_64 (by decide) (z_toif h) (fun h => ?_) (fun h => ?_)
    · refine ze_iconst (pc := 67) zr_238_67 (by decide) ?_
      refine ze_goto (pc := 68) (t := 82) zr_238_68 (by decide) ?_
      refine zq_istore (pc := 82) (ls2 := [some (.inr (.inr 141)), some (.inl l1), some (.inl l2), some (.inl l3), some (.inl (-1)), o5, none, none, none, none]) zr_238_82 rfl rfl ?_
      refine ze_iconst (pc := 84) zr_238_84 (by decide) ?_
      refine zq_istore (pc := 85) (ls2 := [some (.inr (.inr 141)), some (.inl l1), some (.inl l2), some (.inl l3), some (.inl (-1)), some (.inl 0), none, none, none, none]) zr_238_85 rfl rfl ?_
      exact h
    · refine ze_aload_n (pc := 71) zr_238_71 rfl ?_
      refine ze_iload_n (pc := 72) zr_238_72 rfl ?_
      refine ze_aload_n (pc := 73) zr_238_73 rfl ?_
      refine zq_callV1 (pc := 74) (as := [.inr (.inr 141)]) (r := [.inl l3, .inr (.inr 141)]) (kc2 := 0) (ks2 := 0) zr_238_74 rfl (by decide) rfl rfl rfl rfl ⟨rfl, rfl⟩ ⟨rfl, rfl, rfl⟩ h (fun z4402 V4402 h => ?_)
      refine ze_iconst (pc := 77) zr_238_77 (by decide) ?_
      refine ze_isub (pc := 78) zr_238_78 ?_
      refine zq_callV1 (pc := 79) (as := [.inr (.inr 141), .inl l3, .inl (z_sub z4402 1)]) (r := []) (kc2 := 0) (ks2 := 0) zr_238_79 rfl (by decide) rfl rfl rfl rfl ⟨rfl, rfl⟩ ⟨rfl, rfl, rfl⟩ h (fun z4403 V4403 h => ?_)
      refine zq_istore (pc := 82) (ls2 := [some (.inr (.inr 141)), some (.inl l1), some (.inl l2), some (.inl l3), some (.inl z4403), o5, none, none, none, none]) zr_238_82 rfl rfl ?_
      refine ze_iconst (pc := 84) zr_238_84 (by decide) ?_
      refine zq_istore (pc := 85) (ls2 := [some (.inr (.inr 141)), some (.inl l1), some (.inl l2), some (.inl l3), some (.inl z4403), some (.inl 0), none, none, none, none]) zr_238_85 rfl rfl ?_
      exact h
  · refine ze_iconst (pc := 137) zr_238_137 (by decide) ?_
    refine zq_istore_n (pc := 138) (ls2 := [some (.inr (.inr 141)), some (.inl l1), some (.inl l2), some (.inl 0), o4, o5, none, none, none, none]) zr_238_138 rfl rfl ?_
    refine ze_iconst (pc := 139) zr_238_139 (by decide) ?_
    refine zq_istore (pc := 140) (ls2 := [some (.inr (.inr 141)), some (.inl l1), some (.inl l2), some (.inl 0), some (.inl (-1)), o5, none, none, none, none]) zr_238_140 rfl rfl ?_
    refine ze_bipush (pc := 142) zr_238_142 (by decide) ?_
    refine zq_istore (pc := 144) (ls2 := [some (.inr (.inr 141)), some (.inl l1), some (.inl l2), some (.inl 0), some (.inl (-1)), some (.inl 63), none, none, none, none]) zr_238_144 rfl rfl ?_
    refine ze_iconst (pc := 146) zr_238_146 (by decide) ?_
    refine zq_istore (pc := 147) (ls2 := [some (.inr (.inr 141)), some (.inl l1), some (.inl l2), some (.inl 0), some (.inl (-1)), some (.inl 63), some (.inl 0), none, none, none]) zr_238_147 rfl rfl ?_
    exact h
theorem zb238_141_p87 {d : Nat} {Q : Int → z_M → Prop} (l1 : Int) (l2 : Int) (l3 : Int) (l4 : Int) (l5 : Int) {V : z_M}
    (h : zI (l5 < l4) (zI (l5 = 0) (zGu (0 ≤ l5 ∧ l5 < 14) (∀ x121 : Int, x121 = V 160 l5.toNat → zGu (0 ≤ l3 ∧ l3 < 6) (∀ W8802, W8802 = z_up V 166 l3.toNat (z_or 0 (z_shl 1 x121)) → z_Ex (z_MS d) 238 Q true 87 [some (.inr (.inr 141)), some (.inl l1), some (.inl l2), some (.inl l3), some (.inl l4), some (.inl (z_add l5 1)), none, none, none, none] [] 0 0 W8802))) (zGu (0 ≤ l3 ∧ l3 < 6) (∀ x113 : Int, x113 = V 166 l3.toNat → zGu (0 ≤ l5 ∧ l5 < 14) (∀ x121 : Int, x121 = V 160 l5.toNat → zGu (0 ≤ l3 ∧ l3 < 6) (∀ W8801, W8801 = z_up V 166 l3.toNat (z_or x113 (z_shl 1 x121)) → z_Ex (z_MS d) 238 Q true 87 [some (.inr (.inr 141)), some (.inl l1), some (.inl l2), some (.inl l3), some (.inl l4), some (.inl (z_add l5 1)), none, none, none, none] [] 0 0 W8801))))) (z_Ex (z_MS d) 238 Q true 43 [some (.inr (.inr 141)), some (.inl l1), some (.inl l2), some (.inl (z_add l3 1)), some (.inl l4), some (.inl l5), none, none, none, none] [] 0 0 V)) :
    z_Ex (z_MS d) 238 Q true 87 [some (.inr (.inr 141)), some (.inl l1), some (.inl l2), some (.inl l3), some (.inl l4), some (.inl l5), none, none, none, none] [] 0 0 V := by
  refine ze_iload (pc := 87) zr_238_87 rfl ?_
  refine ze_iload (pc := 89) zr_238_89 rfl ?_
  refine zq_icmp_ge (pc := 91) (t := 131) zr_238_91 (by decide) (z_toif h) (fun h => ?_) (fun h => ?_)
  · refine ze_aload_n (pc := 94) zr_238_94 rfl ?_
    refine ze_getfield (pc := 95) (v := .inr (.inr 166)) zr_238_95 rfl rfl ?_
    refine ze_iload_n (pc := 98) zr_238_98 rfl ?_
    refine ze_iload (pc := 99) zr_238_99 rfl ?_
    refine zq_if_ne (pc := 101) (t := 108) zr_238_101 (by decide) (z_toif h) (fun h => ?_) (fun h => ?_)
    · refine ze_iconst (pc := 104) zr_238_104 (by decide) ?_
      refine ze_goto (pc := 105) (t := 114) zr_238_105 (by decide) ?_
      refine ze_iconst (pc := 114) zr_238_114 (by decide) ?_
      refine ze_aload_n (pc := 115) zr_238_115 rfl ?_
      refine ze_getfield (pc := 116) (v := .inr (.inr 160)) zr_238_116 rfl rfl ?_
      refine ze_iload (pc := 119) zr_238_119 rfl ?_
      refine z_gk h (fun g121 h => ?_)
      refine zl_iaload (pc := 121) zr_238_121 rfl rfl g121 h (fun x121 h => ?_)
      refine ze_ishl (pc := 122) zr_238_122 ?_
      refine ze_ior (pc := 123) zr_238_123 ?_
      refine z_gk h (fun g124 h => ?_)
      refine zq_iastore (pc := 124) zr_238_124 (by decide) rfl g124 rfl h (fun W8802 h => ?_)
      refine zq_iinc (pc := 125) (ls2 := [some (.inr (.inr 141)), some (.inl l1), some (.inl l2), some (.inl l3), some (.inl l4), some (.inl (z_add l5 1)), none, none, none, none]) zr_238_125 rfl rfl rfl ?_
      refine ze_goto (pc := 128) (t := 87) zr_238_128 (by decide) ?_
      exact h
    · refine ze_aload_n (pc := 108) zr_238_108 rfl ?_
      refine ze_getfield (pc := 109) (v := .inr (.inr 166)) zr_238_109 rfl rfl ?_
      refine ze_iload_n (pc := 112) zr_238_112 rfl ?_
      refine z_gk h (fun g113 h => ?_)
      refine zl_iaload (pc := 113) zr_238_113 rfl rfl g113 h (fun x113 h => ?_)
      refine ze_iconst (pc := 114) zr_238_114 (by decide) ?_
      refine ze_aload_n (pc := 115) zr_238_115 rfl ?_
      refine ze_getfield (pc := 116) (v := .inr (.inr 160)) zr_238_116 rfl rfl ?_
      refine ze_iload (pc := 119) zr_238_119 rfl ?_
      refine z_gk h (fun g121 h => ?_)
      refine zl_iaload (pc := 121) zr_238_121 rfl rfl g121 h (fun x121 h => ?_)
      refine ze_ishl (pc := 122) zr_238_122 ?_
      refine ze_ior (pc := 123) zr_238_123 ?_
      refine z_gk h (fun g124 h => ?_)
      refine zq_iastore (pc := 124) zr_238_124 (by decide) rfl g124 rfl h (fun W8801 h => ?_)
      refine zq_iinc (pc := 125) (ls2 := [some (.inr (.inr 141)), some (.inl l1), some (.inl l2), some (.inl l3), some (.inl l4), some (.inl (z_add l5 1)), none, none, none, none]) zr_238_125 rfl rfl rfl ?_
      refine ze_goto (pc := 128) (t := 87) zr_238_128 (by decide) ?_
      exact h
  · refine zq_iinc (pc := 131) (ls2 := [some (.inr (.inr 141)), some (.inl l1), some (.inl l2), some (.inl (z_add l3 1)), some (.inl l4), some (.inl l5), none, none, none, none]) zr_238_131 rfl rfl rfl ?_
    refine ze_goto (pc := 134) (t := 43) zr_238_134 (by decide) ?_
    exact h
theorem zb238_141_p149 {d : Nat} {Q : Int → z_M → Prop} (l1 : Int) (l2 : Int) (l3 : Int) (l4 : Int) (l5 : Int) (l6 : Int) (o7 : Option z_V) (o8 : Option z_V) (o9 : Option z_V) {V : z_M}
    (h : zI (l6 < (z_shl 1 (V 143 1))) (z_Ex (z_MS d) 238 Q true 171 [some (.inr (.inr 141)), some (.inl l1), some (.inl l2), some (.inl l3), some (.inl l4), some (.inl l5), some (.inl l6), some (.inl 0), some (.inl 1), some (.inl 0)] [] 0 0 V) (Q (if l2 = 0 then l3 else (if l3 = 0 then -1 else (if l2 = 1 then l4 else l5))) V)) :
    z_Ex (z_MS d) 238 Q true 149 [some (.inr (.inr 141)), some (.inl l1), some (.inl l2), some (.inl l3), some (.inl l4), some (.inl l5), some (.inl l6), o7, o8, o9] [] 0 0 V := by
  refine ze_iload (pc := 149) zr_238_149 rfl ?_
  refine ze_iconst (pc := 151) zr_238_151 (by decide) ?_
  refine ze_aload_n (pc := 152) zr_238_152 rfl ?_
  refine ze_getfield (pc := 153) (v := .inr (.inr 143)) zr_238_153 rfl rfl ?_
  refine ze_iconst (pc := 156) zr_238_156 (by decide) ?_
  refine zq_iaload (pc := 157) (v := .inl (V 143 1)) zr_238_157 rfl rfl (by decide) rfl ?_
  refine ze_ishl (pc := 158) zr_238_158 ?_
  refine zq_icmp_ge (pc := 159) (t := 300) zr_238_159 (by decide) (z_toif h) (fun h => ?_) (fun h => ?_)
  · refine ze_iconst (pc := 162) zr_238_162 (by decide) ?_
    refine zq_istore (pc := 163) (ls2 := [some (.inr (.inr 141)), some (.inl l1), some (.inl l2), some (.inl l3), some (.inl l4), some (.inl l5), some (.inl l6), some (.inl 0), o8, o9]) zr_238_163 rfl rfl ?_
    refine ze_iconst (pc := 165) zr_238_165 (by decide) ?_
    refine zq_istore (pc := 166) (ls2 := [some (.inr (.inr 141)), some (.inl l1), some (.inl l2), some (.inl l3), some (.inl l4), some (.inl l5), some (.inl l6), some (.inl 0), some (.inl 1), o9]) zr_238_166 rfl rfl ?_
    refine ze_iconst (pc := 168) zr_238_168 (by decide) ?_
    refine zq_istore (pc := 169) (ls2 := [some (.inr (.inr 141)), some (.inl l1), some (.inl l2), some (.inl l3), some (.inl l4), some (.inl l5), some (.inl l6), some (.inl 0), some (.inl 1), some (.inl 0)]) zr_238_169 rfl rfl ?_
    exact h
  · refine ze_iload_n (pc := 300) zr_238_300 rfl ?_
    have j301 : z_Ex (z_MS d) 238 Q true 328 [some (.inr (.inr 141)), some (.inl l1), some (.inl l2), some (.inl l3), some (.inl l4), some (.inl l5), some (.inl l6), o7, o8, o9] [.inl (if l2 = 0 then l3 else (if l3 = 0 then -1 else (if l2 = 1 then l4 else l5)))] 0 0 V := by
      exact zq_ret1 (pc := 328) zr_238_328 rfl h
    refine ze_if_ne (pc := 301) (t := 308) zr_238_301 (by decide) (fun hc => ?_) (fun hc => ?_)
    · rw [if_pos (show l2 = 0 from hc)] at j301
      refine ze_iload_n (pc := 304) zr_238_304 rfl ?_
      refine ze_goto (pc := 305) (t := 328) zr_238_305 (by decide) ?_
      exact j301
    · rw [if_neg (show ¬ (l2 = 0) from hc)] at j301
      refine ze_iload_n (pc := 308) zr_238_308 rfl ?_
      refine ze_if_ne (pc := 309) (t := 316) zr_238_309 (by decide) (fun hc => ?_) (fun hc => ?_)
      · rw [if_pos (show l3 = 0 from hc)] at j301
        refine ze_iconst (pc := 312) zr_238_312 (by decide) ?_
        refine ze_goto (pc := 313) (t := 328) zr_238_313 (by decide) ?_
        exact j301
      · rw [if_neg (show ¬ (l3 = 0) from hc)] at j301
        refine ze_iload_n (pc := 316) zr_238_316 rfl ?_
        refine ze_iconst (pc := 317) zr_238_317 (by decide) ?_
        refine ze_icmp_ne (pc := 318) (t := 326) zr_238_318 (by decide) (fun hc => ?_) (fun hc => ?_)
        · rw [if_pos (show l2 = 1 from hc)] at j301
          refine ze_iload (pc := 321) zr_238_321 rfl ?_
          refine ze_goto (pc := 323) (t := 328) zr_238_323 (by decide) ?_
          exact j301
        · rw [if_neg (show ¬ (l2 = 1) from hc)] at j301
          refine ze_iload (pc := 326) zr_238_326 rfl ?_
          exact j301
theorem zb238_141_p171 {d : Nat} {Q : Int → z_M → Prop} (l1 : Int) (l2 : Int) (l3 : Int) (l4 : Int) (l5 : Int) (l6 : Int) (l7 : Int) (l8 : Int) (l9 : Int) {V : z_M}
    (h : zI (l9 < (V 143 1)) (zI (l8 = 0) (z_Ex (z_MS d) 238 Q true 213 [some (.inr (.inr 141)), some (.inl l1), some (.inl l2), some (.inl l3), some (.inl l4), some (.inl l5), some (.inl l6), some (.inl l7), some (.inl l8), some (.inl l9)] [.inl 0] 0 0 V) (z_MS d 146 true [.inl l6, .inl l9] V (fun z17203 V17203 => zI (z17203 = 0) (z_Ex (z_MS d) 238 Q true 213 [some (.inr (.inr 141)), some (.inl l1), some (.inl l2), some (.inl l3), some (.inl l4), some (.inl l5), some (.inl l6), some (.inl l7), some (.inl l8), some (.inl l9)] [.inl 1] 0 0 V17203) (zGu (0 ≤ l9 ∧ l9 < 6) (∀ x203 : Int, x203 = V17203 166 l9.toNat → z_Ex (z_MS d) 238 Q true 213 [some (.inr (.inr 141)), some (.inl l1), some (.inl l2), some (.inl l3), some (.inl l4), some (.inl l5), some (.inl l6), some (.inl l7), some (.inl l8), some (.inl l9)] [.inl (if x203 = (-1) then 0 else 1)] 0 0 V17203))))) (zI (l8 = 0) (z_Ex (z_MS d) 238 Q true 149 [some (.inr (.inr 141)), some (.inl l1), some (.inl l2), some (.inl l3), some (.inl l4), some (.inl l5), some (.inl (z_add l6 1)), some (.inl l7), some (.inl l8), some (.inl l9)] [] 0 0 V) (zI (l7 = l1) (zI (l3 = 0) (z_Ex (z_MS d) 238 Q true 149 [some (.inr (.inr 141)), some (.inl l1), some (.inl l2), some (.inl (z_add l3 1)), some (.inl l6), some (.inl (z_and l5 l6)), some (.inl (z_add l6 1)), some (.inl l7), some (.inl l8), some (.inl l9)] [] 0 0 V) (z_MS d 147 true [.inl l6] V (fun z17201 V17201 => z_MS d 147 true [.inl l4] V17201 (fun z17202 V17202 => z_Ex (z_MS d) 238 Q true 149 [some (.inr (.inr 141)), some (.inl l1), some (.inl l2), some (.inl (z_add l3 1)), some (.inl (if z17201 < z17202 then l6 else l4)), some (.inl (z_and l5 l6)), some (.inl (z_add l6 1)), some (.inl l7), some (.inl l8), some (.inl l9)] [] 0 0 V17202)))) (z_Ex (z_MS d) 238 Q true 149 [some (.inr (.inr 141)), some (.inl l1), some (.inl l2), some (.inl l3), some (.inl l4), some (.inl l5), some (.inl (z_add l6 1)), some (.inl l7), some (.inl l8), some (.inl l9)] [] 0 0 V)))) :
    z_Ex (z_MS d) 238 Q true 171 [some (.inr (.inr 141)), some (.inl l1), some (.inl l2), some (.inl l3), some (.inl l4), some (.inl l5), some (.inl l6), some (.inl l7), some (.inl l8), some (.inl l9)] [] 0 0 V := by
  refine ze_iload (pc := 171) zr_238_171 rfl ?_
  refine ze_aload_n (pc := 173) zr_238_173 rfl ?_
  refine ze_getfield (pc := 174) (v := .inr (.inr 143)) zr_238_174 rfl rfl ?_
  refine ze_iconst (pc := 177) zr_238_177 (by decide) ?_
  refine zq_iaload (pc := 178) (v := .inl (V 143 1)) zr_238_178 rfl rfl (by decide) rfl ?_
  refine zq_icmp_ge (pc := 179) (t := 247) zr_238_179 (by decide) (z_toif h) (fun h => ?_) (fun h => ?_)
  · refine ze_iload (pc := 182) zr_238_182 rfl ?_
    refine zq_if_eq (pc := 184) (t := 212) zr_238_184 (by decide) (z_toif h) (fun h => ?_) (fun h => ?_)
    · refine ze_iconst (pc := 212) zr_238_212 (by decide) ?_
      exact h
    · refine ze_iload (pc := 187) zr_238_187 rfl ?_
      refine ze_iload (pc := 189) zr_238_189 rfl ?_
      refine zq_callS1 (pc := 191) (as := [.inl l6, .inl l9]) (r := []) (kc2 := 0) (ks2 := 0) zr_238_191 rfl rfl rfl rfl ⟨rfl, rfl⟩ ⟨rfl, rfl, rfl⟩ h (fun z17203 V17203 h => ?_)
      refine zq_if_eq (pc := 194) (t := 208) zr_238_194 (by decide) (z_toif h) (fun h => ?_) (fun h => ?_)
      · refine ze_iconst (pc := 208) zr_238_208 (by decide) ?_
        refine ze_goto (pc := 209) (t := 213) zr_238_209 (by decide) ?_
        exact h
      · refine ze_aload_n (pc := 197) zr_238_197 rfl ?_
        refine ze_getfield (pc := 198) (v := .inr (.inr 166)) zr_238_198 rfl rfl ?_
        refine ze_iload (pc := 201) zr_238_201 rfl ?_
        refine z_gk h (fun g203 h => ?_)
        refine zl_iaload (pc := 203) zr_238_203 rfl rfl g203 h (fun x203 h => ?_)
        refine ze_iconst (pc := 204) zr_238_204 (by decide) ?_
        have j205 : z_Ex (z_MS d) 238 Q true 213 [some (.inr (.inr 141)), some (.inl l1), some (.inl l2), some (.inl l3), some (.inl l4), some (.inl l5), some (.inl l6), some (.inl l7), some (.inl l8), some (.inl l9)] [.inl (if x203 = (-1) then 0 else 1)] 0 0 V17203 := by
          exact h
        refine ze_icmp_eq (pc := 205) (t := 212) zr_238_205 (by decide) (fun hc => ?_) (fun hc => ?_)
        · rw [if_pos (show x203 = (-1) from hc)] at j205
          refine ze_iconst (pc := 212) zr_238_212 (by decide) ?_
          exact j205
        · rw [if_neg (show ¬ (x203 = (-1)) from hc)] at j205
          refine ze_iconst (pc := 208) zr_238_208 (by decide) ?_
          refine ze_goto (pc := 209) (t := 213) zr_238_209 (by decide) ?_
          exact j205
  · refine ze_iload (pc := 247) zr_238_247 rfl ?_
    refine zq_if_eq (pc := 249) (t := 294) zr_238_249 (by decide) (z_toif h) (fun h => ?_) (fun h => ?_)
    · refine zq_iinc (pc := 294) (ls2 := [some (.inr (.inr 141)), some (.inl l1), some (.inl l2), some (.inl l3), some (.inl l4), some (.inl l5), some (.inl (z_add l6 1)), some (.inl l7), some (.inl l8), some (.inl l9)]) zr_238_294 rfl rfl rfl ?_
      refine ze_goto (pc := 297) (t := 149) zr_238_297 (by decide) ?_
      exact h
    · refine ze_iload (pc := 252) zr_238_252 rfl ?_
      refine ze_iload_n (pc := 254) zr_238_254 rfl ?_
      refine zq_icmp_ne (pc := 255) (t := 294) zr_238_255 (by decide) (z_toif h) (fun h => ?_) (fun h => ?_)
      · refine ze_iload_n (pc := 258) zr_238_258 rfl ?_
        refine zq_if_eq (pc := 259) (t := 275) zr_238_259 (by decide) (z_toif h) (fun h => ?_) (fun h => ?_)
        · refine ze_iload (pc := 275) zr_238_275 rfl ?_
          refine ze_goto (pc := 277) (t := 282) zr_238_277 (by decide) ?_
          refine zq_istore (pc := 282) (ls2 := [some (.inr (.inr 141)), some (.inl l1), some (.inl l2), some (.inl l3), some (.inl l6), some (.inl l5), some (.inl l6), some (.inl l7), some (.inl l8), some (.inl l9)]) zr_238_282 rfl rfl ?_
          refine ze_iload (pc := 284) zr_238_284 rfl ?_
          refine ze_iload (pc := 286) zr_238_286 rfl ?_
          refine ze_iand (pc := 288) zr_238_288 ?_
          refine zq_istore (pc := 289) (ls2 := [some (.inr (.inr 141)), some (.inl l1), some (.inl l2), some (.inl l3), some (.inl l6), some (.inl (z_and l5 l6)), some (.inl l6), some (.inl l7), some (.inl l8), some (.inl l9)]) zr_238_289 rfl rfl ?_
          refine zq_iinc (pc := 291) (ls2 := [some (.inr (.inr 141)), some (.inl l1), some (.inl l2), some (.inl (z_add l3 1)), some (.inl l6), some (.inl (z_and l5 l6)), some (.inl l6), some (.inl l7), some (.inl l8), some (.inl l9)]) zr_238_291 rfl rfl rfl ?_
          refine zq_iinc (pc := 294) (ls2 := [some (.inr (.inr 141)), some (.inl l1), some (.inl l2), some (.inl (z_add l3 1)), some (.inl l6), some (.inl (z_and l5 l6)), some (.inl (z_add l6 1)), some (.inl l7), some (.inl l8), some (.inl l9)]) zr_238_294 rfl rfl rfl ?_
          refine ze_goto (pc := 297) (t := 149) zr_238_297 (by decide) ?_
          exact h
        · refine ze_iload (pc := 262) zr_238_262 rfl ?_
          refine zq_callS1 (pc := 264) (as := [.inl l6]) (r := []) (kc2 := 0) (ks2 := 0) zr_238_264 rfl rfl rfl rfl ⟨rfl, rfl⟩ ⟨rfl, rfl, rfl⟩ h (fun z17201 V17201 h => ?_)
          refine ze_iload (pc := 267) zr_238_267 rfl ?_
          refine zq_callS1 (pc := 269) (as := [.inl l4]) (r := [.inl z17201]) (kc2 := 0) (ks2 := 0) zr_238_269 rfl rfl rfl rfl ⟨rfl, rfl⟩ ⟨rfl, rfl, rfl⟩ h (fun z17202 V17202 h => ?_)
          have j272 : z_Ex (z_MS d) 238 Q true 282 [some (.inr (.inr 141)), some (.inl l1), some (.inl l2), some (.inl l3), some (.inl l4), some (.inl l5), some (.inl l6), some (.inl l7), some (.inl l8), some (.inl l9)] [.inl (if z17201 < z17202 then l6 else l4)] 0 0 V17202 := by
            refine zq_istore (pc := 282) (ls2 := [some (.inr (.inr 141)), some (.inl l1), some (.inl l2), some (.inl l3), some (.inl (if z17201 < z17202 then l6 else l4)), some (.inl l5), some (.inl l6), some (.inl l7), some (.inl l8), some (.inl l9)]) zr_238_282 rfl rfl ?_
            refine ze_iload (pc := 284) zr_238_284 rfl ?_
            refine ze_iload (pc := 286) zr_238_286 rfl ?_
            refine ze_iand (pc := 288) zr_238_288 ?_
            refine zq_istore (pc := 289) (ls2 := [some (.inr (.inr 141)), some (.inl l1), some (.inl l2), some (.inl l3), some (.inl (if z17201 < z17202 then l6 else l4)), some (.inl (z_and l5 l6)), some (.inl l6), some (.inl l7), some (.inl l8), some (.inl l9)]) zr_238_289 rfl rfl ?_
            refine zq_iinc (pc := 291) (ls2 := [some (.inr (.inr 141)), some (.inl l1), some (.inl l2), some (.inl (z_add l3 1)), some (.inl (if z17201 < z17202 then l6 else l4)), some (.inl (z_and l5 l6)), some (.inl l6), some (.inl l7), some (.inl l8), some (.inl l9)]) zr_238_291 rfl rfl rfl ?_
            refine zq_iinc (pc := 294) (ls2 := [some (.inr (.inr 141)), some (.inl l1), some (.inl l2), some (.inl (z_add l3 1)), some (.inl (if z17201 < z17202 then l6 else l4)), some (.inl (z_and l5 l6)), some (.inl (z_add l6 1)), some (.inl l7), some (.inl l8), some (.inl l9)]) zr_238_294 rfl rfl rfl ?_
            refine ze_goto (pc := 297) (t := 149) zr_238_297 (by decide) ?_
            exact h
          refine ze_icmp_ge (pc := 272) (t := 280) zr_238_272 (by decide) (fun hc => ?_) (fun hc => ?_)
          · rw [if_pos (show z17201 < z17202 from hc)] at j272
            refine ze_iload (pc := 275) zr_238_275 rfl ?_
            refine ze_goto (pc := 277) (t := 282) zr_238_277 (by decide) ?_
            exact j272
          · rw [if_neg (show ¬ (z17201 < z17202) from hc)] at j272
            refine ze_iload (pc := 280) zr_238_280 rfl ?_
            exact j272
      · refine zq_iinc (pc := 294) (ls2 := [some (.inr (.inr 141)), some (.inl l1), some (.inl l2), some (.inl l3), some (.inl l4), some (.inl l5), some (.inl (z_add l6 1)), some (.inl l7), some (.inl l8), some (.inl l9)]) zr_238_294 rfl rfl rfl ?_
        refine ze_goto (pc := 297) (t := 149) zr_238_297 (by decide) ?_
        exact h
theorem zb238_141_p213 {d : Nat} {Q : Int → z_M → Prop} (l1 : Int) (l2 : Int) (l3 : Int) (l4 : Int) (l5 : Int) (l6 : Int) (l7 : Int) (o8 : Option z_V) (l9 : Int) (s0 : Int) {V : z_M}
    (h : z_MS d 146 true [.inl l6, .inl l9] V (fun z21401 V21401 => zI (z21401 = 0) (z_Ex (z_MS d) 238 Q true 171 [some (.inr (.inr 141)), some (.inl l1), some (.inl l2), some (.inl l3), some (.inl l4), some (.inl l5), some (.inl l6), some (.inl (z_or l7 0)), some (.inl s0), some (.inl (z_add l9 1))] [] 0 0 V21401) (zGu (0 ≤ l9 ∧ l9 < 6) (∀ x233 : Int, x233 = V21401 166 l9.toNat → z_Ex (z_MS d) 238 Q true 171 [some (.inr (.inr 141)), some (.inl l1), some (.inl l2), some (.inl l3), some (.inl l4), some (.inl l5), some (.inl l6), some (.inl (z_or l7 x233)), some (.inl s0), some (.inl (z_add l9 1))] [] 0 0 V21401)))) :
    z_Ex (z_MS d) 238 Q true 213 [some (.inr (.inr 141)), some (.inl l1), some (.inl l2), some (.inl l3), some (.inl l4), some (.inl l5), some (.inl l6), some (.inl l7), o8, some (.inl l9)] [.inl s0] 0 0 V := by
  refine zq_istore (pc := 213) (ls2 := [some (.inr (.inr 141)), some (.inl l1), some (.inl l2), some (.inl l3), some (.inl l4), some (.inl l5), some (.inl l6), some (.inl l7), some (.inl s0), some (.inl l9)]) zr_238_213 rfl rfl ?_
  refine ze_iload (pc := 215) zr_238_215 rfl ?_
  refine ze_iload (pc := 217) zr_238_217 rfl ?_
  refine ze_iload (pc := 219) zr_238_219 rfl ?_
  refine zq_callS1 (pc := 221) (as := [.inl l6, .inl l9]) (r := [.inl l7]) (kc2 := 0) (ks2 := 0) zr_238_221 rfl rfl rfl rfl ⟨rfl, rfl⟩ ⟨rfl, rfl, rfl⟩ h (fun z21401 V21401 h => ?_)
  refine zq_if_eq (pc := 224) (t := 237) zr_238_224 (by decide) (z_toif h) (fun h => ?_) (fun h => ?_)
  · refine ze_iconst (pc := 237) zr_238_237 (by decide) ?_
    refine ze_ior (pc := 238) zr_238_238 ?_
    refine zq_istore (pc := 239) (ls2 := [some (.inr (.inr 141)), some (.inl l1), some (.inl l2), some (.inl l3), some (.inl l4), some (.inl l5), some (.inl l6), some (.inl (z_or l7 0)), some (.inl s0), some (.inl l9)]) zr_238_239 rfl rfl ?_
    refine zq_iinc (pc := 241) (ls2 := [some (.inr (.inr 141)), some (.inl l1), some (.inl l2), some (.inl l3), some (.inl l4), some (.inl l5), some (.inl l6), some (.inl (z_or l7 0)), some (.inl s0), some (.inl (z_add l9 1))]) zr_238_241 rfl rfl rfl ?_
    refine ze_goto (pc := 244) (t := 171) zr_238_244 (by decide) ?_
    exact h
  · refine ze_aload_n (pc := 227) zr_238_227 rfl ?_
    refine ze_getfield (pc := 228) (v := .inr (.inr 166)) zr_238_228 rfl rfl ?_
    refine ze_iload (pc := 231) zr_238_231 rfl ?_
    refine z_gk h (fun g233 h => ?_)
    refine zl_iaload (pc := 233) zr_238_233 rfl rfl g233 h (fun x233 h => ?_)
    refine ze_goto (pc := 234) (t := 238) zr_238_234 (by decide) ?_
    refine ze_ior (pc := 238) zr_238_238 ?_
    refine zq_istore (pc := 239) (ls2 := [some (.inr (.inr 141)), some (.inl l1), some (.inl l2), some (.inl l3), some (.inl l4), some (.inl l5), some (.inl l6), some (.inl (z_or l7 x233)), some (.inl s0), some (.inl l9)]) zr_238_239 rfl rfl ?_
    refine zq_iinc (pc := 241) (ls2 := [some (.inr (.inr 141)), some (.inl l1), some (.inl l2), some (.inl l3), some (.inl l4), some (.inl l5), some (.inl l6), some (.inl (z_or l7 x233)), some (.inl s0), some (.inl (z_add l9 1))]) zr_238_241 rfl rfl rfl ?_
    refine ze_goto (pc := 244) (t := 171) zr_238_244 (by decide) ?_
    exact h
