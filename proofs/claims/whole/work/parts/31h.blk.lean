/-! blocks of rows: printed by a program (blk2.py) -/
theorem zb177_141 {d : Nat} {Q : Int → z_M → Prop} (a0 : Int) {V : z_M}
    (h : Q (if (V 141 11) = 1 then (if (z_lcmp (V 141 12) a0) = 0 then 1 else 0) else 0) V) :
    z_MS (d + 1) 177 true [.inr (.inr 141), .inr (.inl a0)] V Q := by
  show z_Ex (z_MS d) 177 Q true 0 [some (.inr (.inr 141)), some (.inr (.inl a0)), none] [] 0 0 V
  refine ze_aload_n (pc := 0) zr_177_0 rfl ?_
  refine ze_getfield (pc := 1) (v := .inl (V 141 11)) zr_177_1 rfl rfl ?_
  refine ze_iconst (pc := 4) zr_177_4 (by decide) ?_
  have j5 : z_Ex (z_MS d) 177 Q true 22 [some (.inr (.inr 141)), some (.inr (.inl a0)), none] [.inl (if (V 141 11) = 1 then (if (z_lcmp (V 141 12) a0) = 0 then 1 else 0) else 0)] 0 0 V := by
    exact zq_ret4 (pc := 22) zr_177_22 rfl (by (repeat' split) <;> decide) h
  refine ze_icmp_ne (pc := 5) (t := 21) zr_177_5 (by decide) (fun hc => ?_) (fun hc => ?_)
  · rw [if_pos (show (V 141 11) = 1 from hc)] at j5
    refine ze_aload_n (pc := 8) zr_177_8 rfl ?_
    refine ze_getfield (pc := 9) (v := .inr (.inl (V 141 12))) zr_177_9 rfl rfl ?_
    refine ze_lload_n (pc := 12) zr_177_12 rfl ?_
    refine ze_lcmp (pc := 13) zr_177_13 ?_
    refine ze_if_ne (pc := 14) (t := 21) zr_177_14 (by decide) (fun hc => ?_) (fun hc => ?_)
    · rw [if_pos (show (z_lcmp (V 141 12) a0) = 0 from hc)] at j5
      refine ze_iconst (pc := 17) zr_177_17 (by decide) ?_
      refine ze_goto (pc := 18) (t := 22) zr_177_18 (by decide) ?_
      exact j5
    · rw [if_neg (show ¬ ((z_lcmp (V 141 12) a0) = 0) from hc)] at j5
      refine ze_iconst (pc := 21) zr_177_21 (by decide) ?_
      exact j5
  · rw [if_neg (show ¬ ((V 141 11) = 1) from hc)] at j5
    refine ze_iconst (pc := 21) zr_177_21 (by decide) ?_
    exact j5
theorem zb178_141 {d : Nat} {Q : Int → z_M → Prop} (a0 : Int) {V : z_M}
    (h : Q (if (V 141 11) = 3 then (if (z_lcmp (V 141 12) a0) = 0 then 1 else 0) else 0) V) :
    z_MS (d + 1) 178 true [.inr (.inr 141), .inl a0] V Q := by
  show z_Ex (z_MS d) 178 Q true 0 [some (.inr (.inr 141)), some (.inl a0)] [] 0 0 V
  refine ze_aload_n (pc := 0) zr_178_0 rfl ?_
  refine ze_getfield (pc := 1) (v := .inl (V 141 11)) zr_178_1 rfl rfl ?_
  refine ze_iconst (pc := 4) zr_178_4 (by decide) ?_
  have j5 : z_Ex (z_MS d) 178 Q true 23 [some (.inr (.inr 141)), some (.inl a0)] [.inl (if (V 141 11) = 3 then (if (z_lcmp (V 141 12) a0) = 0 then 1 else 0) else 0)] 0 0 V := by
    exact zq_ret4 (pc := 23) zr_178_23 rfl (by (repeat' split) <;> decide) h
  refine ze_icmp_ne (pc := 5) (t := 22) zr_178_5 (by decide) (fun hc => ?_) (fun hc => ?_)
  · rw [if_pos (show (V 141 11) = 3 from hc)] at j5
    refine ze_aload_n (pc := 8) zr_178_8 rfl ?_
    refine ze_getfield (pc := 9) (v := .inr (.inl (V 141 12))) zr_178_9 rfl rfl ?_
    refine ze_iload_n (pc := 12) zr_178_12 rfl ?_
    refine ze_i2l (pc := 13) zr_178_13 ?_
    refine ze_lcmp (pc := 14) zr_178_14 ?_
    refine ze_if_ne (pc := 15) (t := 22) zr_178_15 (by decide) (fun hc => ?_) (fun hc => ?_)
    · rw [if_pos (show (z_lcmp (V 141 12) a0) = 0 from hc)] at j5
      refine ze_iconst (pc := 18) zr_178_18 (by decide) ?_
      refine ze_goto (pc := 19) (t := 23) zr_178_19 (by decide) ?_
      exact j5
    · rw [if_neg (show ¬ ((z_lcmp (V 141 12) a0) = 0) from hc)] at j5
      refine ze_iconst (pc := 22) zr_178_22 (by decide) ?_
      exact j5
  · rw [if_neg (show ¬ ((V 141 11) = 3) from hc)] at j5
    refine ze_iconst (pc := 22) zr_178_22 (by decide) ?_
    exact j5
theorem zb179_141 {d : Nat} {Q : Int → z_M → Prop} (a0 : Int) {V : z_M}
    (h : zI ((V 141 14) = 0) (zI (a0 = 0) (∀ W1, W1 = z_up V 141 14 1 → ∀ W2, W2 = z_up W1 141 13 (W1 141 9) → zI ((W2 141 14) = 0) (z_MS d 176 true [.inr (.inr 141)] W2 (fun z3 V3 => Q 0 V3)) (Q 0 W2)) (zI ((V 141 14) = 0) (z_MS d 176 true [.inr (.inr 141)] V (fun z2 V2 => Q 0 V2)) (Q 0 V))) (zI ((V 141 14) = 0) (z_MS d 176 true [.inr (.inr 141)] V (fun z1 V1 => Q 0 V1)) (Q 0 V))) :
    z_MS (d + 1) 179 true [.inr (.inr 141), .inl a0] V Q := by
  show z_Ex (z_MS d) 179 Q true 0 [some (.inr (.inr 141)), some (.inl a0)] [] 0 0 V
  refine ze_aload_n (pc := 0) zr_179_0 rfl ?_
  refine ze_getfield (pc := 1) (v := .inl (V 141 14)) zr_179_1 rfl rfl ?_
  refine zq_if_ne (pc := 4) (t := 24) zr_179_4 (by decide) (z_toif h) (fun h => ?_) (fun h => ?_)
  · refine ze_iload_n (pc := 7) zr_179_7 rfl ?_
    refine zq_if_ne (pc := 8) (t := 24) zr_179_8 (by decide) (z_toif h) (fun h => ?_) (fun h => ?_)
    · refine ze_aload_n (pc := 11) zr_179_11 rfl ?_
      refine ze_iconst (pc := 12) zr_179_12 (by decide) ?_
      refine zq_putZ (pc := 13) zr_179_13 (by decide) rfl (by decide) h (fun W1 h => ?_)
      refine ze_aload_n (pc := 16) zr_179_16 rfl ?_
      refine ze_aload_n (pc := 17) zr_179_17 rfl ?_
      refine ze_getfield (pc := 18) (v := .inl (W1 141 9)) zr_179_18 rfl rfl ?_
      refine zq_putI (pc := 21) zr_179_21 (by decide) rfl h (fun W2 h => ?_)
      refine ze_aload_n (pc := 24) zr_179_24 rfl ?_
      refine ze_getfield (pc := 25) (v := .inl (W2 141 14)) zr_179_25 rfl rfl ?_
      refine zq_if_ne (pc := 28) (t := 35) zr_179_28 (by decide) (z_toif h) (fun h => ?_) (fun h => ?_)
      · refine ze_aload_n (pc := 31) zr_179_31 rfl ?_
        refine zq_callV0 (pc := 32) (as := [.inr (.inr 141)]) (r := []) (kc2 := 0) (ks2 := 0) zr_179_32 rfl (by decide) rfl rfl rfl rfl ⟨rfl, rfl⟩ rfl h (fun z3 V3 h => ?_)
        exact ze_vret (pc := 35) zr_179_35 rfl h
      · exact ze_vret (pc := 35) zr_179_35 rfl h
    · refine ze_aload_n (pc := 24) zr_179_24 rfl ?_
      refine ze_getfield (pc := 25) (v := .inl (V 141 14)) zr_179_25 rfl rfl ?_
      refine zq_if_ne (pc := 28) (t := 35) zr_179_28 (by decide) (z_toif h) (fun h => ?_) (fun h => ?_)
      · refine ze_aload_n (pc := 31) zr_179_31 rfl ?_
        refine zq_callV0 (pc := 32) (as := [.inr (.inr 141)]) (r := []) (kc2 := 0) (ks2 := 0) zr_179_32 rfl (by decide) rfl rfl rfl rfl ⟨rfl, rfl⟩ rfl h (fun z2 V2 h => ?_)
        exact ze_vret (pc := 35) zr_179_35 rfl h
      · exact ze_vret (pc := 35) zr_179_35 rfl h
  · refine ze_aload_n (pc := 24) zr_179_24 rfl ?_
    refine ze_getfield (pc := 25) (v := .inl (V 141 14)) zr_179_25 rfl rfl ?_
    refine zq_if_ne (pc := 28) (t := 35) zr_179_28 (by decide) (z_toif h) (fun h => ?_) (fun h => ?_)
    · refine ze_aload_n (pc := 31) zr_179_31 rfl ?_
      refine zq_callV0 (pc := 32) (as := [.inr (.inr 141)]) (r := []) (kc2 := 0) (ks2 := 0) zr_179_32 rfl (by decide) rfl rfl rfl rfl ⟨rfl, rfl⟩ rfl h (fun z1 V1 h => ?_)
      exact ze_vret (pc := 35) zr_179_35 rfl h
    · exact ze_vret (pc := 35) zr_179_35 rfl h
theorem zb180_141 {d : Nat} {Q : Int → z_M → Prop}  {V : z_M}
    (h : ∀ W1, W1 = z_up V 141 0 0 → Q (W1 141 13) W1) :
    z_MS (d + 1) 180 true [.inr (.inr 141)] V Q := by
  show z_Ex (z_MS d) 180 Q true 0 [some (.inr (.inr 141))] [] 0 0 V
  refine ze_aload_n (pc := 0) zr_180_0 rfl ?_
  refine ze_iconst (pc := 1) zr_180_1 (by decide) ?_
  refine zq_putI (pc := 2) zr_180_2 (by decide) rfl h (fun W1 h => ?_)
  refine ze_aload_n (pc := 5) zr_180_5 rfl ?_
  refine ze_getfield (pc := 6) (v := .inl (W1 141 13)) zr_180_6 rfl rfl ?_
  exact zq_ret1 (pc := 9) zr_180_9 rfl h
theorem zb181_141 {d : Nat} {Q : Int → z_M → Prop} (a0 : Int) (a1 : Int) {V : z_M}
    (h : zGu (0 ≤ (V 141 17) ∧ (V 141 17) < 400) (∀ W1, W1 = z_up V 148 (V 141 17).toNat a0 → zGu (0 ≤ (W1 141 17) ∧ (W1 141 17) < 400) (∀ W2, W2 = z_up W1 149 (W1 141 17).toNat a1 → ∀ W3, W3 = z_up W2 141 17 (z_add (W2 141 17) 1) → Q 0 W3))) :
    z_MS (d + 1) 181 true [.inr (.inr 141), .inl a0, .inl a1] V Q := by
  show z_Ex (z_MS d) 181 Q true 0 [some (.inr (.inr 141)), some (.inl a0), some (.inl a1)] [] 0 0 V
  refine ze_aload_n (pc := 0) zr_181_0 rfl ?_
  refine ze_getfield (pc := 1) (v := .inr (.inr 148)) zr_181_1 rfl rfl ?_
  refine ze_aload_n (pc := 4) zr_181_4 rfl ?_
  refine ze_getfield (pc := 5) (v := .inl (V 141 17)) zr_181_5 rfl rfl ?_
  refine ze_iload_n (pc := 8) zr_181_8 rfl ?_
  refine z_gk h (fun g9 h => ?_)
  refine zq_iastore (pc := 9) zr_181_9 (by decide) rfl g9 rfl h (fun W1 h => ?_)
  refine ze_aload_n (pc := 10) zr_181_10 rfl ?_
  refine ze_getfield (pc := 11) (v := .inr (.inr 149)) zr_181_11 rfl rfl ?_
  refine ze_aload_n (pc := 14) zr_181_14 rfl ?_
  refine ze_getfield (pc := 15) (v := .inl (W1 141 17)) zr_181_15 rfl rfl ?_
  refine ze_iload_n (pc := 18) zr_181_18 rfl ?_
  refine z_gk h (fun g19 h => ?_)
  refine zq_iastore (pc := 19) zr_181_19 (by decide) rfl g19 rfl h (fun W2 h => ?_)
  refine ze_aload_n (pc := 20) zr_181_20 rfl ?_
  refine ze_dup (pc := 21) zr_181_21 rfl ?_
  refine ze_getfield (pc := 22) (v := .inl (W2 141 17)) zr_181_22 rfl rfl ?_
  refine ze_iconst (pc := 25) zr_181_25 (by decide) ?_
  refine ze_iadd (pc := 26) zr_181_26 ?_
  refine zq_putI (pc := 27) zr_181_27 (by decide) rfl h (fun W3 h => ?_)
  exact ze_vret (pc := 30) zr_181_30 rfl h
theorem zb182_141 {d : Nat} {Q : Int → z_M → Prop} (a0 : Int) (a1 : Int) {V : z_M}
    (h : zGu (0 ≤ (V 141 23) ∧ (V 141 23) < 400) (∀ W1, W1 = z_up V 150 (V 141 23).toNat a0 → zGu (0 ≤ (W1 141 23) ∧ (W1 141 23) < 400) (∀ W2, W2 = z_up W1 151 (W1 141 23).toNat a1 → ∀ W3, W3 = z_up W2 141 23 (z_add (W2 141 23) 1) → Q 0 W3))) :
    z_MS (d + 1) 182 true [.inr (.inr 141), .inl a0, .inl a1] V Q := by
  show z_Ex (z_MS d) 182 Q true 0 [some (.inr (.inr 141)), some (.inl a0), some (.inl a1)] [] 0 0 V
  refine ze_aload_n (pc := 0) zr_182_0 rfl ?_
  refine ze_getfield (pc := 1) (v := .inr (.inr 150)) zr_182_1 rfl rfl ?_
  refine ze_aload_n (pc := 4) zr_182_4 rfl ?_
  refine ze_getfield (pc := 5) (v := .inl (V 141 23)) zr_182_5 rfl rfl ?_
  refine ze_iload_n (pc := 8) zr_182_8 rfl ?_
  refine z_gk h (fun g9 h => ?_)
  refine zq_iastore (pc := 9) zr_182_9 (by decide) rfl g9 rfl h (fun W1 h => ?_)
  refine ze_aload_n (pc := 10) zr_182_10 rfl ?_
  refine ze_getfield (pc := 11) (v := .inr (.inr 151)) zr_182_11 rfl rfl ?_
  refine ze_aload_n (pc := 14) zr_182_14 rfl ?_
  refine ze_getfield (pc := 15) (v := .inl (W1 141 23)) zr_182_15 rfl rfl ?_
  refine ze_iload_n (pc := 18) zr_182_18 rfl ?_
  refine z_gk h (fun g19 h => ?_)
  refine zq_iastore (pc := 19) zr_182_19 (by decide) rfl g19 rfl h (fun W2 h => ?_)
  refine ze_aload_n (pc := 20) zr_182_20 rfl ?_
  refine ze_dup (pc := 21) zr_182_21 rfl ?_
  refine ze_getfield (pc := 22) (v := .inl (W2 141 23)) zr_182_22 rfl rfl ?_
  refine ze_iconst (pc := 25) zr_182_25 (by decide) ?_
  refine ze_iadd (pc := 26) zr_182_26 ?_
  refine zq_putI (pc := 27) zr_182_27 (by decide) rfl h (fun W3 h => ?_)
  exact ze_vret (pc := 30) zr_182_30 rfl h
theorem zb183 {d : Nat} {Q : Int → z_M → Prop} (a0 : Int) {V : z_M}
    (h : zI (a0 < 30) (Q (if a0 = 29 then 1 else (if a0 = 28 then 2 else (if a0 = 27 then 3 else (if a0 < 24 then (if a0 < 22 then 5 else 6) else 4)))) V) (Q 0 V)) :
    z_MS (d + 1) 183 true [.inl a0] V Q := by
  show z_Ex (z_MS d) 183 Q true 0 [some (.inl a0)] [] 0 0 V
  refine ze_iload_n (pc := 0) zr_183_0 rfl ?_
  refine ze_bipush (pc := 1) zr_183_1 (by decide) ?_
  refine zq_icmp_lt (pc := 3) (t := 10) zr_183_3 (by decide) (z_toif h) (fun h => ?_) (fun h => ?_)
  · refine ze_iload_n (pc := 10) zr_183_10 rfl ?_
    refine ze_bipush (pc := 11) zr_183_11 (by decide) ?_
    have j13 : z_Ex (z_MS d) 183 Q true 62 [some (.inl a0)] [.inl (if a0 = 29 then 1 else (if a0 = 28 then 2 else (if a0 = 27 then 3 else (if a0 < 24 then (if a0 < 22 then 5 else 6) else 4))))] 0 0 V := by
      exact zq_ret1 (pc := 62) zr_183_62 rfl h
    refine ze_icmp_ne (pc := 13) (t := 20) zr_183_13 (by decide) (fun hc => ?_) (fun hc => ?_)
    · rw [if_pos (show a0 = 29 from hc)] at j13
      refine ze_iconst (pc := 16) zr_183_16 (by decide) ?_
      refine ze_goto (pc := 17) (t := 62) zr_183_17 (by decide) ?_
      exact j13
    · rw [if_neg (show ¬ (a0 = 29) from hc)] at j13
      refine ze_iload_n (pc := 20) zr_183_20 rfl ?_
      refine ze_bipush (pc := 21) zr_183_21 (by decide) ?_
      refine ze_icmp_ne (pc := 23) (t := 30) zr_183_23 (by decide) (fun hc => ?_) (fun hc => ?_)
      · rw [if_pos (show a0 = 28 from hc)] at j13
        refine ze_iconst (pc := 26) zr_183_26 (by decide) ?_
        refine ze_goto (pc := 27) (t := 62) zr_183_27 (by decide) ?_
        exact j13
      · rw [if_neg (show ¬ (a0 = 28) from hc)] at j13
        refine ze_iload_n (pc := 30) zr_183_30 rfl ?_
        refine ze_bipush (pc := 31) zr_183_31 (by decide) ?_
        refine ze_icmp_ne (pc := 33) (t := 40) zr_183_33 (by decide) (fun hc => ?_) (fun hc => ?_)
        · rw [if_pos (show a0 = 27 from hc)] at j13
          refine ze_iconst (pc := 36) zr_183_36 (by decide) ?_
          refine ze_goto (pc := 37) (t := 62) zr_183_37 (by decide) ?_
          exact j13
        · rw [if_neg (show ¬ (a0 = 27) from hc)] at j13
          refine ze_iload_n (pc := 40) zr_183_40 rfl ?_
          refine ze_bipush (pc := 41) zr_183_41 (by decide) ?_
          refine ze_icmp_lt (pc := 43) (t := 50) zr_183_43 (by decide) (fun hc => ?_) (fun hc => ?_)
          · rw [if_pos (show a0 < 24 from hc)] at j13
            refine ze_iload_n (pc := 50) zr_183_50 rfl ?_
            refine ze_bipush (pc := 51) zr_183_51 (by decide) ?_
            refine ze_icmp_lt (pc := 53) (t := 61) zr_183_53 (by decide) (fun hc => ?_) (fun hc => ?_)
            · rw [if_pos (show a0 < 22 from hc)] at j13
              refine ze_iconst (pc := 61) zr_183_61 (by decide) ?_
              exact j13
            · rw [if_neg (show ¬ (a0 < 22) from hc)] at j13
              refine ze_bipush (pc := 56) zr_183_56 (by decide) ?_
              refine ze_goto (pc := 58) (t := 62) zr_183_58 (by decide) ?_
              exact j13
          · rw [if_neg (show ¬ (a0 < 24) from hc)] at j13
            refine ze_iconst (pc := 46) zr_183_46 (by decide) ?_
            refine ze_goto (pc := 47) (t := 62) zr_183_47 (by decide) ?_
            exact j13
  · refine ze_iconst (pc := 6) zr_183_6 (by decide) ?_
    refine ze_goto (pc := 7) (t := 62) zr_183_7 (by decide) ?_
    exact zq_ret1 (pc := 62) zr_183_62 rfl h
theorem zb184_141 {d : Nat} {Q : Int → z_M → Prop} (a0 : Int) {V : z_M}
    (h : z_Ex (z_MS d) 184 Q true 0 [some (.inr (.inr 141)), some (.inl a0)] [] 0 0 V) :
    z_MS (d + 1) 184 true [.inr (.inr 141), .inl a0] V Q := by
  show z_Ex (z_MS d) 184 Q true 0 [some (.inr (.inr 141)), some (.inl a0)] [] 0 0 V
  exact h
theorem zb184_141_p0 {d : Nat} {Q : Int → z_M → Prop} (l1 : Int) {V : z_M}
    (h : zI (0 < (V 141 23)) (zGu (0 ≤ (z_sub (V 141 23) 1) ∧ (z_sub (V 141 23) 1) < 400) (∀ x17 : Int, x17 = V 150 (z_sub (V 141 23) 1).toNat → z_MS d 183 true [.inl x17] V (fun z101 V101 => zI (z101 < l1) (Q 0 V101) (∀ W101, W101 = z_up V101 141 23 (z_sub (V101 141 23) 1) → zGu (0 ≤ (W101 141 23) ∧ (W101 141 23) < 400) (∀ x43 : Int, x43 = W101 150 (W101 141 23).toNat → zI (x43 = 28) (zGu (0 ≤ (W101 141 23) ∧ (W101 141 23) < 400) (∀ x75 : Int, x75 = W101 151 (W101 141 23).toNat → zGu (0 ≤ x75 ∧ x75 < 400) (∀ W102, W102 = z_up W101 149 x75.toNat (W101 141 17) → z_Ex (z_MS d) 184 Q true 0 [some (.inr (.inr 141)), some (.inl l1)] [] 0 0 W102))) (zGu (0 ≤ (W101 141 23) ∧ (W101 141 23) < 400) (∀ x57 : Int, x57 = W101 150 (W101 141 23).toNat → zI (x57 = 29) (zGu (0 ≤ (W101 141 23) ∧ (W101 141 23) < 400) (∀ x75 : Int, x75 = W101 151 (W101 141 23).toNat → zGu (0 ≤ x75 ∧ x75 < 400) (∀ W103, W103 = z_up W101 149 x75.toNat (W101 141 17) → z_Ex (z_MS d) 184 Q true 0 [some (.inr (.inr 141)), some (.inl l1)] [] 0 0 W103))) (zGu (0 ≤ (W101 141 23) ∧ (W101 141 23) < 400) (∀ x93 : Int, x93 = W101 150 (W101 141 23).toNat → z_MS d 181 true [.inr (.inr 141), .inl x93, .inl 0] W101 (fun z102 V102 => z_Ex (z_MS d) 184 Q true 0 [some (.inr (.inr 141)), some (.inl l1)] [] 0 0 V102)))))))))) (Q 0 V)) :
    z_Ex (z_MS d) 184 Q true 0 [some (.inr (.inr 141)), some (.inl l1)] [] 0 0 V := by
  refine ze_aload_n (pc := 0) zr_184_0 rfl ?_
  refine ze_getfield (pc := 1) (v := .inl (V 141 23)) zr_184_1 rfl rfl ?_
  refine zq_if_le (pc := 4) (t := 101) zr_184_4 (by decide) (z_toif h) (fun h => ?_) (fun h => ?_)
  · refine ze_aload_n (pc := 7) zr_184_7 rfl ?_
    refine ze_getfield (pc := 8) (v := .inr (.inr 150)) zr_184_8 rfl rfl ?_
    refine ze_aload_n (pc := 11) zr_184_11 rfl ?_
    refine ze_getfield (pc := 12) (v := .inl (V 141 23)) zr_184_12 rfl rfl ?_
    refine ze_iconst (pc := 15) zr_184_15 (by decide) ?_
    refine ze_isub (pc := 16) zr_184_16 ?_
    refine z_gk h (fun g17 h => ?_)
    refine zl_iaload (pc := 17) zr_184_17 rfl rfl g17 h (fun x17 h => ?_)
    refine zq_callS1 (pc := 18) (as := [.inl x17]) (r := []) (kc2 := 0) (ks2 := 0) zr_184_18 rfl rfl rfl rfl ⟨rfl, rfl⟩ ⟨rfl, rfl, rfl⟩ h (fun z101 V101 h => ?_)
    refine ze_iload_n (pc := 21) zr_184_21 rfl ?_
    refine zq_icmp_lt (pc := 22) (t := 101) zr_184_22 (by decide) (z_toif h) (fun h => ?_) (fun h => ?_)
    · exact ze_vret (pc := 101) zr_184_101 rfl h
    · refine ze_aload_n (pc := 25) zr_184_25 rfl ?_
      refine ze_dup (pc := 26) zr_184_26 rfl ?_
      refine ze_getfield (pc := 27) (v := .inl (V101 141 23)) zr_184_27 rfl rfl ?_
      refine ze_iconst (pc := 30) zr_184_30 (by decide) ?_
      refine ze_isub (pc := 31) zr_184_31 ?_
      refine zq_putI (pc := 32) zr_184_32 (by decide) rfl h (fun W101 h => ?_)
      refine ze_aload_n (pc := 35) zr_184_35 rfl ?_
      refine ze_getfield (pc := 36) (v := .inr (.inr 150)) zr_184_36 rfl rfl ?_
      refine ze_aload_n (pc := 39) zr_184_39 rfl ?_
      refine ze_getfield (pc := 40) (v := .inl (W101 141 23)) zr_184_40 rfl rfl ?_
      refine z_gk h (fun g43 h => ?_)
      refine zl_iaload (pc := 43) zr_184_43 rfl rfl g43 h (fun x43 h => ?_)
      refine ze_bipush (pc := 44) zr_184_44 (by decide) ?_
      refine zq_icmp_eq (pc := 46) (t := 63) zr_184_46 (by decide) (z_toif h) (fun h => ?_) (fun h => ?_)
      · refine ze_aload_n (pc := 63) zr_184_63 rfl ?_
        refine ze_getfield (pc := 64) (v := .inr (.inr 149)) zr_184_64 rfl rfl ?_
        refine ze_aload_n (pc := 67) zr_184_67 rfl ?_
        refine ze_getfield (pc := 68) (v := .inr (.inr 151)) zr_184_68 rfl rfl ?_
        refine ze_aload_n (pc := 71) zr_184_71 rfl ?_
        refine ze_getfield (pc := 72) (v := .inl (W101 141 23)) zr_184_72 rfl rfl ?_
        refine z_gk h (fun g75 h => ?_)
        refine zl_iaload (pc := 75) zr_184_75 rfl rfl g75 h (fun x75 h => ?_)
        refine ze_aload_n (pc := 76) zr_184_76 rfl ?_
        refine ze_getfield (pc := 77) (v := .inl (W101 141 17)) zr_184_77 rfl rfl ?_
        refine z_gk h (fun g80 h => ?_)
        refine zq_iastore (pc := 80) zr_184_80 (by decide) rfl g80 rfl h (fun W102 h => ?_)
        refine ze_goto (pc := 81) (t := 0) zr_184_81 (by decide) ?_
        exact h
      · refine ze_aload_n (pc := 49) zr_184_49 rfl ?_
        refine ze_getfield (pc := 50) (v := .inr (.inr 150)) zr_184_50 rfl rfl ?_
        refine ze_aload_n (pc := 53) zr_184_53 rfl ?_
        refine ze_getfield (pc := 54) (v := .inl (W101 141 23)) zr_184_54 rfl rfl ?_
        refine z_gk h (fun g57 h => ?_)
        refine zl_iaload (pc := 57) zr_184_57 rfl rfl g57 h (fun x57 h => ?_)
        refine ze_bipush (pc := 58) zr_184_58 (by decide) ?_
        refine zq_icmp_ne (pc := 60) (t := 84) zr_184_60 (by decide) (z_toif h) (fun h => ?_) (fun h => ?_)
        · refine ze_aload_n (pc := 63) zr_184_63 rfl ?_
          refine ze_getfield (pc := 64) (v := .inr (.inr 149)) zr_184_64 rfl rfl ?_
          refine ze_aload_n (pc := 67) zr_184_67 rfl ?_
          refine ze_getfield (pc := 68) (v := .inr (.inr 151)) zr_184_68 rfl rfl ?_
          refine ze_aload_n (pc := 71) zr_184_71 rfl ?_
          refine ze_getfield (pc := 72) (v := .inl (W101 141 23)) zr_184_72 rfl rfl ?_
          refine z_gk h (fun g75 h => ?_)
          refine zl_iaload (pc := 75) zr_184_75 rfl rfl g75 h (fun x75 h => ?_)
          refine ze_aload_n (pc := 76) zr_184_76 rfl ?_
          refine ze_getfield (pc := 77) (v := .inl (W101 141 17)) zr_184_77 rfl rfl ?_
          refine z_gk h (fun g80 h => ?_)
          refine zq_iastore (pc := 80) zr_184_80 (by decide) rfl g80 rfl h (fun W103 h => ?_)
          refine ze_goto (pc := 81) (t := 0) zr_184_81 (by decide) ?_
          exact h
        · refine ze_aload_n (pc := 84) zr_184_84 rfl ?_
          refine ze_aload_n (pc := 85) zr_184_85 rfl ?_
          refine ze_getfield (pc := 86) (v := .inr (.inr 150)) zr_184_86 rfl rfl ?_
          refine ze_aload_n (pc := 89) zr_184_89 rfl ?_
          refine ze_getfield (pc := 90) (v := .inl (W101 141 23)) zr_184_90 rfl rfl ?_
          refine z_gk h (fun g93 h => ?_)
          refine zl_iaload (pc := 93) zr_184_93 rfl rfl g93 h (fun x93 h => ?_)
          refine ze_iconst (pc := 94) zr_184_94 (by decide) ?_
          refine zq_callV0 (pc := 95) (as := [.inr (.inr 141), .inl x93, .inl 0]) (r := []) (kc2 := 0) (ks2 := 0) zr_184_95 rfl (by decide) rfl rfl rfl rfl ⟨rfl, rfl⟩ rfl h (fun z102 V102 h => ?_)
          refine ze_goto (pc := 98) (t := 0) zr_184_98 (by decide) ?_
          exact h
  · exact ze_vret (pc := 101) zr_184_101 rfl h
theorem zb185_141 {d : Nat} {Q : Int → z_M → Prop}  {V : z_M}
    (h : z_Ex (z_MS d) 185 Q true 4 [some (.inr (.inr 141)), some (.inl (-1)), some (.inl 0)] [] 0 0 V) :
    z_MS (d + 1) 185 true [.inr (.inr 141)] V Q := by
  show z_Ex (z_MS d) 185 Q true 0 [some (.inr (.inr 141)), none, none] [] 0 0 V
  refine ze_iconst (pc := 0) zr_185_0 (by decide) ?_
  refine zq_istore_n (pc := 1) (ls2 := [some (.inr (.inr 141)), some (.inl (-1)), none]) zr_185_1 rfl rfl ?_
  refine ze_iconst (pc := 2) zr_185_2 (by decide) ?_
  refine zq_istore_n (pc := 3) (ls2 := [some (.inr (.inr 141)), some (.inl (-1)), some (.inl 0)]) zr_185_3 rfl rfl ?_
  exact h
theorem zb185_141_p4 {d : Nat} {Q : Int → z_M → Prop} (l1 : Int) (l2 : Int) {V : z_M}
    (h : zI (l2 < (V 141 23)) (zGu (0 ≤ l2 ∧ l2 < 400) (∀ x17 : Int, x17 = V 150 l2.toNat → zI (x17 < 30) (z_Ex (z_MS d) 185 Q true 4 [some (.inr (.inr 141)), some (.inl l1), some (.inl (z_add l2 1))] [] 0 0 V) (zGu (0 ≤ l2 ∧ l2 < 400) (∀ x28 : Int, x28 = V 150 l2.toNat → z_Ex (z_MS d) 185 Q true 4 [some (.inr (.inr 141)), some (.inl x28), some (.inl (z_add l2 1))] [] 0 0 V)))) (Q l1 V)) :
    z_Ex (z_MS d) 185 Q true 4 [some (.inr (.inr 141)), some (.inl l1), some (.inl l2)] [] 0 0 V := by
  refine ze_iload_n (pc := 4) zr_185_4 rfl ?_
  refine ze_aload_n (pc := 5) zr_185_5 rfl ?_
  refine ze_getfield (pc := 6) (v := .inl (V 141 23)) zr_185_6 rfl rfl ?_
  refine zq_icmp_ge (pc := 9) (t := 40) zr_185_9 (by decide) (z_toif h) (fun h => ?_) (fun h => ?_)
  · refine ze_aload_n (pc := 12) zr_185_12 rfl ?_
    refine ze_getfield (pc := 13) (v := .inr (.inr 150)) zr_185_13 rfl rfl ?_
    refine ze_iload_n (pc := 16) zr_185_16 rfl ?_
    refine z_gk h (fun g17 h => ?_)
    refine zl_iaload (pc := 17) zr_185_17 rfl rfl g17 h (fun x17 h => ?_)
    refine ze_bipush (pc := 18) zr_185_18 (by decide) ?_
    refine zq_icmp_lt (pc := 20) (t := 32) zr_185_20 (by decide) (z_toif h) (fun h => ?_) (fun h => ?_)
    · refine ze_iload_n (pc := 32) zr_185_32 rfl ?_
      refine zq_istore_n (pc := 33) (ls2 := [some (.inr (.inr 141)), some (.inl l1), some (.inl l2)]) zr_185_33 rfl rfl ?_
      refine zq_iinc (pc := 34) (ls2 := [some (.inr (.inr 141)), some (.inl l1), some (.inl (z_add l2 1))]) zr_185_34 rfl rfl rfl ?_
      refine ze_goto (pc := 37) (t := 4) zr_185_37 (by decide) ?_
      exact h
    · refine ze_aload_n (pc := 23) zr_185_23 rfl ?_
      refine ze_getfield (pc := 24) (v := .inr (.inr 150)) zr_185_24 rfl rfl ?_
      refine ze_iload_n (pc := 27) zr_185_27 rfl ?_
      refine z_gk h (fun g28 h => ?_)
      refine zl_iaload (pc := 28) zr_185_28 rfl rfl g28 h (fun x28 h => ?_)
      refine ze_goto (pc := 29) (t := 33) zr_185_29 (by decide) ?_
      refine zq_istore_n (pc := 33) (ls2 := [some (.inr (.inr 141)), some (.inl x28), some (.inl l2)]) zr_185_33 rfl rfl ?_
      refine zq_iinc (pc := 34) (ls2 := [some (.inr (.inr 141)), some (.inl x28), some (.inl (z_add l2 1))]) zr_185_34 rfl rfl rfl ?_
      refine ze_goto (pc := 37) (t := 4) zr_185_37 (by decide) ?_
      exact h
  · refine ze_iload_n (pc := 40) zr_185_40 rfl ?_
    exact zq_ret1 (pc := 41) zr_185_41 rfl h
theorem zb186_141 {d : Nat} {Q : Int → z_M → Prop}  {V : z_M}
    (h : z_Ex (z_MS d) 186 Q true 7 [some (.inr (.inr 141)), some (.inl (z_sub (V 141 23) 1))] [] 0 0 V) :
    z_MS (d + 1) 186 true [.inr (.inr 141)] V Q := by
  show z_Ex (z_MS d) 186 Q true 0 [some (.inr (.inr 141)), none] [] 0 0 V
  refine ze_aload_n (pc := 0) zr_186_0 rfl ?_
  refine ze_getfield (pc := 1) (v := .inl (V 141 23)) zr_186_1 rfl rfl ?_
  refine ze_iconst (pc := 4) zr_186_4 (by decide) ?_
  refine ze_isub (pc := 5) zr_186_5 ?_
  refine zq_istore_n (pc := 6) (ls2 := [some (.inr (.inr 141)), some (.inl (z_sub (V 141 23) 1))]) zr_186_6 rfl rfl ?_
  exact h
theorem zb186_141_p7 {d : Nat} {Q : Int → z_M → Prop} (l1 : Int) {V : z_M}
    (h : zI (l1 < 0) (zI (l1 < 0) (Q 0 V) (zGu (0 ≤ l1 ∧ l1 < 400) (∀ x45 : Int, x45 = V 150 l1.toNat → z_MS d 145 true [.inr (.inl x45), .inr (.inl 24), .inr (.inl 26)] V (fun z801 V801 => Q (if z801 = 0 then 0 else 1) V801)))) (zGu (0 ≤ l1 ∧ l1 < 400) (∀ x16 : Int, x16 = V 150 l1.toNat → z_MS d 145 true [.inr (.inl x16), .inr (.inl 20), .inr (.inl 23)] V (fun z802 V802 => zI (z802 = 0) (zI (l1 < 0) (Q 0 V802) (zGu (0 ≤ l1 ∧ l1 < 400) (∀ x45 : Int, x45 = V802 150 l1.toNat → z_MS d 145 true [.inr (.inl x45), .inr (.inl 24), .inr (.inl 26)] V802 (fun z803 V803 => Q (if z803 = 0 then 0 else 1) V803)))) (z_Ex (z_MS d) 186 Q true 7 [some (.inr (.inr 141)), some (.inl (z_add l1 (-1)))] [] 0 0 V802))))) :
    z_Ex (z_MS d) 186 Q true 7 [some (.inr (.inr 141)), some (.inl l1)] [] 0 0 V := by
  refine ze_iload_n (pc := 7) zr_186_7 rfl ?_
  refine zq_if_lt (pc := 8) (t := 36) zr_186_8 (by decide) (z_toif h) (fun h => ?_) (fun h => ?_)
  · refine ze_iload_n (pc := 36) zr_186_36 rfl ?_
    refine zq_if_lt (pc := 37) (t := 63) zr_186_37 (by decide) (z_toif h) (fun h => ?_) (fun h => ?_)
    · refine ze_iconst (pc := 63) zr_186_63 (by decide) ?_
      exact zq_ret4 (pc := 64) zr_186_64 rfl (by decide) h
    · refine ze_aload_n (pc := 40) zr_186_40 rfl ?_
      refine ze_getfield (pc := 41) (v := .inr (.inr 150)) zr_186_41 rfl rfl ?_
      refine ze_iload_n (pc := 44) zr_186_44 rfl ?_
      refine z_gk h (fun g45 h => ?_)
      refine zl_iaload (pc := 45) zr_186_45 rfl rfl g45 h (fun x45 h => ?_)
      refine ze_i2l (pc := 46) zr_186_46 ?_
      refine ze_ldc2 (pc := 47) (z := 24) zr_186_47 (by decide) rfl ?_
      refine ze_ldc2 (pc := 50) (z := 26) zr_186_50 (by decide) rfl ?_
      refine zq_callS1 (pc := 53) (as := [.inr (.inl x45), .inr (.inl 24), .inr (.inl 26)]) (r := []) (kc2 := 0) (ks2 := 0) zr_186_53 rfl rfl rfl rfl ⟨rfl, rfl⟩ ⟨rfl, rfl, rfl⟩ h (fun z801 V801 h => ?_)
      have j56 : z_Ex (z_MS d) 186 Q true 64 [some (.inr (.inr 141)), some (.inl l1)] [.inl (if z801 = 0 then 0 else 1)] 0 0 V801 := by
        exact zq_ret4 (pc := 64) zr_186_64 rfl (by (repeat' split) <;> decide) h
      refine ze_if_eq (pc := 56) (t := 63) zr_186_56 (by decide) (fun hc => ?_) (fun hc => ?_)
      · rw [if_pos (show z801 = 0 from hc)] at j56
        refine ze_iconst (pc := 63) zr_186_63 (by decide) ?_
        exact j56
      · rw [if_neg (show ¬ (z801 = 0) from hc)] at j56
        refine ze_iconst (pc := 59) zr_186_59 (by decide) ?_
        refine ze_goto (pc := 60) (t := 64) zr_186_60 (by decide) ?_
        exact j56
  · refine ze_aload_n (pc := 11) zr_186_11 rfl ?_
    refine ze_getfield (pc := 12) (v := .inr (.inr 150)) zr_186_12 rfl rfl ?_
    refine ze_iload_n (pc := 15) zr_186_15 rfl ?_
    refine z_gk h (fun g16 h => ?_)
    refine zl_iaload (pc := 16) zr_186_16 rfl rfl g16 h (fun x16 h => ?_)
    refine ze_i2l (pc := 17) zr_186_17 ?_
    refine ze_ldc2 (pc := 18) (z := 20) zr_186_18 (by decide) rfl ?_
    refine ze_ldc2 (pc := 21) (z := 23) zr_186_21 (by decide) rfl ?_
    refine zq_callS1 (pc := 24) (as := [.inr (.inl x16), .inr (.inl 20), .inr (.inl 23)]) (r := []) (kc2 := 0) (ks2 := 0) zr_186_24 rfl rfl rfl rfl ⟨rfl, rfl⟩ ⟨rfl, rfl, rfl⟩ h (fun z802 V802 h => ?_)
    refine zq_if_eq (pc := 27) (t := 36) zr_186_27 (by decide) (z_toif h) (fun h => ?_) (fun h => ?_)
    · refine ze_iload_n (pc := 36) zr_186_36 rfl ?_
      refine zq_if_lt (pc := 37) (t := 63) zr_186_37 (by decide) (z_toif h) (fun h => ?_) (fun h => ?_)
      · refine ze_iconst (pc := 63) zr_186_63 (by decide) ?_
        exact zq_ret4 (pc := 64) zr_186_64 rfl (by decide) h
      · refine ze_aload_n (pc := 40) zr_186_40 rfl ?_
        refine ze_getfield (pc := 41) (v := .inr (.inr 150)) zr_186_41 rfl rfl ?_
        refine ze_iload_n (pc := 44) zr_186_44 rfl ?_
        refine z_gk h (fun g45 h => ?_)
        refine zl_iaload (pc := 45) zr_186_45 rfl rfl g45 h (fun x45 h => ?_)
        refine ze_i2l (pc := 46) zr_186_46 ?_
        refine ze_ldc2 (pc := 47) (z := 24) zr_186_47 (by decide) rfl ?_
        refine ze_ldc2 (pc := 50) (z := 26) zr_186_50 (by decide) rfl ?_
        refine zq_callS1 (pc := 53) (as := [.inr (.inl x45), .inr (.inl 24), .inr (.inl 26)]) (r := []) (kc2 := 0) (ks2 := 0) zr_186_53 rfl rfl rfl rfl ⟨rfl, rfl⟩ ⟨rfl, rfl, rfl⟩ h (fun z803 V803 h => ?_)
        have j56 : z_Ex (z_MS d) 186 Q true 64 [some (.inr (.inr 141)), some (.inl l1)] [.inl (if z803 = 0 then 0 else 1)] 0 0 V803 := by
          exact zq_ret4 (pc := 64) zr_186_64 rfl (by (repeat' split) <;> decide) h
        refine ze_if_eq (pc := 56) (t := 63) zr_186_56 (by decide) (fun hc => ?_) (fun hc => ?_)
        · rw [if_pos (show z803 = 0 from hc)] at j56
          refine ze_iconst (pc := 63) zr_186_63 (by decide) ?_
          exact j56
        · rw [if_neg (show ¬ (z803 = 0) from hc)] at j56
          refine ze_iconst (pc := 59) zr_186_59 (by decide) ?_
          refine ze_goto (pc := 60) (t := 64) zr_186_60 (by decide) ?_
          exact j56
    · refine zq_iinc (pc := 30) (ls2 := [some (.inr (.inr 141)), some (.inl (z_add l1 (-1)))]) zr_186_30 rfl rfl rfl ?_
      refine ze_goto (pc := 33) (t := 7) zr_186_33 (by decide) ?_
      exact h
theorem zb187_141 {d : Nat} {Q : Int → z_M → Prop}  {V : z_M}
    (h : z_Ex (z_MS d) 187 Q true 4 [some (.inr (.inr 141)), some (.inl (-1)), some (.inl 0)] [] 0 0 V) :
    z_MS (d + 1) 187 true [.inr (.inr 141)] V Q := by
  show z_Ex (z_MS d) 187 Q true 0 [some (.inr (.inr 141)), none, none] [] 0 0 V
  refine ze_iconst (pc := 0) zr_187_0 (by decide) ?_
  refine zq_istore_n (pc := 1) (ls2 := [some (.inr (.inr 141)), some (.inl (-1)), none]) zr_187_1 rfl rfl ?_
  refine ze_iconst (pc := 2) zr_187_2 (by decide) ?_
  refine zq_istore_n (pc := 3) (ls2 := [some (.inr (.inr 141)), some (.inl (-1)), some (.inl 0)]) zr_187_3 rfl rfl ?_
  exact h
theorem zb187_141_p4 {d : Nat} {Q : Int → z_M → Prop} (l1 : Int) (l2 : Int) {V : z_M}
    (h : zI (l2 < 9) (zGu (0 ≤ l2 ∧ l2 < 9) (∀ x16 : Int, x16 = V 152 l2.toNat → z_MS d 177 true [.inr (.inr 141), .inr (.inl x16)] V (fun z501 V501 => z_Ex (z_MS d) 187 Q true 4 [some (.inr (.inr 141)), some (.inl (if z501 = 0 then l1 else z_add l2 1)), some (.inl (z_add l2 1))] [] 0 0 V501))) (Q l1 V)) :
    z_Ex (z_MS d) 187 Q true 4 [some (.inr (.inr 141)), some (.inl l1), some (.inl l2)] [] 0 0 V := by
  refine ze_iload_n (pc := 4) zr_187_4 rfl ?_
  refine ze_bipush (pc := 5) zr_187_5 (by decide) ?_
  refine zq_icmp_ge (pc := 7) (t := 37) zr_187_7 (by decide) (z_toif h) (fun h => ?_) (fun h => ?_)
  · refine ze_aload_n (pc := 10) zr_187_10 rfl ?_
    refine ze_aload_n (pc := 11) zr_187_11 rfl ?_
    refine ze_getfield (pc := 12) (v := .inr (.inr 152)) zr_187_12 rfl rfl ?_
    refine ze_iload_n (pc := 15) zr_187_15 rfl ?_
    refine z_gk h (fun g16 h => ?_)
    refine zl_laload (pc := 16) zr_187_16 rfl rfl g16 h (fun x16 h => ?_)
    refine zq_callV1 (pc := 17) (as := [.inr (.inr 141), .inr (.inl x16)]) (r := []) (kc2 := 0) (ks2 := 0) zr_187_17 rfl (by decide) rfl rfl rfl rfl ⟨rfl, rfl⟩ ⟨rfl, rfl, rfl⟩ h (fun z501 V501 h => ?_)
    have j20 : z_Ex (z_MS d) 187 Q true 30 [some (.inr (.inr 141)), some (.inl l1), some (.inl l2)] [.inl (if z501 = 0 then l1 else z_add l2 1)] 0 0 V501 := by
      refine zq_istore_n (pc := 30) (ls2 := [some (.inr (.inr 141)), some (.inl (if z501 = 0 then l1 else z_add l2 1)), some (.inl l2)]) zr_187_30 rfl rfl ?_
      refine zq_iinc (pc := 31) (ls2 := [some (.inr (.inr 141)), some (.inl (if z501 = 0 then l1 else z_add l2 1)), some (.inl (z_add l2 1))]) zr_187_31 rfl rfl rfl ?_
      refine ze_goto (pc := 34) (t := 4) zr_187_34 (by decide) ?_
      exact h
    refine ze_if_eq (pc := 20) (t := 29) zr_187_20 (by decide) (fun hc => ?_) (fun hc => ?_)
    · rw [if_pos (show z501 = 0 from hc)] at j20
      refine ze_iload_n (pc := 29) zr_187_29 rfl ?_
      exact j20
    · rw [if_neg (show ¬ (z501 = 0) from hc)] at j20
      refine ze_iload_n (pc := 23) zr_187_23 rfl ?_
      refine ze_iconst (pc := 24) zr_187_24 (by decide) ?_
      refine ze_iadd (pc := 25) zr_187_25 ?_
      refine ze_goto (pc := 26) (t := 30) zr_187_26 (by decide) ?_
      exact j20
  · refine ze_iload_n (pc := 37) zr_187_37 rfl ?_
    exact zq_ret1 (pc := 38) zr_187_38 rfl h
theorem zb188_141 {d : Nat} {Q : Int → z_M → Prop} (a0 : Int) {V : z_M}
    (h : z_MS d 179 true [.inr (.inr 141), .inl (if (V 141 24) < 8 then 1 else 0)] V (fun z1 V1 => zI ((V1 141 14) = 0) (∀ W1, W1 = z_up V1 141 24 (z_add (V1 141 24) 1) → z_MS d 182 true [.inr (.inr 141), .inl a0, .inl 0] W1 (fun z2 V2 => Q 0 V2)) (Q 0 V1))) :
    z_MS (d + 1) 188 true [.inr (.inr 141), .inl a0] V Q := by
  show z_Ex (z_MS d) 188 Q true 0 [some (.inr (.inr 141)), some (.inl a0)] [] 0 0 V
  refine ze_aload_n (pc := 0) zr_188_0 rfl ?_
  refine ze_aload_n (pc := 1) zr_188_1 rfl ?_
  refine ze_getfield (pc := 2) (v := .inl (V 141 24)) zr_188_2 rfl rfl ?_
  refine ze_bipush (pc := 5) zr_188_5 (by decide) ?_
  have j7 : z_Ex (z_MS d) 188 Q true 15 [some (.inr (.inr 141)), some (.inl a0)] [.inl (if (V 141 24) < 8 then 1 else 0), .inr (.inr 141)] 0 0 V := by
    refine zq_callV0 (pc := 15) (as := [.inr (.inr 141), .inl (if (V 141 24) < 8 then 1 else 0)]) (r := []) (kc2 := 0) (ks2 := 0) zr_188_15 rfl (by decide) rfl rfl rfl rfl ⟨rfl, rfl⟩ rfl h (fun z1 V1 h => ?_)
    refine ze_aload_n (pc := 18) zr_188_18 rfl ?_
    refine ze_getfield (pc := 19) (v := .inl (V1 141 14)) zr_188_19 rfl rfl ?_
    refine zq_if_ne (pc := 22) (t := 41) zr_188_22 (by decide) (z_toif h) (fun h => ?_) (fun h => ?_)
    · refine ze_aload_n (pc := 25) zr_188_25 rfl ?_
      refine ze_dup (pc := 26) zr_188_26 rfl ?_
      refine ze_getfield (pc := 27) (v := .inl (V1 141 24)) zr_188_27 rfl rfl ?_
      refine ze_iconst (pc := 30) zr_188_30 (by decide) ?_
      refine ze_iadd (pc := 31) zr_188_31 ?_
      refine zq_putI (pc := 32) zr_188_32 (by decide) rfl h (fun W1 h => ?_)
      refine ze_aload_n (pc := 35) zr_188_35 rfl ?_
      refine ze_iload_n (pc := 36) zr_188_36 rfl ?_
      refine ze_iconst (pc := 37) zr_188_37 (by decide) ?_
      refine zq_callV0 (pc := 38) (as := [.inr (.inr 141), .inl a0, .inl 0]) (r := []) (kc2 := 0) (ks2 := 0) zr_188_38 rfl (by decide) rfl rfl rfl rfl ⟨rfl, rfl⟩ rfl h (fun z2 V2 h => ?_)
      exact ze_vret (pc := 41) zr_188_41 rfl h
    · exact ze_vret (pc := 41) zr_188_41 rfl h
  refine ze_icmp_ge (pc := 7) (t := 14) zr_188_7 (by decide) (fun hc => ?_) (fun hc => ?_)
  · rw [if_pos (show (V 141 24) < 8 from hc)] at j7
    refine ze_iconst (pc := 10) zr_188_10 (by decide) ?_
    refine ze_goto (pc := 11) (t := 15) zr_188_11 (by decide) ?_
    exact j7
  · rw [if_neg (show ¬ ((V 141 24) < 8) from hc)] at j7
    refine ze_iconst (pc := 14) zr_188_14 (by decide) ?_
    exact j7
theorem zb189_141 {d : Nat} {Q : Int → z_M → Prop} (a0 : Int) (a1 : Int) (a2 : Int) {V : z_M}
    (h : z_MS d 179 true [.inr (.inr 141), .inl (if a0 = 0 then 0 else (if (V 141 20) < 50 then 1 else 0))] V (fun z1 V1 => zI ((V1 141 14) = 0) (z_MS d 181 true [.inr (.inr 141), .inl a1, .inl a2] V1 (fun z2 V2 => ∀ W1, W1 = z_up V2 141 20 (z_add (V2 141 20) 1) → Q 0 W1)) (Q 0 V1))) :
    z_MS (d + 1) 189 true [.inr (.inr 141), .inl a0, .inl a1, .inl a2] V Q := by
  show z_Ex (z_MS d) 189 Q true 0 [some (.inr (.inr 141)), some (.inl a0), some (.inl a1), some (.inl a2)] [] 0 0 V
  refine ze_aload_n (pc := 0) zr_189_0 rfl ?_
  refine ze_iload_n (pc := 1) zr_189_1 rfl ?_
  have j2 : z_Ex (z_MS d) 189 Q true 19 [some (.inr (.inr 141)), some (.inl a0), some (.inl a1), some (.inl a2)] [.inl (if a0 = 0 then 0 else (if (V 141 20) < 50 then 1 else 0)), .inr (.inr 141)] 0 0 V := by
    refine zq_callV0 (pc := 19) (as := [.inr (.inr 141), .inl (if a0 = 0 then 0 else (if (V 141 20) < 50 then 1 else 0))]) (r := []) (kc2 := 0) (ks2 := 0) zr_189_19 rfl (by decide) rfl rfl rfl rfl ⟨rfl, rfl⟩ rfl h (fun z1 V1 h => ?_)
    refine ze_aload_n (pc := 22) zr_189_22 rfl ?_
    refine ze_getfield (pc := 23) (v := .inl (V1 141 14)) zr_189_23 rfl rfl ?_
    refine zq_if_ne (pc := 26) (t := 45) zr_189_26 (by decide) (z_toif h) (fun h => ?_) (fun h => ?_)
    · refine ze_aload_n (pc := 29) zr_189_29 rfl ?_
      refine ze_iload_n (pc := 30) zr_189_30 rfl ?_
      refine ze_iload_n (pc := 31) zr_189_31 rfl ?_
      refine zq_callV0 (pc := 32) (as := [.inr (.inr 141), .inl a1, .inl a2]) (r := []) (kc2 := 0) (ks2 := 0) zr_189_32 rfl (by decide) rfl rfl rfl rfl ⟨rfl, rfl⟩ rfl h (fun z2 V2 h => ?_)
      refine ze_aload_n (pc := 35) zr_189_35 rfl ?_
      refine ze_dup (pc := 36) zr_189_36 rfl ?_
      refine ze_getfield (pc := 37) (v := .inl (V2 141 20)) zr_189_37 rfl rfl ?_
      refine ze_iconst (pc := 40) zr_189_40 (by decide) ?_
      refine ze_iadd (pc := 41) zr_189_41 ?_
      refine zq_putI (pc := 42) zr_189_42 (by decide) rfl h (fun W1 h => ?_)
      exact ze_vret (pc := 45) zr_189_45 rfl h
    · exact ze_vret (pc := 45) zr_189_45 rfl h
  refine ze_if_eq (pc := 2) (t := 18) zr_189_2 (by decide) (fun hc => ?_) (fun hc => ?_)
  · rw [if_pos (show a0 = 0 from hc)] at j2
    refine ze_iconst (pc := 18) zr_189_18 (by decide) ?_
    exact j2
  · rw [if_neg (show ¬ (a0 = 0) from hc)] at j2
    refine ze_aload_n (pc := 5) zr_189_5 rfl ?_
    refine ze_getfield (pc := 6) (v := .inl (V 141 20)) zr_189_6 rfl rfl ?_
    refine ze_bipush (pc := 9) zr_189_9 (by decide) ?_
    refine ze_icmp_ge (pc := 11) (t := 18) zr_189_11 (by decide) (fun hc => ?_) (fun hc => ?_)
    · rw [if_pos (show (V 141 20) < 50 from hc)] at j2
      refine ze_iconst (pc := 14) zr_189_14 (by decide) ?_
      refine ze_goto (pc := 15) (t := 19) zr_189_15 (by decide) ?_
      exact j2
    · rw [if_neg (show ¬ ((V 141 20) < 50) from hc)] at j2
      refine ze_iconst (pc := 18) zr_189_18 (by decide) ?_
      exact j2
theorem zb190_141 {d : Nat} {Q : Int → z_M → Prop}  {V : z_M}
    (h : z_MS d 178 true [.inr (.inr 141), .inl 91] V (fun z1 V1 => zI (z1 = 0) (z_MS d 187 true [.inr (.inr 141)] V1 (fun z2 V2 => z_MS d 189 true [.inr (.inr 141), .inl (if z2 = (-1) then (if (if (V2 141 11) = 2 then (if 0 < (z_lcmp (V2 141 12) 1000) then 0 else 1) else 0 : Int) = 0 then 0 else 1) else 1), .inl (if z2 = (-1) then 0 else z2), .inl (if (if (V2 141 11) = 2 then (if 0 < (z_lcmp (V2 141 12) 1000) then 0 else 1) else 0 : Int) = 0 then 0 else z_l2i (V2 141 12))] V2 (fun z3 V3 => Q 3 V3))) (z_MS d 188 true [.inr (.inr 141), .inl 31] V1 (fun z4 V4 => Q 1 V4)))) :
    z_MS (d + 1) 190 true [.inr (.inr 141)] V Q := by
  show z_Ex (z_MS d) 190 Q true 0 [some (.inr (.inr 141)), none, none] [] 0 0 V
  refine ze_aload_n (pc := 0) zr_190_0 rfl ?_
  refine ze_bipush (pc := 1) zr_190_1 (by decide) ?_
  refine zq_callV1 (pc := 3) (as := [.inr (.inr 141), .inl 91]) (r := []) (kc2 := 0) (ks2 := 0) zr_190_3 rfl (by decide) rfl rfl rfl rfl ⟨rfl, rfl⟩ ⟨rfl, rfl, rfl⟩ h (fun z1 V1 h => ?_)
  refine zq_if_eq (pc := 6) (t := 17) zr_190_6 (by decide) (z_toif h) (fun h => ?_) (fun h => ?_)
  · refine ze_aload_n (pc := 17) zr_190_17 rfl ?_
    refine zq_callV1 (pc := 18) (as := [.inr (.inr 141)]) (r := []) (kc2 := 0) (ks2 := 0) zr_190_18 rfl (by decide) rfl rfl rfl rfl ⟨rfl, rfl⟩ ⟨rfl, rfl, rfl⟩ h (fun z2 V2 h => ?_)
    refine zq_istore_n (pc := 21) (ls2 := [some (.inr (.inr 141)), some (.inl z2), none]) zr_190_21 rfl rfl ?_
    refine ze_aload_n (pc := 22) zr_190_22 rfl ?_
    refine ze_getfield (pc := 23) (v := .inl (V2 141 11)) zr_190_23 rfl rfl ?_
    refine ze_iconst (pc := 26) zr_190_26 (by decide) ?_
    have j27 : z_Ex (z_MS d) 190 Q true 46 [some (.inr (.inr 141)), some (.inl z2), none] [.inl (if (V2 141 11) = 2 then (if 0 < (z_lcmp (V2 141 12) 1000) then 0 else 1) else 0)] 0 0 V2 := by
      refine zq_istore_n (pc := 46) (ls2 := [some (.inr (.inr 141)), some (.inl z2), some (.inl (if (V2 141 11) = 2 then (if 0 < (z_lcmp (V2 141 12) 1000) then 0 else 1) else 0))]) zr_190_46 rfl rfl ?_
      refine ze_aload_n (pc := 47) zr_190_47 rfl ?_
      refine ze_iload_n (pc := 48) zr_190_48 rfl ?_
      refine ze_iconst (pc := 49) zr_190_49 (by decide) ?_
      have j50 : z_Ex (z_MS d) 190 Q true 62 [some (.inr (.inr 141)), some (.inl z2), some (.inl (if (V2 141 11) = 2 then (if 0 < (z_lcmp (V2 141 12) 1000) then 0 else 1) else 0))] [.inl (if z2 = (-1) then (if (if (V2 141 11) = 2 then (if 0 < (z_lcmp (V2 141 12) 1000) then 0 else 1) else 0 : Int) = 0 then 0 else 1) else 1), .inr (.inr 141)] 0 0 V2 := by
        refine ze_iload_n (pc := 62) zr_190_62 rfl ?_
        refine ze_iconst (pc := 63) zr_190_63 (by decide) ?_
        have j64 : z_Ex (z_MS d) 190 Q true 72 [some (.inr (.inr 141)), some (.inl z2), some (.inl (if (V2 141 11) = 2 then (if 0 < (z_lcmp (V2 141 12) 1000) then 0 else 1) else 0))] [.inl (if z2 = (-1) then 0 else z2), .inl (if z2 = (-1) then (if (if (V2 141 11) = 2 then (if 0 < (z_lcmp (V2 141 12) 1000) then 0 else 1) else 0 : Int) = 0 then 0 else 1) else 1), .inr (.inr 141)] 0 0 V2 := by
          refine ze_iload_n (pc := 72) zr_190_72 rfl ?_
          have j73 : z_Ex (z_MS d) 190 Q true 85 [some (.inr (.inr 141)), some (.inl z2), some (.inl (if (V2 141 11) = 2 then (if 0 < (z_lcmp (V2 141 12) 1000) then 0 else 1) else 0))] [.inl (if (if (V2 141 11) = 2 then (if 0 < (z_lcmp (V2 141 12) 1000) then 0 else 1) else 0 : Int) = 0 then 0 else z_l2i (V2 141 12)), .inl (if z2 = (-1) then 0 else z2), .inl (if z2 = (-1) then (if (if (V2 141 11) = 2 then (if 0 < (z_lcmp (V2 141 12) 1000) then 0 else 1) else 0 : Int) = 0 then 0 else 1) else 1), .inr (.inr 141)] 0 0 V2 := by
            refine zq_callV0 (pc := 85) (as := [.inr (.inr 141), .inl (if z2 = (-1) then (if (if (V2 141 11) = 2 then (if 0 < (z_lcmp (V2 141 12) 1000) then 0 else 1) else 0 : Int) = 0 then 0 else 1) else 1), .inl (if z2 = (-1) then 0 else z2), .inl (if (if (V2 141 11) = 2 then (if 0 < (z_lcmp (V2 141 12) 1000) then 0 else 1) else 0 : Int) = 0 then 0 else z_l2i (V2 141 12))]) (r := []) (kc2 := 0) (ks2 := 0) zr_190_85 rfl (by decide) rfl rfl rfl rfl ⟨rfl, rfl⟩ rfl h (fun z3 V3 h => ?_)
            refine ze_iconst (pc := 88) zr_190_88 (by decide) ?_
            exact zq_ret1 (pc := 89) zr_190_89 rfl h
          refine ze_if_eq (pc := 73) (t := 84) zr_190_73 (by decide) (fun hc => ?_) (fun hc => ?_)
          · rw [if_pos (show (if (V2 141 11) = 2 then (if 0 < (z_lcmp (V2 141 12) 1000) then 0 else 1) else 0 : Int) = 0 from hc)] at j73
            refine ze_iconst (pc := 84) zr_190_84 (by decide) ?_
            exact j73
          · rw [if_neg (show ¬ ((if (V2 141 11) = 2 then (if 0 < (z_lcmp (V2 141 12) 1000) then 0 else 1) else 0 : Int) = 0) from hc)] at j73
            refine ze_aload_n (pc := 76) zr_190_76 rfl ?_
            refine ze_getfield (pc := 77) (v := .inr (.inl (V2 141 12))) zr_190_77 rfl rfl ?_
            refine ze_l2i (pc := 80) zr_190_80 ?_
            refine ze_goto (pc := 81) (t := 85) zr_190_81 (by decide) ?_
            exact j73
        refine ze_icmp_ne (pc := 64) (t := 71) zr_190_64 (by decide) (fun hc => ?_) (fun hc => ?_)
        · rw [if_pos (show z2 = (-1) from hc)] at j64
          refine ze_iconst (pc := 67) zr_190_67 (by decide) ?_
          refine ze_goto (pc := 68) (t := 72) zr_190_68 (by decide) ?_
          exact j64
        · rw [if_neg (show ¬ (z2 = (-1)) from hc)] at j64
          refine ze_iload_n (pc := 71) zr_190_71 rfl ?_
          exact j64
      refine ze_icmp_ne (pc := 50) (t := 57) zr_190_50 (by decide) (fun hc => ?_) (fun hc => ?_)
      · rw [if_pos (show z2 = (-1) from hc)] at j50
        refine ze_iload_n (pc := 53) zr_190_53 rfl ?_
        refine ze_if_eq (pc := 54) (t := 61) zr_190_54 (by decide) (fun hc => ?_) (fun hc => ?_)
        · rw [if_pos (show (if (V2 141 11) = 2 then (if 0 < (z_lcmp (V2 141 12) 1000) then 0 else 1) else 0 : Int) = 0 from hc)] at j50
          refine ze_iconst (pc := 61) zr_190_61 (by decide) ?_
          exact j50
        · rw [if_neg (show ¬ ((if (V2 141 11) = 2 then (if 0 < (z_lcmp (V2 141 12) 1000) then 0 else 1) else 0 : Int) = 0) from hc)] at j50
          refine ze_iconst (pc := 57) zr_190_57 (by decide) ?_
          refine ze_goto (pc := 58) (t := 62) zr_190_58 (by decide) ?_
          exact j50
      · rw [if_neg (show ¬ (z2 = (-1)) from hc)] at j50
        refine ze_iconst (pc := 57) zr_190_57 (by decide) ?_
        refine ze_goto (pc := 58) (t := 62) zr_190_58 (by decide) ?_
        exact j50
    refine ze_icmp_ne (pc := 27) (t := 45) zr_190_27 (by decide) (fun hc => ?_) (fun hc => ?_)
    · rw [if_pos (show (V2 141 11) = 2 from hc)] at j27
      refine ze_aload_n (pc := 30) zr_190_30 rfl ?_
      refine ze_getfield (pc := 31) (v := .inr (.inl (V2 141 12))) zr_190_31 rfl rfl ?_
      refine ze_ldc2 (pc := 34) (z := 1000) zr_190_34 (by decide) rfl ?_
      refine ze_lcmp (pc := 37) zr_190_37 ?_
      refine ze_if_gt (pc := 38) (t := 45) zr_190_38 (by decide) (fun hc => ?_) (fun hc => ?_)
      · rw [if_pos (show 0 < (z_lcmp (V2 141 12) 1000) from hc)] at j27
        refine ze_iconst (pc := 45) zr_190_45 (by decide) ?_
        exact j27
      · rw [if_neg (show ¬ (0 < (z_lcmp (V2 141 12) 1000)) from hc)] at j27
        refine ze_iconst (pc := 41) zr_190_41 (by decide) ?_
        refine ze_goto (pc := 42) (t := 46) zr_190_42 (by decide) ?_
        exact j27
    · rw [if_neg (show ¬ ((V2 141 11) = 2) from hc)] at j27
      refine ze_iconst (pc := 45) zr_190_45 (by decide) ?_
      exact j27
  · refine ze_aload_n (pc := 9) zr_190_9 rfl ?_
    refine ze_bipush (pc := 10) zr_190_10 (by decide) ?_
    refine zq_callV0 (pc := 12) (as := [.inr (.inr 141), .inl 31]) (r := []) (kc2 := 0) (ks2 := 0) zr_190_12 rfl (by decide) rfl rfl rfl rfl ⟨rfl, rfl⟩ rfl h (fun z4 V4 h => ?_)
    refine ze_iconst (pc := 15) zr_190_15 (by decide) ?_
    exact zq_ret1 (pc := 16) zr_190_16 rfl h
theorem zb191_141 {d : Nat} {Q : Int → z_M → Prop}  {V : z_M}
    (h : z_MS d 177 true [.inr (.inr 141), .inr (.inl 14836)] V (fun z1 V1 => zI (z1 = 0) (z_MS d 178 true [.inr (.inr 141), .inl 40] V1 (fun z2 V2 => zI (z2 = 0) (z_MS d 190 true [.inr (.inr 141)] V2 (fun z3 V3 => Q z3 V3)) (z_MS d 188 true [.inr (.inr 141), .inl 30] V2 (fun z4 V4 => Q 0 V4)))) (z_MS d 182 true [.inr (.inr 141), .inl 27, .inl 0] V1 (fun z5 V5 => z_MS d 176 true [.inr (.inr 141)] V5 (fun z6 V6 => Q 0 V6))))) :
    z_MS (d + 1) 191 true [.inr (.inr 141)] V Q := by
  show z_Ex (z_MS d) 191 Q true 0 [some (.inr (.inr 141))] [] 0 0 V
  refine ze_aload_n (pc := 0) zr_191_0 rfl ?_
  refine ze_ldc2 (pc := 1) (z := 14836) zr_191_1 (by decide) rfl ?_
  refine zq_callV1 (pc := 4) (as := [.inr (.inr 141), .inr (.inl 14836)]) (r := []) (kc2 := 0) (ks2 := 0) zr_191_4 rfl (by decide) rfl rfl rfl rfl ⟨rfl, rfl⟩ ⟨rfl, rfl, rfl⟩ h (fun z1 V1 h => ?_)
  refine zq_if_eq (pc := 7) (t := 23) zr_191_7 (by decide) (z_toif h) (fun h => ?_) (fun h => ?_)
  · refine ze_aload_n (pc := 23) zr_191_23 rfl ?_
    refine ze_bipush (pc := 24) zr_191_24 (by decide) ?_
    refine zq_callV1 (pc := 26) (as := [.inr (.inr 141), .inl 40]) (r := []) (kc2 := 0) (ks2 := 0) zr_191_26 rfl (by decide) rfl rfl rfl rfl ⟨rfl, rfl⟩ ⟨rfl, rfl, rfl⟩ h (fun z2 V2 h => ?_)
    refine zq_if_eq (pc := 29) (t := 40) zr_191_29 (by decide) (z_toif h) (fun h => ?_) (fun h => ?_)
    · refine ze_aload_n (pc := 40) zr_191_40 rfl ?_
      refine zq_callV1 (pc := 41) (as := [.inr (.inr 141)]) (r := []) (kc2 := 0) (ks2 := 0) zr_191_41 rfl (by decide) rfl rfl rfl rfl ⟨rfl, rfl⟩ ⟨rfl, rfl, rfl⟩ h (fun z3 V3 h => ?_)
      exact zq_ret1 (pc := 44) zr_191_44 rfl h
    · refine ze_aload_n (pc := 32) zr_191_32 rfl ?_
      refine ze_bipush (pc := 33) zr_191_33 (by decide) ?_
      refine zq_callV0 (pc := 35) (as := [.inr (.inr 141), .inl 30]) (r := []) (kc2 := 0) (ks2 := 0) zr_191_35 rfl (by decide) rfl rfl rfl rfl ⟨rfl, rfl⟩ rfl h (fun z4 V4 h => ?_)
      refine ze_iconst (pc := 38) zr_191_38 (by decide) ?_
      exact zq_ret1 (pc := 39) zr_191_39 rfl h
  · refine ze_aload_n (pc := 10) zr_191_10 rfl ?_
    refine ze_bipush (pc := 11) zr_191_11 (by decide) ?_
    refine ze_iconst (pc := 13) zr_191_13 (by decide) ?_
    refine zq_callV0 (pc := 14) (as := [.inr (.inr 141), .inl 27, .inl 0]) (r := []) (kc2 := 0) (ks2 := 0) zr_191_14 rfl (by decide) rfl rfl rfl rfl ⟨rfl, rfl⟩ rfl h (fun z5 V5 h => ?_)
    refine ze_aload_n (pc := 17) zr_191_17 rfl ?_
    refine zq_callV0 (pc := 18) (as := [.inr (.inr 141)]) (r := []) (kc2 := 0) (ks2 := 0) zr_191_18 rfl (by decide) rfl rfl rfl rfl ⟨rfl, rfl⟩ rfl h (fun z6 V6 h => ?_)
    refine ze_iconst (pc := 21) zr_191_21 (by decide) ?_
    exact zq_ret1 (pc := 22) zr_191_22 rfl h
theorem zb192_141 {d : Nat} {Q : Int → z_M → Prop} (a0 : Int) {V : z_M}
    (h : z_MS d 178 true [.inr (.inr 141), .inl 43] V (fun z1 V1 => zI (z1 = 0) (z_MS d 178 true [.inr (.inr 141), .inl 45] V1 (fun z2 V2 => zI (z2 = 0) (z_MS d 178 true [.inr (.inr 141), .inl 42] V2 (fun z3 V3 => zI (z3 = 0) (z_MS d 178 true [.inr (.inr 141), .inl 47] V3 (fun z4 V4 => z_Ex (z_MS d) 192 Q true 57 [some (.inr (.inr 141)), some (.inl a0), none, none] [.inl (if z4 = 0 then -1 else 23)] 0 0 V4)) (z_Ex (z_MS d) 192 Q true 57 [some (.inr (.inr 141)), some (.inl a0), none, none] [.inl 22] 0 0 V3))) (z_Ex (z_MS d) 192 Q true 57 [some (.inr (.inr 141)), some (.inl a0), none, none] [.inl 21] 0 0 V2))) (z_Ex (z_MS d) 192 Q true 57 [some (.inr (.inr 141)), some (.inl a0), none, none] [.inl 20] 0 0 V1))) :
    z_MS (d + 1) 192 true [.inr (.inr 141), .inl a0] V Q := by
  show z_Ex (z_MS d) 192 Q true 0 [some (.inr (.inr 141)), some (.inl a0), none, none] [] 0 0 V
  refine ze_aload_n (pc := 0) zr_192_0 rfl ?_
  refine ze_bipush (pc := 1) zr_192_1 (by decide) ?_
  refine zq_callV1 (pc := 3) (as := [.inr (.inr 141), .inl 43]) (r := []) (kc2 := 0) (ks2 := 0) zr_192_3 rfl (by decide) rfl rfl rfl rfl ⟨rfl, rfl⟩ ⟨rfl, rfl, rfl⟩ h (fun z1 V1 h => ?_)
  refine zq_if_eq (pc := 6) (t := 14) zr_192_6 (by decide) (z_toif h) (fun h => ?_) (fun h => ?_)
  · refine ze_aload_n (pc := 14) zr_192_14 rfl ?_
    refine ze_bipush (pc := 15) zr_192_15 (by decide) ?_
    refine zq_callV1 (pc := 17) (as := [.inr (.inr 141), .inl 45]) (r := []) (kc2 := 0) (ks2 := 0) zr_192_17 rfl (by decide) rfl rfl rfl rfl ⟨rfl, rfl⟩ ⟨rfl, rfl, rfl⟩ h (fun z2 V2 h => ?_)
    refine zq_if_eq (pc := 20) (t := 28) zr_192_20 (by decide) (z_toif h) (fun h => ?_) (fun h => ?_)
    · refine ze_aload_n (pc := 28) zr_192_28 rfl ?_
      refine ze_bipush (pc := 29) zr_192_29 (by decide) ?_
      refine zq_callV1 (pc := 31) (as := [.inr (.inr 141), .inl 42]) (r := []) (kc2 := 0) (ks2 := 0) zr_192_31 rfl (by decide) rfl rfl rfl rfl ⟨rfl, rfl⟩ ⟨rfl, rfl, rfl⟩ h (fun z3 V3 h => ?_)
      refine zq_if_eq (pc := 34) (t := 42) zr_192_34 (by decide) (z_toif h) (fun h => ?_) (fun h => ?_)
      · refine ze_aload_n (pc := 42) zr_192_42 rfl ?_
        refine ze_bipush (pc := 43) zr_192_43 (by decide) ?_
        refine zq_callV1 (pc := 45) (as := [.inr (.inr 141), .inl 47]) (r := []) (kc2 := 0) (ks2 := 0) zr_192_45 rfl (by decide) rfl rfl rfl rfl ⟨rfl, rfl⟩ ⟨rfl, rfl, rfl⟩ h (fun z4 V4 h => ?_)
        have j48 : z_Ex (z_MS d) 192 Q true 57 [some (.inr (.inr 141)), some (.inl a0), none, none] [.inl (if z4 = 0 then -1 else 23)] 0 0 V4 := by
          exact h
        refine ze_if_eq (pc := 48) (t := 56) zr_192_48 (by decide) (fun hc => ?_) (fun hc => ?_)
        · rw [if_pos (show z4 = 0 from hc)] at j48
          refine ze_iconst (pc := 56) zr_192_56 (by decide) ?_
          exact j48
        · rw [if_neg (show ¬ (z4 = 0) from hc)] at j48
          refine ze_bipush (pc := 51) zr_192_51 (by decide) ?_
          refine ze_goto (pc := 53) (t := 57) zr_192_53 (by decide) ?_
          exact j48
      · refine ze_bipush (pc := 37) zr_192_37 (by decide) ?_
        refine ze_goto (pc := 39) (t := 57) zr_192_39 (by decide) ?_
        exact h
    · refine ze_bipush (pc := 23) zr_192_23 (by decide) ?_
      refine ze_goto (pc := 25) (t := 57) zr_192_25 (by decide) ?_
      exact h
  · refine ze_bipush (pc := 9) zr_192_9 (by decide) ?_
    refine ze_goto (pc := 11) (t := 57) zr_192_11 (by decide) ?_
    exact h
theorem zb192_141_p57 {d : Nat} {Q : Int → z_M → Prop} (l1 : Int) (s0 : Int) {V : z_M}
    (h : zI (s0 = (-1)) (z_MS d 185 true [.inr (.inr 141)] V (fun z5801 V5801 => zI (z5801 = 31) (z_MS d 178 true [.inr (.inr 141), .inl 93] V5801 (fun z5802 V5802 => z_MS d 179 true [.inr (.inr 141), .inl z5802] V5802 (fun z5803 V5803 => zI ((V5803 141 14) = 0) (z_MS d 184 true [.inr (.inr 141), .inl 5] V5803 (fun z5804 V5804 => ∀ W5801, W5801 = z_up V5804 141 23 (z_sub (V5804 141 23) 1) → ∀ W5802, W5802 = z_up W5801 141 24 (z_sub (W5801 141 24) 1) → Q 3 W5802)) (Q 3 V5803)))) (zI (z5801 = (-1)) (zI (l1 = 0) (Q 4 V5801) (z_Ex (z_MS d) 192 Q true 149 [some (.inr (.inr 141)), some (.inl l1), some (.inl s0), some (.inl z5801)] [] 0 0 V5801)) (z_Ex (z_MS d) 192 Q true 149 [some (.inr (.inr 141)), some (.inl l1), some (.inl s0), some (.inl z5801)] [] 0 0 V5801)))) (z_MS d 183 true [.inl s0] V (fun z5805 V5805 => z_MS d 184 true [.inr (.inr 141), .inl z5805] V5805 (fun z5806 V5806 => z_MS d 182 true [.inr (.inr 141), .inl s0, .inl 0] V5806 (fun z5807 V5807 => z_MS d 176 true [.inr (.inr 141)] V5807 (fun z5808 V5808 => Q 1 V5808)))))) :
    z_Ex (z_MS d) 192 Q true 57 [some (.inr (.inr 141)), some (.inl l1), none, none] [.inl s0] 0 0 V := by
  refine zq_istore_n (pc := 57) (ls2 := [some (.inr (.inr 141)), some (.inl l1), some (.inl s0), none]) zr_192_57 rfl rfl ?_
  refine ze_iload_n (pc := 58) zr_192_58 rfl ?_
  refine ze_iconst (pc := 59) zr_192_59 (by decide) ?_
  refine zq_icmp_eq (pc := 60) (t := 83) zr_192_60 (by decide) (z_toif h) (fun h => ?_) (fun h => ?_)
  · refine ze_aload_n (pc := 83) zr_192_83 rfl ?_
    refine zq_callV1 (pc := 84) (as := [.inr (.inr 141)]) (r := []) (kc2 := 0) (ks2 := 0) zr_192_84 rfl (by decide) rfl rfl rfl rfl ⟨rfl, rfl⟩ ⟨rfl, rfl, rfl⟩ h (fun z5801 V5801 h => ?_)
    refine zq_istore_n (pc := 87) (ls2 := [some (.inr (.inr 141)), some (.inl l1), some (.inl s0), some (.inl z5801)]) zr_192_87 rfl rfl ?_
    refine ze_iload_n (pc := 88) zr_192_88 rfl ?_
    refine ze_bipush (pc := 89) zr_192_89 (by decide) ?_
    refine zq_icmp_ne (pc := 91) (t := 138) zr_192_91 (by decide) (z_toif h) (fun h => ?_) (fun h => ?_)
    · refine ze_aload_n (pc := 94) zr_192_94 rfl ?_
      refine ze_aload_n (pc := 95) zr_192_95 rfl ?_
      refine ze_bipush (pc := 96) zr_192_96 (by decide) ?_
      refine zq_callV1 (pc := 98) (as := [.inr (.inr 141), .inl 93]) (r := [.inr (.inr 141)]) (kc2 := 0) (ks2 := 0) zr_192_98 rfl (by decide) rfl rfl rfl rfl ⟨rfl, rfl⟩ ⟨rfl, rfl, rfl⟩ h (fun z5802 V5802 h => ?_)
      refine zq_callV0 (pc := 101) (as := [.inr (.inr 141), .inl z5802]) (r := []) (kc2 := 0) (ks2 := 0) zr_192_101 rfl (by decide) rfl rfl rfl rfl ⟨rfl, rfl⟩ rfl h (fun z5803 V5803 h => ?_)
      refine ze_aload_n (pc := 104) zr_192_104 rfl ?_
      refine ze_getfield (pc := 105) (v := .inl (V5803 141 14)) zr_192_105 rfl rfl ?_
      refine zq_if_ne (pc := 108) (t := 136) zr_192_108 (by decide) (z_toif h) (fun h => ?_) (fun h => ?_)
      · refine ze_aload_n (pc := 111) zr_192_111 rfl ?_
        refine ze_iconst (pc := 112) zr_192_112 (by decide) ?_
        refine zq_callV0 (pc := 113) (as := [.inr (.inr 141), .inl 5]) (r := []) (kc2 := 0) (ks2 := 0) zr_192_113 rfl (by decide) rfl rfl rfl rfl ⟨rfl, rfl⟩ rfl h (fun z5804 V5804 h => ?_)
        refine ze_aload_n (pc := 116) zr_192_116 rfl ?_
        refine ze_dup (pc := 117) zr_192_117 rfl ?_
        refine ze_getfield (pc := 118) (v := .inl (V5804 141 23)) zr_192_118 rfl rfl ?_
        refine ze_iconst (pc := 121) zr_192_121 (by decide) ?_
        refine ze_isub (pc := 122) zr_192_122 ?_
        refine zq_putI (pc := 123) zr_192_123 (by decide) rfl h (fun W5801 h => ?_)
        refine ze_aload_n (pc := 126) zr_192_126 rfl ?_
        refine ze_dup (pc := 127) zr_192_127 rfl ?_
        refine ze_getfield (pc := 128) (v := .inl (W5801 141 24)) zr_192_128 rfl rfl ?_
        refine ze_iconst (pc := 131) zr_192_131 (by decide) ?_
        refine ze_isub (pc := 132) zr_192_132 ?_
        refine zq_putI (pc := 133) zr_192_133 (by decide) rfl h (fun W5802 h => ?_)
        refine ze_iconst (pc := 136) zr_192_136 (by decide) ?_
        exact zq_ret1 (pc := 137) zr_192_137 rfl h
      · refine ze_iconst (pc := 136) zr_192_136 (by decide) ?_
        exact zq_ret1 (pc := 137) zr_192_137 rfl h
    · refine ze_iload_n (pc := 138) zr_192_138 rfl ?_
      refine ze_iconst (pc := 139) zr_192_139 (by decide) ?_
      refine zq_icmp_ne (pc := 140) (t := 149) zr_192_140 (by decide) (z_toif h) (fun h => ?_) (fun h => ?_)
      · refine ze_iload_n (pc := 143) zr_192_143 rfl ?_
        refine zq_if_ne (pc := 144) (t := 149) zr_192_144 (by decide) (z_toif h) (fun h => ?_) (fun h => ?_)
        · refine ze_iconst (pc := 147) zr_192_147 (by decide) ?_
          exact zq_ret1 (pc := 148) zr_192_148 rfl h
        · exact h
      · exact h
  · refine ze_aload_n (pc := 63) zr_192_63 rfl ?_
    refine ze_iload_n (pc := 64) zr_192_64 rfl ?_
    refine zq_callS1 (pc := 65) (as := [.inl s0]) (r := [.inr (.inr 141)]) (kc2 := 0) (ks2 := 0) zr_192_65 rfl rfl rfl rfl ⟨rfl, rfl⟩ ⟨rfl, rfl, rfl⟩ h (fun z5805 V5805 h => ?_)
    refine zq_callV0 (pc := 68) (as := [.inr (.inr 141), .inl z5805]) (r := []) (kc2 := 0) (ks2 := 0) zr_192_68 rfl (by decide) rfl rfl rfl rfl ⟨rfl, rfl⟩ rfl h (fun z5806 V5806 h => ?_)
    refine ze_aload_n (pc := 71) zr_192_71 rfl ?_
    refine ze_iload_n (pc := 72) zr_192_72 rfl ?_
    refine ze_iconst (pc := 73) zr_192_73 (by decide) ?_
    refine zq_callV0 (pc := 74) (as := [.inr (.inr 141), .inl s0, .inl 0]) (r := []) (kc2 := 0) (ks2 := 0) zr_192_74 rfl (by decide) rfl rfl rfl rfl ⟨rfl, rfl⟩ rfl h (fun z5807 V5807 h => ?_)
    refine ze_aload_n (pc := 77) zr_192_77 rfl ?_
    refine zq_callV0 (pc := 78) (as := [.inr (.inr 141)]) (r := []) (kc2 := 0) (ks2 := 0) zr_192_78 rfl (by decide) rfl rfl rfl rfl ⟨rfl, rfl⟩ rfl h (fun z5808 V5808 h => ?_)
    refine ze_iconst (pc := 81) zr_192_81 (by decide) ?_
    exact zq_ret1 (pc := 82) zr_192_82 rfl h
theorem zb192_141_p149 {d : Nat} {Q : Int → z_M → Prop} (o1 : Option z_V) (o2 : Option z_V) (o3 : Option z_V) {V : z_M}
    (h : z_MS d 186 true [.inr (.inr 141)] V (fun z15001 V15001 => zI (z15001 = 0) (z_MS d 178 true [.inr (.inr 141), .inl 60] V15001 (fun z15002 V15002 => zI (z15002 = 0) (z_MS d 178 true [.inr (.inr 141), .inl 62] V15002 (fun z15003 V15003 => z_Ex (z_MS d) 192 Q true 188 [some (.inr (.inr 141)), o1, o2, o3] [.inl (if z15003 = 0 then 26 else 25)] 0 0 V15003)) (z_Ex (z_MS d) 192 Q true 188 [some (.inr (.inr 141)), o1, o2, o3] [.inl 24] 0 0 V15002))) (Q 2 V15001))) :
    z_Ex (z_MS d) 192 Q true 149 [some (.inr (.inr 141)), o1, o2, o3] [] 0 0 V := by
  refine ze_aload_n (pc := 149) zr_192_149 rfl ?_
  refine zq_callV1 (pc := 150) (as := [.inr (.inr 141)]) (r := []) (kc2 := 0) (ks2 := 0) zr_192_150 rfl (by decide) rfl rfl rfl rfl ⟨rfl, rfl⟩ ⟨rfl, rfl, rfl⟩ h (fun z15001 V15001 h => ?_)
  refine zq_if_eq (pc := 153) (t := 158) zr_192_153 (by decide) (z_toif h) (fun h => ?_) (fun h => ?_)
  · refine ze_aload_n (pc := 158) zr_192_158 rfl ?_
    refine ze_bipush (pc := 159) zr_192_159 (by decide) ?_
    refine zq_callV1 (pc := 161) (as := [.inr (.inr 141), .inl 60]) (r := []) (kc2 := 0) (ks2 := 0) zr_192_161 rfl (by decide) rfl rfl rfl rfl ⟨rfl, rfl⟩ ⟨rfl, rfl, rfl⟩ h (fun z15002 V15002 h => ?_)
    refine zq_if_eq (pc := 164) (t := 172) zr_192_164 (by decide) (z_toif h) (fun h => ?_) (fun h => ?_)
    · refine ze_aload_n (pc := 172) zr_192_172 rfl ?_
      refine ze_bipush (pc := 173) zr_192_173 (by decide) ?_
      refine zq_callV1 (pc := 175) (as := [.inr (.inr 141), .inl 62]) (r := []) (kc2 := 0) (ks2 := 0) zr_192_175 rfl (by decide) rfl rfl rfl rfl ⟨rfl, rfl⟩ ⟨rfl, rfl, rfl⟩ h (fun z15003 V15003 h => ?_)
      have j178 : z_Ex (z_MS d) 192 Q true 188 [some (.inr (.inr 141)), o1, o2, o3] [.inl (if z15003 = 0 then 26 else 25)] 0 0 V15003 := by
        exact h
      refine ze_if_eq (pc := 178) (t := 186) zr_192_178 (by decide) (fun hc => ?_) (fun hc => ?_)
      · rw [if_pos (show z15003 = 0 from hc)] at j178
        refine ze_bipush (pc := 186) zr_192_186 (by decide) ?_
        exact j178
      · rw [if_neg (show ¬ (z15003 = 0) from hc)] at j178
        refine ze_bipush (pc := 181) zr_192_181 (by decide) ?_
        refine ze_goto (pc := 183) (t := 188) zr_192_183 (by decide) ?_
        exact j178
    · refine ze_bipush (pc := 167) zr_192_167 (by decide) ?_
      refine ze_goto (pc := 169) (t := 188) zr_192_169 (by decide) ?_
      exact h
  · refine ze_iconst (pc := 156) zr_192_156 (by decide) ?_
    exact zq_ret1 (pc := 157) zr_192_157 rfl h
theorem zb192_141_p188 {d : Nat} {Q : Int → z_M → Prop} (o1 : Option z_V) (o2 : Option z_V) (o3 : Option z_V) (s0 : Int) {V : z_M}
    (h : zI (s0 = 26) (z_MS d 178 true [.inr (.inr 141), .inl 61] V (fun z18904 V18904 => z_MS d 179 true [.inr (.inr 141), .inl (if z18904 = 0 then 0 else 1)] V18904 (fun z18905 V18905 => zI ((V18905 141 14) = 0) (z_MS d 184 true [.inr (.inr 141), .inl 5] V18905 (fun z18906 V18906 => z_MS d 182 true [.inr (.inr 141), .inl s0, .inl 0] V18906 (fun z18907 V18907 => Q 1 V18907))) (Q 1 V18905)))) (z_MS d 179 true [.inr (.inr 141), .inl 1] V (fun z18901 V18901 => zI ((V18901 141 14) = 0) (z_MS d 184 true [.inr (.inr 141), .inl 5] V18901 (fun z18902 V18902 => z_MS d 182 true [.inr (.inr 141), .inl s0, .inl 0] V18902 (fun z18903 V18903 => Q 1 V18903))) (Q 1 V18901)))) :
    z_Ex (z_MS d) 192 Q true 188 [some (.inr (.inr 141)), o1, o2, o3] [.inl s0] 0 0 V := by
  refine zq_istore_n (pc := 188) (ls2 := [some (.inr (.inr 141)), (cond (z_o2 o1) none o1), some (.inl s0), o3]) zr_192_188 rfl rfl ?_
  refine ze_aload_n (pc := 189) zr_192_189 rfl ?_
  refine ze_iload_n (pc := 190) zr_192_190 rfl ?_
  refine ze_bipush (pc := 191) zr_192_191 (by decide) ?_
  refine zq_icmp_ne (pc := 193) (t := 205) zr_192_193 (by decide) (z_toif h) (fun h => ?_) (fun h => ?_)
  · refine ze_aload_n (pc := 196) zr_192_196 rfl ?_
    refine ze_bipush (pc := 197) zr_192_197 (by decide) ?_
    refine zq_callV1 (pc := 199) (as := [.inr (.inr 141), .inl 61]) (r := [.inr (.inr 141)]) (kc2 := 0) (ks2 := 0) zr_192_199 rfl (by decide) rfl rfl rfl rfl ⟨rfl, rfl⟩ ⟨rfl, rfl, rfl⟩ h (fun z18904 V18904 h => ?_)
    have j202 : z_Ex (z_MS d) 192 Q true 210 [some (.inr (.inr 141)), (cond (z_o2 o1) none o1), some (.inl s0), o3] [.inl (if z18904 = 0 then 0 else 1), .inr (.inr 141)] 0 0 V18904 := by
      refine zq_callV0 (pc := 210) (as := [.inr (.inr 141), .inl (if z18904 = 0 then 0 else 1)]) (r := []) (kc2 := 0) (ks2 := 0) zr_192_210 rfl (by decide) rfl rfl rfl rfl ⟨rfl, rfl⟩ rfl h (fun z18905 V18905 h => ?_)
      refine ze_aload_n (pc := 213) zr_192_213 rfl ?_
      refine ze_getfield (pc := 214) (v := .inl (V18905 141 14)) zr_192_214 rfl rfl ?_
      refine zq_if_ne (pc := 217) (t := 231) zr_192_217 (by decide) (z_toif h) (fun h => ?_) (fun h => ?_)
      · refine ze_aload_n (pc := 220) zr_192_220 rfl ?_
        refine ze_iconst (pc := 221) zr_192_221 (by decide) ?_
        refine zq_callV0 (pc := 222) (as := [.inr (.inr 141), .inl 5]) (r := []) (kc2 := 0) (ks2 := 0) zr_192_222 rfl (by decide) rfl rfl rfl rfl ⟨rfl, rfl⟩ rfl h (fun z18906 V18906 h => ?_)
        refine ze_aload_n (pc := 225) zr_192_225 rfl ?_
        refine ze_iload_n (pc := 226) zr_192_226 rfl ?_
        refine ze_iconst (pc := 227) zr_192_227 (by decide) ?_
        refine zq_callV0 (pc := 228) (as := [.inr (.inr 141), .inl s0, .inl 0]) (r := []) (kc2 := 0) (ks2 := 0) zr_192_228 rfl (by decide) rfl rfl rfl rfl ⟨rfl, rfl⟩ rfl h (fun z18907 V18907 h => ?_)
        refine ze_iconst (pc := 231) zr_192_231 (by decide) ?_
        exact zq_ret1 (pc := 232) zr_192_232 rfl h
      · refine ze_iconst (pc := 231) zr_192_231 (by decide) ?_
        exact zq_ret1 (pc := 232) zr_192_232 rfl h
    refine ze_if_eq (pc := 202) (t := 209) zr_192_202 (by decide) (fun hc => ?_) (fun hc => ?_)
    · rw [if_pos (show z18904 = 0 from hc)] at j202
      refine ze_iconst (pc := 209) zr_192_209 (by decide) ?_
      exact j202
    · rw [if_neg (show ¬ (z18904 = 0) from hc)] at j202
      refine ze_iconst (pc := 205) zr_192_205 (by decide) ?_
      refine ze_goto (pc := 206) (t := 210) zr_192_206 (by decide) ?_
      exact j202
  · refine ze_iconst (pc := 205) zr_192_205 (by decide) ?_
    refine ze_goto (pc := 206) (t := 210) zr_192_206 (by decide) ?_
    refine zq_callV0 (pc := 210) (as := [.inr (.inr 141), .inl 1]) (r := []) (kc2 := 0) (ks2 := 0) zr_192_210 rfl (by decide) rfl rfl rfl rfl ⟨rfl, rfl⟩ rfl h (fun z18901 V18901 h => ?_)
    refine ze_aload_n (pc := 213) zr_192_213 rfl ?_
    refine ze_getfield (pc := 214) (v := .inl (V18901 141 14)) zr_192_214 rfl rfl ?_
    refine zq_if_ne (pc := 217) (t := 231) zr_192_217 (by decide) (z_toif h) (fun h => ?_) (fun h => ?_)
    · refine ze_aload_n (pc := 220) zr_192_220 rfl ?_
      refine ze_iconst (pc := 221) zr_192_221 (by decide) ?_
      refine zq_callV0 (pc := 222) (as := [.inr (.inr 141), .inl 5]) (r := []) (kc2 := 0) (ks2 := 0) zr_192_222 rfl (by decide) rfl rfl rfl rfl ⟨rfl, rfl⟩ rfl h (fun z18902 V18902 h => ?_)
      refine ze_aload_n (pc := 225) zr_192_225 rfl ?_
      refine ze_iload_n (pc := 226) zr_192_226 rfl ?_
      refine ze_iconst (pc := 227) zr_192_227 (by decide) ?_
      refine zq_callV0 (pc := 228) (as := [.inr (.inr 141), .inl s0, .inl 0]) (r := []) (kc2 := 0) (ks2 := 0) zr_192_228 rfl (by decide) rfl rfl rfl rfl ⟨rfl, rfl⟩ rfl h (fun z18903 V18903 h => ?_)
      refine ze_iconst (pc := 231) zr_192_231 (by decide) ?_
      exact zq_ret1 (pc := 232) zr_192_232 rfl h
    · refine ze_iconst (pc := 231) zr_192_231 (by decide) ?_
      exact zq_ret1 (pc := 232) zr_192_232 rfl h
theorem zb193_141 {d : Nat} {Q : Int → z_M → Prop}  {V : z_M}
    (h : z_MS d 177 true [.inr (.inr 141), .inr (.inl 1476)] V (fun z1 V1 => zI (z1 = 0) (z_MS d 177 true [.inr (.inr 141), .inr (.inl 498)] V1 (fun z6 V6 => zI (z6 = 0) (z_MS d 185 true [.inr (.inr 141)] V6 (fun z7 V7 => zI (z7 = (-1)) (Q 4 V7) (z_MS d 178 true [.inr (.inr 141), .inl 41] V7 (fun z8 V8 => z_MS d 179 true [.inr (.inr 141), .inl z8] V8 (fun z9 V9 => zI ((V9 141 14) = 0) (z_MS d 184 true [.inr (.inr 141), .inl 1] V9 (fun z10 V10 => ∀ W1, W1 = z_up V10 141 23 (z_sub (V10 141 23) 1) → ∀ W2, W2 = z_up W1 141 24 (z_sub (W1 141 24) 1) → Q 2 W2)) (Q 2 V9)))))) (z_MS d 184 true [.inr (.inr 141), .inl (if z1 = 0 then 1 else 2)] V6 (fun z11 V11 => z_MS d 182 true [.inr (.inr 141), .inl (if z1 = 0 then 29 else 28), .inl (V11 141 17)] V11 (fun z12 V12 => z_MS d 181 true [.inr (.inr 141), .inl (if z1 = 0 then 29 else 28), .inl 0] V12 (fun z13 V13 => z_MS d 176 true [.inr (.inr 141)] V13 (fun z14 V14 => Q 0 V14))))))) (z_MS d 184 true [.inr (.inr 141), .inl (if z1 = 0 then 1 else 2)] V1 (fun z2 V2 => z_MS d 182 true [.inr (.inr 141), .inl (if z1 = 0 then 29 else 28), .inl (V2 141 17)] V2 (fun z3 V3 => z_MS d 181 true [.inr (.inr 141), .inl (if z1 = 0 then 29 else 28), .inl 0] V3 (fun z4 V4 => z_MS d 176 true [.inr (.inr 141)] V4 (fun z5 V5 => Q 0 V5))))))) :
    z_MS (d + 1) 193 true [.inr (.inr 141)] V Q := by
  show z_Ex (z_MS d) 193 Q true 0 [some (.inr (.inr 141)), none] [] 0 0 V
  refine ze_aload_n (pc := 0) zr_193_0 rfl ?_
  refine ze_ldc2 (pc := 1) (z := 1476) zr_193_1 (by decide) rfl ?_
  refine zq_callV1 (pc := 4) (as := [.inr (.inr 141), .inr (.inl 1476)]) (r := []) (kc2 := 0) (ks2 := 0) zr_193_4 rfl (by decide) rfl rfl rfl rfl ⟨rfl, rfl⟩ ⟨rfl, rfl, rfl⟩ h (fun z1 V1 h => ?_)
  refine zq_istore_n (pc := 7) (ls2 := [some (.inr (.inr 141)), some (.inl z1)]) zr_193_7 rfl rfl ?_
  refine ze_iload_n (pc := 8) zr_193_8 rfl ?_
  refine zq_if_ne (pc := 9) (t := 22) zr_193_9 (by decide) (z_toif h) (fun h => ?_) (fun h => ?_)
  · refine ze_aload_n (pc := 12) zr_193_12 rfl ?_
    refine ze_ldc2 (pc := 13) (z := 498) zr_193_13 (by decide) rfl ?_
    refine zq_callV1 (pc := 16) (as := [.inr (.inr 141), .inr (.inl 498)]) (r := []) (kc2 := 0) (ks2 := 0) zr_193_16 rfl (by decide) rfl rfl rfl rfl ⟨rfl, rfl⟩ ⟨rfl, rfl, rfl⟩ h (fun z6 V6 h => ?_)
    refine zq_if_eq (pc := 19) (t := 76) zr_193_19 (by decide) (z_toif h) (fun h => ?_) (fun h => ?_)
    · refine ze_aload_n (pc := 76) zr_193_76 rfl ?_
      refine zq_callV1 (pc := 77) (as := [.inr (.inr 141)]) (r := []) (kc2 := 0) (ks2 := 0) zr_193_77 rfl (by decide) rfl rfl rfl rfl ⟨rfl, rfl⟩ ⟨rfl, rfl, rfl⟩ h (fun z7 V7 h => ?_)
      refine ze_iconst (pc := 80) zr_193_80 (by decide) ?_
      refine zq_icmp_ne (pc := 81) (t := 86) zr_193_81 (by decide) (z_toif h) (fun h => ?_) (fun h => ?_)
      · refine ze_iconst (pc := 84) zr_193_84 (by decide) ?_
        exact zq_ret1 (pc := 85) zr_193_85 rfl h
      · refine ze_aload_n (pc := 86) zr_193_86 rfl ?_
        refine ze_aload_n (pc := 87) zr_193_87 rfl ?_
        refine ze_bipush (pc := 88) zr_193_88 (by decide) ?_
        refine zq_callV1 (pc := 90) (as := [.inr (.inr 141), .inl 41]) (r := [.inr (.inr 141)]) (kc2 := 0) (ks2 := 0) zr_193_90 rfl (by decide) rfl rfl rfl rfl ⟨rfl, rfl⟩ ⟨rfl, rfl, rfl⟩ h (fun z8 V8 h => ?_)
        refine zq_callV0 (pc := 93) (as := [.inr (.inr 141), .inl z8]) (r := []) (kc2 := 0) (ks2 := 0) zr_193_93 rfl (by decide) rfl rfl rfl rfl ⟨rfl, rfl⟩ rfl h (fun z9 V9 h => ?_)
        refine ze_aload_n (pc := 96) zr_193_96 rfl ?_
        refine ze_getfield (pc := 97) (v := .inl (V9 141 14)) zr_193_97 rfl rfl ?_
        refine zq_if_ne (pc := 100) (t := 128) zr_193_100 (by decide) (z_toif h) (fun h => ?_) (fun h => ?_)
        · refine ze_aload_n (pc := 103) zr_193_103 rfl ?_
          refine ze_iconst (pc := 104) zr_193_104 (by decide) ?_
          refine zq_callV0 (pc := 105) (as := [.inr (.inr 141), .inl 1]) (r := []) (kc2 := 0) (ks2 := 0) zr_193_105 rfl (by decide) rfl rfl rfl rfl ⟨rfl, rfl⟩ rfl h (fun z10 V10 h => ?_)
          refine ze_aload_n (pc := 108) zr_193_108 rfl ?_
          refine ze_dup (pc := 109) zr_193_109 rfl ?_
          refine ze_getfield (pc := 110) (v := .inl (V10 141 23)) zr_193_110 rfl rfl ?_
          refine ze_iconst (pc := 113) zr_193_113 (by decide) ?_
          refine ze_isub (pc := 114) zr_193_114 ?_
          refine zq_putI (pc := 115) zr_193_115 (by decide) rfl h (fun W1 h => ?_)
          refine ze_aload_n (pc := 118) zr_193_118 rfl ?_
          refine ze_dup (pc := 119) zr_193_119 rfl ?_
          refine ze_getfield (pc := 120) (v := .inl (W1 141 24)) zr_193_120 rfl rfl ?_
          refine ze_iconst (pc := 123) zr_193_123 (by decide) ?_
          refine ze_isub (pc := 124) zr_193_124 ?_
          refine zq_putI (pc := 125) zr_193_125 (by decide) rfl h (fun W2 h => ?_)
          refine ze_iconst (pc := 128) zr_193_128 (by decide) ?_
          exact zq_ret1 (pc := 129) zr_193_129 rfl h
        · refine ze_iconst (pc := 128) zr_193_128 (by decide) ?_
          exact zq_ret1 (pc := 129) zr_193_129 rfl h
    · refine ze_aload_n (pc := 22) zr_193_22 rfl ?_
      refine ze_iload_n (pc := 23) zr_193_23 rfl ?_
      have j24 : z_Ex (z_MS d) 193 Q true 32 [some (.inr (.inr 141)), some (.inl z1)] [.inl (if z1 = 0 then 1 else 2), .inr (.inr 141)] 0 0 V6 := by
        refine zq_callV0 (pc := 32) (as := [.inr (.inr 141), .inl (if z1 = 0 then 1 else 2)]) (r := []) (kc2 := 0) (ks2 := 0) zr_193_32 rfl (by decide) rfl rfl rfl rfl ⟨rfl, rfl⟩ rfl h (fun z11 V11 h => ?_)
        refine ze_aload_n (pc := 35) zr_193_35 rfl ?_
        refine ze_iload_n (pc := 36) zr_193_36 rfl ?_
        have j37 : z_Ex (z_MS d) 193 Q true 47 [some (.inr (.inr 141)), some (.inl z1)] [.inl (if z1 = 0 then 29 else 28), .inr (.inr 141)] 0 0 V11 := by
          refine ze_aload_n (pc := 47) zr_193_47 rfl ?_
          refine ze_getfield (pc := 48) (v := .inl (V11 141 17)) zr_193_48 rfl rfl ?_
          refine zq_callV0 (pc := 51) (as := [.inr (.inr 141), .inl (if z1 = 0 then 29 else 28), .inl (V11 141 17)]) (r := []) (kc2 := 0) (ks2 := 0) zr_193_51 rfl (by decide) rfl rfl rfl rfl ⟨rfl, rfl⟩ rfl h (fun z12 V12 h => ?_)
          refine ze_aload_n (pc := 54) zr_193_54 rfl ?_
          refine ze_iload_n (pc := 55) zr_193_55 rfl ?_
          have j56 : z_Ex (z_MS d) 193 Q true 66 [some (.inr (.inr 141)), some (.inl z1)] [.inl (if z1 = 0 then 29 else 28), .inr (.inr 141)] 0 0 V12 := by
            refine ze_iconst (pc := 66) zr_193_66 (by decide) ?_
            refine zq_callV0 (pc := 67) (as := [.inr (.inr 141), .inl (if z1 = 0 then 29 else 28), .inl 0]) (r := []) (kc2 := 0) (ks2 := 0) zr_193_67 rfl (by decide) rfl rfl rfl rfl ⟨rfl, rfl⟩ rfl h (fun z13 V13 h => ?_)
            refine ze_aload_n (pc := 70) zr_193_70 rfl ?_
            refine zq_callV0 (pc := 71) (as := [.inr (.inr 141)]) (r := []) (kc2 := 0) (ks2 := 0) zr_193_71 rfl (by decide) rfl rfl rfl rfl ⟨rfl, rfl⟩ rfl h (fun z14 V14 h => ?_)
            refine ze_iconst (pc := 74) zr_193_74 (by decide) ?_
            exact zq_ret1 (pc := 75) zr_193_75 rfl h
          refine ze_if_eq (pc := 56) (t := 64) zr_193_56 (by decide) (fun hc => ?_) (fun hc => ?_)
          · rw [if_pos (show z1 = 0 from hc)] at j56
            refine ze_bipush (pc := 64) zr_193_64 (by decide) ?_
            exact j56
          · rw [if_neg (show ¬ (z1 = 0) from hc)] at j56
            refine ze_bipush (pc := 59) zr_193_59 (by decide) ?_
            refine ze_goto (pc := 61) (t := 66) zr_193_61 (by decide) ?_
            exact j56
        refine ze_if_eq (pc := 37) (t := 45) zr_193_37 (by decide) (fun hc => ?_) (fun hc => ?_)
        · rw [if_pos (show z1 = 0 from hc)] at j37
          refine ze_bipush (pc := 45) zr_193_45 (by decide) ?_
          exact j37
        · rw [if_neg (show ¬ (z1 = 0) from hc)] at j37
          refine ze_bipush (pc := 40) zr_193_40 (by decide) ?_
          refine ze_goto (pc := 42) (t := 47) zr_193_42 (by decide) ?_
          exact j37
      refine ze_if_eq (pc := 24) (t := 31) zr_193_24 (by decide) (fun hc => ?_) (fun hc => ?_)
      · rw [if_pos (show z1 = 0 from hc)] at j24
        refine ze_iconst (pc := 31) zr_193_31 (by decide) ?_
        exact j24
      · rw [if_neg (show ¬ (z1 = 0) from hc)] at j24
        refine ze_iconst (pc := 27) zr_193_27 (by decide) ?_
        refine ze_goto (pc := 28) (t := 32) zr_193_28 (by decide) ?_
        exact j24
  · refine ze_aload_n (pc := 22) zr_193_22 rfl ?_
    refine ze_iload_n (pc := 23) zr_193_23 rfl ?_
    have j24 : z_Ex (z_MS d) 193 Q true 32 [some (.inr (.inr 141)), some (.inl z1)] [.inl (if z1 = 0 then 1 else 2), .inr (.inr 141)] 0 0 V1 := by
      refine zq_callV0 (pc := 32) (as := [.inr (.inr 141), .inl (if z1 = 0 then 1 else 2)]) (r := []) (kc2 := 0) (ks2 := 0) zr_193_32 rfl (by decide) rfl rfl rfl rfl ⟨rfl, rfl⟩ rfl h (fun z2 V2 h => ?_)
      refine ze_aload_n (pc := 35) zr_193_35 rfl ?_
      refine ze_iload_n (pc := 36) zr_193_36 rfl ?_
      have j37 : z_Ex (z_MS d) 193 Q true 47 [some (.inr (.inr 141)), some (.inl z1)] [.inl (if z1 = 0 then 29 else 28), .inr (.inr 141)] 0 0 V2 := by
        refine ze_aload_n (pc := 47) zr_193_47 rfl ?_
        refine ze_getfield (pc := 48) (v := .inl (V2 141 17)) zr_193_48 rfl rfl ?_
        refine zq_callV0 (pc := 51) (as := [.inr (.inr 141), .inl (if z1 = 0 then 29 else 28), .inl (V2 141 17)]) (r := []) (kc2 := 0) (ks2 := 0) zr_193_51 rfl (by decide) rfl rfl rfl rfl ⟨rfl, rfl⟩ rfl h (fun z3 V3 h => ?_)
        refine ze_aload_n (pc := 54) zr_193_54 rfl ?_
        refine ze_iload_n (pc := 55) zr_193_55 rfl ?_
        have j56 : z_Ex (z_MS d) 193 Q true 66 [some (.inr (.inr 141)), some (.inl z1)] [.inl (if z1 = 0 then 29 else 28), .inr (.inr 141)] 0 0 V3 := by
          refine ze_iconst (pc := 66) zr_193_66 (by decide) ?_
          refine zq_callV0 (pc := 67) (as := [.inr (.inr 141), .inl (if z1 = 0 then 29 else 28), .inl 0]) (r := []) (kc2 := 0) (ks2 := 0) zr_193_67 rfl (by decide) rfl rfl rfl rfl ⟨rfl, rfl⟩ rfl h (fun z4 V4 h => ?_)
          refine ze_aload_n (pc := 70) zr_193_70 rfl ?_
          refine zq_callV0 (pc := 71) (as := [.inr (.inr 141)]) (r := []) (kc2 := 0) (ks2 := 0) zr_193_71 rfl (by decide) rfl rfl rfl rfl ⟨rfl, rfl⟩ rfl h (fun z5 V5 h => ?_)
          refine ze_iconst (pc := 74) zr_193_74 (by decide) ?_
          exact zq_ret1 (pc := 75) zr_193_75 rfl h
        refine ze_if_eq (pc := 56) (t := 64) zr_193_56 (by decide) (fun hc => ?_) (fun hc => ?_)
        · rw [if_pos (show z1 = 0 from hc)] at j56
          refine ze_bipush (pc := 64) zr_193_64 (by decide) ?_
          exact j56
        · rw [if_neg (show ¬ (z1 = 0) from hc)] at j56
          refine ze_bipush (pc := 59) zr_193_59 (by decide) ?_
          refine ze_goto (pc := 61) (t := 66) zr_193_61 (by decide) ?_
          exact j56
      refine ze_if_eq (pc := 37) (t := 45) zr_193_37 (by decide) (fun hc => ?_) (fun hc => ?_)
      · rw [if_pos (show z1 = 0 from hc)] at j37
        refine ze_bipush (pc := 45) zr_193_45 (by decide) ?_
        exact j37
      · rw [if_neg (show ¬ (z1 = 0) from hc)] at j37
        refine ze_bipush (pc := 40) zr_193_40 (by decide) ?_
        refine ze_goto (pc := 42) (t := 47) zr_193_42 (by decide) ?_
        exact j37
    refine ze_if_eq (pc := 24) (t := 31) zr_193_24 (by decide) (fun hc => ?_) (fun hc => ?_)
    · rw [if_pos (show z1 = 0 from hc)] at j24
      refine ze_iconst (pc := 31) zr_193_31 (by decide) ?_
      exact j24
    · rw [if_neg (show ¬ (z1 = 0) from hc)] at j24
      refine ze_iconst (pc := 27) zr_193_27 (by decide) ?_
      refine ze_goto (pc := 28) (t := 32) zr_193_28 (by decide) ?_
      exact j24
theorem zb194_141 {d : Nat} {Q : Int → z_M → Prop} (a0 : Int) {V : z_M}
    (h : ∀ W1, W1 = z_up V 141 23 0 → ∀ W2, W2 = z_up W1 141 24 0 → z_Ex (z_MS d) 194 Q true 20 [some (.inr (.inr 141)), some (.inl a0), some (.inl (if a0 = 0 then 1 else 0))] [] 0 0 W2) :
    z_MS (d + 1) 194 true [.inr (.inr 141), .inl a0] V Q := by
  show z_Ex (z_MS d) 194 Q true 0 [some (.inr (.inr 141)), some (.inl a0), none] [] 0 0 V
  refine ze_aload_n (pc := 0) zr_194_0 rfl ?_
  refine ze_iconst (pc := 1) zr_194_1 (by decide) ?_
  refine zq_putI (pc := 2) zr_194_2 (by decide) rfl h (fun W1 h => ?_)
  refine ze_aload_n (pc := 5) zr_194_5 rfl ?_
  refine ze_iconst (pc := 6) zr_194_6 (by decide) ?_
  refine zq_putI (pc := 7) zr_194_7 (by decide) rfl h (fun W2 h => ?_)
  refine ze_iload_n (pc := 10) zr_194_10 rfl ?_
  have j11 : z_Ex (z_MS d) 194 Q true 19 [some (.inr (.inr 141)), some (.inl a0), none] [.inl (if a0 = 0 then 1 else 0)] 0 0 W2 := by
    refine zq_istore_n (pc := 19) (ls2 := [some (.inr (.inr 141)), some (.inl a0), some (.inl (if a0 = 0 then 1 else 0))]) zr_194_19 rfl rfl ?_
    exact h
  refine ze_if_eq (pc := 11) (t := 18) zr_194_11 (by decide) (fun hc => ?_) (fun hc => ?_)
  · rw [if_pos (show a0 = 0 from hc)] at j11
    refine ze_iconst (pc := 18) zr_194_18 (by decide) ?_
    exact j11
  · rw [if_neg (show ¬ (a0 = 0) from hc)] at j11
    refine ze_iconst (pc := 14) zr_194_14 (by decide) ?_
    refine ze_goto (pc := 15) (t := 19) zr_194_15 (by decide) ?_
    exact j11
theorem zb194_141_p20 {d : Nat} {Q : Int → z_M → Prop} (l1 : Int) (l2 : Int) {V : z_M}
    (h : zI ((V 141 14) = 0) (zI (l2 = 4) (z_MS d 184 true [.inr (.inr 141), .inl 1] V (fun z2102 V2102 => Q 0 V2102)) (zI (l2 = 0) (z_MS d 191 true [.inr (.inr 141)] V (fun z2106 V2106 => z_Ex (z_MS d) 194 Q true 20 [some (.inr (.inr 141)), some (.inl l1), some (.inl z2106)] [] 0 0 V2106)) (zI (l2 = 1) (z_MS d 190 true [.inr (.inr 141)] V (fun z2105 V2105 => z_Ex (z_MS d) 194 Q true 20 [some (.inr (.inr 141)), some (.inl l1), some (.inl z2105)] [] 0 0 V2105)) (zI (l2 = 3) (z_MS d 192 true [.inr (.inr 141), .inl l1] V (fun z2104 V2104 => z_Ex (z_MS d) 194 Q true 20 [some (.inr (.inr 141)), some (.inl l1), some (.inl z2104)] [] 0 0 V2104)) (z_MS d 193 true [.inr (.inr 141)] V (fun z2103 V2103 => z_Ex (z_MS d) 194 Q true 20 [some (.inr (.inr 141)), some (.inl l1), some (.inl z2103)] [] 0 0 V2103)))))) (z_MS d 184 true [.inr (.inr 141), .inl 1] V (fun z2101 V2101 => Q 0 V2101))) :
    z_Ex (z_MS d) 194 Q true 20 [some (.inr (.inr 141)), some (.inl l1), some (.inl l2)] [] 0 0 V := by
  refine ze_aload_n (pc := 20) zr_194_20 rfl ?_
  refine ze_getfield (pc := 21) (v := .inl (V 141 14)) zr_194_21 rfl rfl ?_
  refine zq_if_ne (pc := 24) (t := 76) zr_194_24 (by decide) (z_toif h) (fun h => ?_) (fun h => ?_)
  · refine ze_iload_n (pc := 27) zr_194_27 rfl ?_
    refine ze_iconst (pc := 28) zr_194_28 (by decide) ?_
    refine zq_icmp_eq (pc := 29) (t := 76) zr_194_29 (by decide) (z_toif h) (fun h => ?_) (fun h => ?_)
    · refine ze_aload_n (pc := 76) zr_194_76 rfl ?_
      refine ze_iconst (pc := 77) zr_194_77 (by decide) ?_
      refine zq_callV0 (pc := 78) (as := [.inr (.inr 141), .inl 1]) (r := []) (kc2 := 0) (ks2 := 0) zr_194_78 rfl (by decide) rfl rfl rfl rfl ⟨rfl, rfl⟩ rfl h (fun z2102 V2102 h => ?_)
      exact ze_vret (pc := 81) zr_194_81 rfl h
    · refine ze_iload_n (pc := 32) zr_194_32 rfl ?_
      refine zq_if_ne (pc := 33) (t := 43) zr_194_33 (by decide) (z_toif h) (fun h => ?_) (fun h => ?_)
      · refine ze_aload_n (pc := 36) zr_194_36 rfl ?_
        refine zq_callV1 (pc := 37) (as := [.inr (.inr 141)]) (r := []) (kc2 := 0) (ks2 := 0) zr_194_37 rfl (by decide) rfl rfl rfl rfl ⟨rfl, rfl⟩ ⟨rfl, rfl, rfl⟩ h (fun z2106 V2106 h => ?_)
        refine ze_goto (pc := 40) (t := 72) zr_194_40 (by decide) ?_
        refine zq_istore_n (pc := 72) (ls2 := [some (.inr (.inr 141)), some (.inl l1), some (.inl z2106)]) zr_194_72 rfl rfl ?_
        refine ze_goto (pc := 73) (t := 20) zr_194_73 (by decide) ?_
        exact h
      · refine ze_iload_n (pc := 43) zr_194_43 rfl ?_
        refine ze_iconst (pc := 44) zr_194_44 (by decide) ?_
        refine zq_icmp_ne (pc := 45) (t := 55) zr_194_45 (by decide) (z_toif h) (fun h => ?_) (fun h => ?_)
        · refine ze_aload_n (pc := 48) zr_194_48 rfl ?_
          refine zq_callV1 (pc := 49) (as := [.inr (.inr 141)]) (r := []) (kc2 := 0) (ks2 := 0) zr_194_49 rfl (by decide) rfl rfl rfl rfl ⟨rfl, rfl⟩ ⟨rfl, rfl, rfl⟩ h (fun z2105 V2105 h => ?_)
          refine ze_goto (pc := 52) (t := 72) zr_194_52 (by decide) ?_
          refine zq_istore_n (pc := 72) (ls2 := [some (.inr (.inr 141)), some (.inl l1), some (.inl z2105)]) zr_194_72 rfl rfl ?_
          refine ze_goto (pc := 73) (t := 20) zr_194_73 (by decide) ?_
          exact h
        · refine ze_iload_n (pc := 55) zr_194_55 rfl ?_
          refine ze_iconst (pc := 56) zr_194_56 (by decide) ?_
          refine zq_icmp_ne (pc := 57) (t := 68) zr_194_57 (by decide) (z_toif h) (fun h => ?_) (fun h => ?_)
          · refine ze_aload_n (pc := 60) zr_194_60 rfl ?_
            refine ze_iload_n (pc := 61) zr_194_61 rfl ?_
            refine zq_callV1 (pc := 62) (as := [.inr (.inr 141), .inl l1]) (r := []) (kc2 := 0) (ks2 := 0) zr_194_62 rfl (by decide) rfl rfl rfl rfl ⟨rfl, rfl⟩ ⟨rfl, rfl, rfl⟩ h (fun z2104 V2104 h => ?_)
            refine ze_goto (pc := 65) (t := 72) zr_194_65 (by decide) ?_
            refine zq_istore_n (pc := 72) (ls2 := [some (.inr (.inr 141)), some (.inl l1), some (.inl z2104)]) zr_194_72 rfl rfl ?_
            refine ze_goto (pc := 73) (t := 20) zr_194_73 (by decide) ?_
            exact h
          · refine ze_aload_n (pc := 68) zr_194_68 rfl ?_
            refine zq_callV1 (pc := 69) (as := [.inr (.inr 141)]) (r := []) (kc2 := 0) (ks2 := 0) zr_194_69 rfl (by decide) rfl rfl rfl rfl ⟨rfl, rfl⟩ ⟨rfl, rfl, rfl⟩ h (fun z2103 V2103 h => ?_)
            refine zq_istore_n (pc := 72) (ls2 := [some (.inr (.inr 141)), some (.inl l1), some (.inl z2103)]) zr_194_72 rfl rfl ?_
            refine ze_goto (pc := 73) (t := 20) zr_194_73 (by decide) ?_
            exact h
  · refine ze_aload_n (pc := 76) zr_194_76 rfl ?_
    refine ze_iconst (pc := 77) zr_194_77 (by decide) ?_
    refine zq_callV0 (pc := 78) (as := [.inr (.inr 141), .inl 1]) (r := []) (kc2 := 0) (ks2 := 0) zr_194_78 rfl (by decide) rfl rfl rfl rfl ⟨rfl, rfl⟩ rfl h (fun z2101 V2101 h => ?_)
    exact ze_vret (pc := 81) zr_194_81 rfl h
theorem zb195_141 {d : Nat} {Q : Int → z_M → Prop}  {V : z_M}
    (h : z_MS d 177 true [.inr (.inr 141), .inr (.inl 2262611)] V (fun z1 V1 => zI (z1 = 0) (z_MS d 177 true [.inr (.inr 141), .inr (.inl 67155)] V1 (fun z2 V2 => z_MS d 179 true [.inr (.inr 141), .inl (if (if z2 = 0 then -1 else 1 : Int) = (-1) then 0 else (if (V2 141 15) < 12 then 1 else 0))] V2 (fun z3 V3 => zI ((V3 141 14) = 0) (z_Ex (z_MS d) 195 Q true 71 [some (.inr (.inr 141)), some (.inl (if z2 = 0 then -1 else 1)), some (.inl (z_mul 8 (V3 141 15))), some (.inl 0)] [] 0 0 V3) (Q 0 V3)))) (z_MS d 179 true [.inr (.inr 141), .inl (if (0 : Int) = (-1) then 0 else (if (V1 141 15) < 12 then 1 else 0))] V1 (fun z4 V4 => zI ((V4 141 14) = 0) (z_Ex (z_MS d) 195 Q true 71 [some (.inr (.inr 141)), some (.inl 0), some (.inl (z_mul 8 (V4 141 15))), some (.inl 0)] [] 0 0 V4) (Q 0 V4))))) :
    z_MS (d + 1) 195 true [.inr (.inr 141)] V Q := by
  show z_Ex (z_MS d) 195 Q true 0 [some (.inr (.inr 141)), none, none, none] [] 0 0 V
  refine ze_aload_n (pc := 0) zr_195_0 rfl ?_
  refine ze_ldc2 (pc := 1) (z := 2262611) zr_195_1 (by decide) rfl ?_
  refine zq_callV1 (pc := 4) (as := [.inr (.inr 141), .inr (.inl 2262611)]) (r := []) (kc2 := 0) (ks2 := 0) zr_195_4 rfl (by decide) rfl rfl rfl rfl ⟨rfl, rfl⟩ ⟨rfl, rfl, rfl⟩ h (fun z1 V1 h => ?_)
  refine zq_if_eq (pc := 7) (t := 14) zr_195_7 (by decide) (z_toif h) (fun h => ?_) (fun h => ?_)
  · refine ze_aload_n (pc := 14) zr_195_14 rfl ?_
    refine ze_ldc2 (pc := 15) (z := 67155) zr_195_15 (by decide) rfl ?_
    refine zq_callV1 (pc := 18) (as := [.inr (.inr 141), .inr (.inl 67155)]) (r := []) (kc2 := 0) (ks2 := 0) zr_195_18 rfl (by decide) rfl rfl rfl rfl ⟨rfl, rfl⟩ ⟨rfl, rfl, rfl⟩ h (fun z2 V2 h => ?_)
    have j21 : z_Ex (z_MS d) 195 Q true 29 [some (.inr (.inr 141)), none, none, none] [.inl (if z2 = 0 then -1 else 1)] 0 0 V2 := by
      refine zq_istore_n (pc := 29) (ls2 := [some (.inr (.inr 141)), some (.inl (if z2 = 0 then -1 else 1)), none, none]) zr_195_29 rfl rfl ?_
      refine ze_aload_n (pc := 30) zr_195_30 rfl ?_
      refine ze_iload_n (pc := 31) zr_195_31 rfl ?_
      refine ze_iconst (pc := 32) zr_195_32 (by decide) ?_
      have j33 : z_Ex (z_MS d) 195 Q true 50 [some (.inr (.inr 141)), some (.inl (if z2 = 0 then -1 else 1)), none, none] [.inl (if (if z2 = 0 then -1 else 1 : Int) = (-1) then 0 else (if (V2 141 15) < 12 then 1 else 0)), .inr (.inr 141)] 0 0 V2 := by
        refine zq_callV0 (pc := 50) (as := [.inr (.inr 141), .inl (if (if z2 = 0 then -1 else 1 : Int) = (-1) then 0 else (if (V2 141 15) < 12 then 1 else 0))]) (r := []) (kc2 := 0) (ks2 := 0) zr_195_50 rfl (by decide) rfl rfl rfl rfl ⟨rfl, rfl⟩ rfl h (fun z3 V3 h => ?_)
        refine ze_aload_n (pc := 53) zr_195_53 rfl ?_
        refine ze_getfield (pc := 54) (v := .inl (V3 141 14)) zr_195_54 rfl rfl ?_
        refine zq_if_eq (pc := 57) (t := 61) zr_195_57 (by decide) (z_toif h) (fun h => ?_) (fun h => ?_)
        · refine ze_bipush (pc := 61) zr_195_61 (by decide) ?_
          refine ze_aload_n (pc := 63) zr_195_63 rfl ?_
          refine ze_getfield (pc := 64) (v := .inl (V3 141 15)) zr_195_64 rfl rfl ?_
          refine ze_imul (pc := 67) zr_195_67 ?_
          refine zq_istore_n (pc := 68) (ls2 := [some (.inr (.inr 141)), some (.inl (if z2 = 0 then -1 else 1)), some (.inl (z_mul 8 (V3 141 15))), none]) zr_195_68 rfl rfl ?_
          refine ze_iconst (pc := 69) zr_195_69 (by decide) ?_
          refine zq_istore_n (pc := 70) (ls2 := [some (.inr (.inr 141)), some (.inl (if z2 = 0 then -1 else 1)), some (.inl (z_mul 8 (V3 141 15))), some (.inl 0)]) zr_195_70 rfl rfl ?_
          exact h
        · exact ze_vret (pc := 60) zr_195_60 rfl h
      refine ze_icmp_eq (pc := 33) (t := 49) zr_195_33 (by decide) (fun hc => ?_) (fun hc => ?_)
      · rw [if_pos (show (if z2 = 0 then -1 else 1 : Int) = (-1) from hc)] at j33
        refine ze_iconst (pc := 49) zr_195_49 (by decide) ?_
        exact j33
      · rw [if_neg (show ¬ ((if z2 = 0 then -1 else 1 : Int) = (-1)) from hc)] at j33
        refine ze_aload_n (pc := 36) zr_195_36 rfl ?_
        refine ze_getfield (pc := 37) (v := .inl (V2 141 15)) zr_195_37 rfl rfl ?_
        refine ze_bipush (pc := 40) zr_195_40 (by decide) ?_
        refine ze_icmp_ge (pc := 42) (t := 49) zr_195_42 (by decide) (fun hc => ?_) (fun hc => ?_)
        · rw [if_pos (show (V2 141 15) < 12 from hc)] at j33
          refine ze_iconst (pc := 45) zr_195_45 (by decide) ?_
          refine ze_goto (pc := 46) (t := 50) zr_195_46 (by decide) ?_
          exact j33
        · rw [if_neg (show ¬ ((V2 141 15) < 12) from hc)] at j33
          refine ze_iconst (pc := 49) zr_195_49 (by decide) ?_
          exact j33
    refine ze_if_eq (pc := 21) (t := 28) zr_195_21 (by decide) (fun hc => ?_) (fun hc => ?_)
    · rw [if_pos (show z2 = 0 from hc)] at j21
      refine ze_iconst (pc := 28) zr_195_28 (by decide) ?_
      exact j21
    · rw [if_neg (show ¬ (z2 = 0) from hc)] at j21
      refine ze_iconst (pc := 24) zr_195_24 (by decide) ?_
      refine ze_goto (pc := 25) (t := 29) zr_195_25 (by decide) ?_
      exact j21
  · refine ze_iconst (pc := 10) zr_195_10 (by decide) ?_
    refine ze_goto (pc := 11) (t := 29) zr_195_11 (by decide) ?_
    refine zq_istore_n (pc := 29) (ls2 := [some (.inr (.inr 141)), some (.inl 0), none, none]) zr_195_29 rfl rfl ?_
    refine ze_aload_n (pc := 30) zr_195_30 rfl ?_
    refine ze_iload_n (pc := 31) zr_195_31 rfl ?_
    refine ze_iconst (pc := 32) zr_195_32 (by decide) ?_
    have j33 : z_Ex (z_MS d) 195 Q true 50 [some (.inr (.inr 141)), some (.inl 0), none, none] [.inl (if (0 : Int) = (-1) then 0 else (if (V1 141 15) < 12 then 1 else 0)), .inr (.inr 141)] 0 0 V1 := by
      refine zq_callV0 (pc := 50) (as := [.inr (.inr 141), .inl (if (0 : Int) = (-1) then 0 else (if (V1 141 15) < 12 then 1 else 0))]) (r := []) (kc2 := 0) (ks2 := 0) zr_195_50 rfl (by decide) rfl rfl rfl rfl ⟨rfl, rfl⟩ rfl h (fun z4 V4 h => ?_)
      refine ze_aload_n (pc := 53) zr_195_53 rfl ?_
      refine ze_getfield (pc := 54) (v := .inl (V4 141 14)) zr_195_54 rfl rfl ?_
      refine zq_if_eq (pc := 57) (t := 61) zr_195_57 (by decide) (z_toif h) (fun h => ?_) (fun h => ?_)
      · refine ze_bipush (pc := 61) zr_195_61 (by decide) ?_
        refine ze_aload_n (pc := 63) zr_195_63 rfl ?_
        refine ze_getfield (pc := 64) (v := .inl (V4 141 15)) zr_195_64 rfl rfl ?_
        refine ze_imul (pc := 67) zr_195_67 ?_
        refine zq_istore_n (pc := 68) (ls2 := [some (.inr (.inr 141)), some (.inl 0), some (.inl (z_mul 8 (V4 141 15))), none]) zr_195_68 rfl rfl ?_
        refine ze_iconst (pc := 69) zr_195_69 (by decide) ?_
        refine zq_istore_n (pc := 70) (ls2 := [some (.inr (.inr 141)), some (.inl 0), some (.inl (z_mul 8 (V4 141 15))), some (.inl 0)]) zr_195_70 rfl rfl ?_
        exact h
      · exact ze_vret (pc := 60) zr_195_60 rfl h
    refine ze_icmp_eq (pc := 33) (t := 49) zr_195_33 (by decide) (fun hc => ?_) (fun hc => ?_)
    · rw [if_pos (show (0 : Int) = (-1) from hc)] at j33
      refine ze_iconst (pc := 49) zr_195_49 (by decide) ?_
      exact j33
    · rw [if_neg (show ¬ ((0 : Int) = (-1)) from hc)] at j33
      refine ze_aload_n (pc := 36) zr_195_36 rfl ?_
      refine ze_getfield (pc := 37) (v := .inl (V1 141 15)) zr_195_37 rfl rfl ?_
      refine ze_bipush (pc := 40) zr_195_40 (by decide) ?_
      refine ze_icmp_ge (pc := 42) (t := 49) zr_195_42 (by decide) (fun hc => ?_) (fun hc => ?_)
      · rw [if_pos (show (V1 141 15) < 12 from hc)] at j33
        refine ze_iconst (pc := 45) zr_195_45 (by decide) ?_
        refine ze_goto (pc := 46) (t := 50) zr_195_46 (by decide) ?_
        exact j33
      · rw [if_neg (show ¬ ((V1 141 15) < 12) from hc)] at j33
        refine ze_iconst (pc := 49) zr_195_49 (by decide) ?_
        exact j33
theorem zb195_141_p71 {d : Nat} {Q : Int → z_M → Prop} (l1 : Int) (l2 : Int) (l3 : Int) {V : z_M}
    (h : zI (l3 < 8) (zGu (0 ≤ (z_add l2 l3) ∧ (z_add l2 l3) < 96) (∀ W7204, W7204 = z_up V 147 (z_add l2 l3).toNat 0 → z_Ex (z_MS d) 195 Q true 71 [some (.inr (.inr 141)), some (.inl l1), some (.inl l2), some (.inl (z_add l3 1))] [] 0 0 W7204)) (zGu (0 ≤ l2 ∧ l2 < 96) (∀ W7201, W7201 = z_up V 147 l2.toNat l1 → ∀ W7202, W7202 = z_up W7201 141 15 (z_add (W7201 141 15) 1) → zGu (0 ≤ (z_add l2 3) ∧ (z_add l2 3) < 96) (∀ W7203, W7203 = z_up W7202 147 (z_add l2 3).toNat (W7202 141 17) → zI (l1 = 0) (z_MS d 194 true [.inr (.inr 141), .inl 0] W7203 (fun z7201 V7201 => z_Ex (z_MS d) 195 Q true 130 [some (.inr (.inr 141)), some (.inl l1), some (.inl l2), some (.inl l3)] [] 0 0 V7201)) (z_Ex (z_MS d) 195 Q true 130 [some (.inr (.inr 141)), some (.inl l1), some (.inl l2), some (.inl l3)] [] 0 0 W7203))))) :
    z_Ex (z_MS d) 195 Q true 71 [some (.inr (.inr 141)), some (.inl l1), some (.inl l2), some (.inl l3)] [] 0 0 V := by
  refine ze_iload_n (pc := 71) zr_195_71 rfl ?_
  refine ze_bipush (pc := 72) zr_195_72 (by decide) ?_
  refine zq_icmp_ge (pc := 74) (t := 92) zr_195_74 (by decide) (z_toif h) (fun h => ?_) (fun h => ?_)
  · refine ze_aload_n (pc := 77) zr_195_77 rfl ?_
    refine ze_getfield (pc := 78) (v := .inr (.inr 147)) zr_195_78 rfl rfl ?_
    refine ze_iload_n (pc := 81) zr_195_81 rfl ?_
    refine ze_iload_n (pc := 82) zr_195_82 rfl ?_
    refine ze_iadd (pc := 83) zr_195_83 ?_
    refine ze_iconst (pc := 84) zr_195_84 (by decide) ?_
    refine z_gk h (fun g85 h => ?_)
    refine zq_iastore (pc := 85) zr_195_85 (by decide) rfl g85 rfl h (fun W7204 h => ?_)
    refine zq_iinc (pc := 86) (ls2 := [some (.inr (.inr 141)), some (.inl l1), some (.inl l2), some (.inl (z_add l3 1))]) zr_195_86 rfl rfl rfl ?_
    refine ze_goto (pc := 89) (t := 71) zr_195_89 (by decide) ?_
    exact h
  · refine ze_aload_n (pc := 92) zr_195_92 rfl ?_
    refine ze_getfield (pc := 93) (v := .inr (.inr 147)) zr_195_93 rfl rfl ?_
    refine ze_iload_n (pc := 96) zr_195_96 rfl ?_
    refine ze_iload_n (pc := 97) zr_195_97 rfl ?_
    refine z_gk h (fun g98 h => ?_)
    refine zq_iastore (pc := 98) zr_195_98 (by decide) rfl g98 rfl h (fun W7201 h => ?_)
    refine ze_aload_n (pc := 99) zr_195_99 rfl ?_
    refine ze_dup (pc := 100) zr_195_100 rfl ?_
    refine ze_getfield (pc := 101) (v := .inl (W7201 141 15)) zr_195_101 rfl rfl ?_
    refine ze_iconst (pc := 104) zr_195_104 (by decide) ?_
    refine ze_iadd (pc := 105) zr_195_105 ?_
    refine zq_putI (pc := 106) zr_195_106 (by decide) rfl h (fun W7202 h => ?_)
    refine ze_aload_n (pc := 109) zr_195_109 rfl ?_
    refine ze_getfield (pc := 110) (v := .inr (.inr 147)) zr_195_110 rfl rfl ?_
    refine ze_iload_n (pc := 113) zr_195_113 rfl ?_
    refine ze_iconst (pc := 114) zr_195_114 (by decide) ?_
    refine ze_iadd (pc := 115) zr_195_115 ?_
    refine ze_aload_n (pc := 116) zr_195_116 rfl ?_
    refine ze_getfield (pc := 117) (v := .inl (W7202 141 17)) zr_195_117 rfl rfl ?_
    refine z_gk h (fun g120 h => ?_)
    refine zq_iastore (pc := 120) zr_195_120 (by decide) rfl g120 rfl h (fun W7203 h => ?_)
    refine ze_iload_n (pc := 121) zr_195_121 rfl ?_
    refine zq_if_ne (pc := 122) (t := 130) zr_195_122 (by decide) (z_toif h) (fun h => ?_) (fun h => ?_)
    · refine ze_aload_n (pc := 125) zr_195_125 rfl ?_
      refine ze_iconst (pc := 126) zr_195_126 (by decide) ?_
      refine zq_callV0 (pc := 127) (as := [.inr (.inr 141), .inl 0]) (r := []) (kc2 := 0) (ks2 := 0) zr_195_127 rfl (by decide) rfl rfl rfl rfl ⟨rfl, rfl⟩ rfl h (fun z7201 V7201 h => ?_)
      exact h
    · exact h
theorem zb195_141_p130 {d : Nat} {Q : Int → z_M → Prop} (o1 : Option z_V) (l2 : Int) (o3 : Option z_V) {V : z_M}
    (h : zGu (0 ≤ (z_add l2 4) ∧ (z_add l2 4) < 96) (∀ W13101, W13101 = z_up V 147 (z_add l2 4).toNat (V 141 17) → zGu (0 ≤ (z_add l2 5) ∧ (z_add l2 5) < 96) (∀ W13102, W13102 = z_up W13101 147 (z_add l2 5).toNat (W13101 141 17) → zI ((W13102 141 14) = 0) (z_MS d 177 true [.inr (.inr 141), .inr (.inl 294)] W13102 (fun z13101 V13101 => zI (z13101 = 0) (zGu (0 ≤ (z_add l2 6) ∧ (z_add l2 6) < 96) (∀ W13104, W13104 = z_up V13101 147 (z_add l2 6).toNat (V13101 141 17) → Q 0 W13104)) (z_MS d 176 true [.inr (.inr 141)] V13101 (fun z13102 V13102 => z_MS d 194 true [.inr (.inr 141), .inl 1] V13102 (fun z13103 V13103 => zGu (0 ≤ (z_add l2 6) ∧ (z_add l2 6) < 96) (∀ W13105, W13105 = z_up V13103 147 (z_add l2 6).toNat (V13103 141 17) → Q 0 W13105)))))) (zGu (0 ≤ (z_add l2 6) ∧ (z_add l2 6) < 96) (∀ W13103, W13103 = z_up W13102 147 (z_add l2 6).toNat (W13102 141 17) → Q 0 W13103))))) :
    z_Ex (z_MS d) 195 Q true 130 [some (.inr (.inr 141)), o1, some (.inl l2), o3] [] 0 0 V := by
  refine ze_aload_n (pc := 130) zr_195_130 rfl ?_
  refine ze_getfield (pc := 131) (v := .inr (.inr 147)) zr_195_131 rfl rfl ?_
  refine ze_iload_n (pc := 134) zr_195_134 rfl ?_
  refine ze_iconst (pc := 135) zr_195_135 (by decide) ?_
  refine ze_iadd (pc := 136) zr_195_136 ?_
  refine ze_aload_n (pc := 137) zr_195_137 rfl ?_
  refine ze_getfield (pc := 138) (v := .inl (V 141 17)) zr_195_138 rfl rfl ?_
  refine z_gk h (fun g141 h => ?_)
  refine zq_iastore (pc := 141) zr_195_141 (by decide) rfl g141 rfl h (fun W13101 h => ?_)
  refine ze_aload_n (pc := 142) zr_195_142 rfl ?_
  refine ze_getfield (pc := 143) (v := .inr (.inr 147)) zr_195_143 rfl rfl ?_
  refine ze_iload_n (pc := 146) zr_195_146 rfl ?_
  refine ze_iconst (pc := 147) zr_195_147 (by decide) ?_
  refine ze_iadd (pc := 148) zr_195_148 ?_
  refine ze_aload_n (pc := 149) zr_195_149 rfl ?_
  refine ze_getfield (pc := 150) (v := .inl (W13101 141 17)) zr_195_150 rfl rfl ?_
  refine z_gk h (fun g153 h => ?_)
  refine zq_iastore (pc := 153) zr_195_153 (by decide) rfl g153 rfl h (fun W13102 h => ?_)
  refine ze_aload_n (pc := 154) zr_195_154 rfl ?_
  refine ze_getfield (pc := 155) (v := .inl (W13102 141 14)) zr_195_155 rfl rfl ?_
  refine zq_if_ne (pc := 158) (t := 180) zr_195_158 (by decide) (z_toif h) (fun h => ?_) (fun h => ?_)
  · refine ze_aload_n (pc := 161) zr_195_161 rfl ?_
    refine ze_ldc2 (pc := 162) (z := 294) zr_195_162 (by decide) rfl ?_
    refine zq_callV1 (pc := 165) (as := [.inr (.inr 141), .inr (.inl 294)]) (r := []) (kc2 := 0) (ks2 := 0) zr_195_165 rfl (by decide) rfl rfl rfl rfl ⟨rfl, rfl⟩ ⟨rfl, rfl, rfl⟩ h (fun z13101 V13101 h => ?_)
    refine zq_if_eq (pc := 168) (t := 180) zr_195_168 (by decide) (z_toif h) (fun h => ?_) (fun h => ?_)
    · refine ze_aload_n (pc := 180) zr_195_180 rfl ?_
      refine ze_getfield (pc := 181) (v := .inr (.inr 147)) zr_195_181 rfl rfl ?_
      refine ze_iload_n (pc := 184) zr_195_184 rfl ?_
      refine ze_bipush (pc := 185) zr_195_185 (by decide) ?_
      refine ze_iadd (pc := 187) zr_195_187 ?_
      refine ze_aload_n (pc := 188) zr_195_188 rfl ?_
      refine ze_getfield (pc := 189) (v := .inl (V13101 141 17)) zr_195_189 rfl rfl ?_
      refine z_gk h (fun g192 h => ?_)
      refine zq_iastore (pc := 192) zr_195_192 (by decide) rfl g192 rfl h (fun W13104 h => ?_)
      exact ze_vret (pc := 193) zr_195_193 rfl h
    · refine ze_aload_n (pc := 171) zr_195_171 rfl ?_
      refine zq_callV0 (pc := 172) (as := [.inr (.inr 141)]) (r := []) (kc2 := 0) (ks2 := 0) zr_195_172 rfl (by decide) rfl rfl rfl rfl ⟨rfl, rfl⟩ rfl h (fun z13102 V13102 h => ?_)
      refine ze_aload_n (pc := 175) zr_195_175 rfl ?_
      refine ze_iconst (pc := 176) zr_195_176 (by decide) ?_
      refine zq_callV0 (pc := 177) (as := [.inr (.inr 141), .inl 1]) (r := []) (kc2 := 0) (ks2 := 0) zr_195_177 rfl (by decide) rfl rfl rfl rfl ⟨rfl, rfl⟩ rfl h (fun z13103 V13103 h => ?_)
      refine ze_aload_n (pc := 180) zr_195_180 rfl ?_
      refine ze_getfield (pc := 181) (v := .inr (.inr 147)) zr_195_181 rfl rfl ?_
      refine ze_iload_n (pc := 184) zr_195_184 rfl ?_
      refine ze_bipush (pc := 185) zr_195_185 (by decide) ?_
      refine ze_iadd (pc := 187) zr_195_187 ?_
      refine ze_aload_n (pc := 188) zr_195_188 rfl ?_
      refine ze_getfield (pc := 189) (v := .inl (V13103 141 17)) zr_195_189 rfl rfl ?_
      refine z_gk h (fun g192 h => ?_)
      refine zq_iastore (pc := 192) zr_195_192 (by decide) rfl g192 rfl h (fun W13105 h => ?_)
      exact ze_vret (pc := 193) zr_195_193 rfl h
  · refine ze_aload_n (pc := 180) zr_195_180 rfl ?_
    refine ze_getfield (pc := 181) (v := .inr (.inr 147)) zr_195_181 rfl rfl ?_
    refine ze_iload_n (pc := 184) zr_195_184 rfl ?_
    refine ze_bipush (pc := 185) zr_195_185 (by decide) ?_
    refine ze_iadd (pc := 187) zr_195_187 ?_
    refine ze_aload_n (pc := 188) zr_195_188 rfl ?_
    refine ze_getfield (pc := 189) (v := .inl (W13102 141 17)) zr_195_189 rfl rfl ?_
    refine z_gk h (fun g192 h => ?_)
    refine zq_iastore (pc := 192) zr_195_192 (by decide) rfl g192 rfl h (fun W13103 h => ?_)
    exact ze_vret (pc := 193) zr_195_193 rfl h
