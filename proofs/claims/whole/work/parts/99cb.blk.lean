/-! blocks of rows: printed by a program (blk2.py, gen99c.py) -/
theorem zb254_22 {d : Nat} {Q : Int → z_M → Prop} (a1 : Int) {V : z_M}
    (h : z_MS d 253 true [.inl a1, .inl 5] V (fun z1 V1 => zGu (0 ≤ a1 ∧ a1 < 5) (∀ x8 : Int, x8 = V1 22 a1.toNat → zGu (0 ≤ (z_i2c (z_and x8 255)) ∧ (z_i2c (z_and x8 255)) < 65536) (Q (z_i2c (z_and x8 255)) V1)))) :
    z_MS (d + 1) 254 true [.inr (.inr 22), .inl a1] V Q := by
  show z_Ex (z_MS d) 254 Q true 0 [some (.inr (.inr 22)), some (.inl a1)] [] 0 0 V
  refine ze_iload_n (pc := 0) zr_254_0 rfl ?_
  refine ze_aload_n (pc := 1) zr_254_1 rfl ?_
  refine ze_length (pc := 2) (z := 5) zr_254_2 (by decide) rfl ?_
  refine zq_callS0 (pc := 3) (as := [.inl a1, .inl 5]) (r := []) (kc2 := 0) (ks2 := 0) zr_254_3 rfl rfl rfl rfl ⟨rfl, rfl⟩ rfl h (fun z1 V1 h => ?_)
  refine ze_aload_n (pc := 6) zr_254_6 rfl ?_
  refine ze_iload_n (pc := 7) zr_254_7 rfl ?_
  refine z_gk h (fun g8 h => ?_)
  refine zl_baload (pc := 8) zr_254_8 (by decide) rfl g8 h (fun x8 h => ?_)
  refine ze_sipush (pc := 9) zr_254_9 (by decide) ?_
  refine ze_iand (pc := 12) zr_254_12 ?_
  refine ze_i2c (pc := 13) zr_254_13 ?_
  refine z_gk h (fun g14 h => ?_)
  exact zq_ret5 (pc := 14) zr_254_14 rfl g14 h
theorem zb43_89_9 {d : Nat} {Q : Int → z_M → Prop}  {V : z_M}
    (h : z_MS d 249 true [.inr (.inr 9)] V (fun z1 V1 => zI ((z_sub (V 89 8) (V 89 7)) = z1) (z_Ex (z_MS d) 43 Q true 23 [some (.inr (.inr 89)), some (.inr (.inr 9)), some (.inl (V1 89 7))] [] 0 0 V1) (Q 0 V1))) :
    z_MS (d + 1) 43 true [.inr (.inr 89), .inr (.inr 9)] V Q := by
  show z_Ex (z_MS d) 43 Q true 0 [some (.inr (.inr 89)), some (.inr (.inr 9)), none] [] 0 0 V
  refine ze_aload_n (pc := 0) zr_43_0 rfl ?_
  refine ze_getfield (pc := 1) (v := .inl (V 89 8)) zr_43_1 rfl rfl ?_
  refine ze_aload_n (pc := 4) zr_43_4 rfl ?_
  refine ze_getfield (pc := 5) (v := .inl (V 89 7)) zr_43_5 rfl rfl ?_
  refine ze_isub (pc := 8) zr_43_8 ?_
  refine ze_aload_n (pc := 9) zr_43_9 rfl ?_
  refine zq_callV1 (pc := 10) (as := [.inr (.inr 9)]) (r := [.inl (z_sub (V 89 8) (V 89 7))]) (kc2 := 0) (ks2 := 0) zr_43_10 rfl (by decide) rfl rfl rfl rfl ⟨rfl, rfl⟩ ⟨rfl, rfl, rfl⟩ h (fun z1 V1 h => ?_)
  refine zq_icmp_eq (pc := 13) (t := 18) zr_43_13 (by decide) (z_toif h) (fun h => ?_) (fun h => ?_)
  · refine ze_aload_n (pc := 18) zr_43_18 rfl ?_
    refine ze_getfield (pc := 19) (v := .inl (V1 89 7)) zr_43_19 rfl rfl ?_
    refine zq_istore_n (pc := 22) (ls2 := [some (.inr (.inr 89)), some (.inr (.inr 9)), some (.inl (V1 89 7))]) zr_43_22 rfl rfl ?_
    exact h
  · refine ze_iconst (pc := 16) zr_43_16 (by decide) ?_
    exact zq_ret4 (pc := 17) zr_43_17 rfl (by decide) h
theorem zb43_89_9_p23 {d : Nat} {Q : Int → z_M → Prop} (l2 : Int) {V : z_M}
    (h : zI (l2 < (V 89 8)) (zGu (z_kd ((V 89 5).toNat) = 101) (zGu (0 ≤ l2 ∧ l2 < z_len' V ((V 89 5).toNat)) (∀ x36 : Int, x36 = V ((V 89 5).toNat) l2.toNat → z_MS d 250 true [.inr (.inr 9), .inl (z_sub l2 (V 89 7))] V (fun z2401 V2401 => zI (x36 = z2401) (z_Ex (z_MS d) 43 Q true 23 [some (.inr (.inr 89)), some (.inr (.inr 9)), some (.inl (z_add l2 1))] [] 0 0 V2401) (Q 0 V2401))))) (Q 1 V)) :
    z_Ex (z_MS d) 43 Q true 23 [some (.inr (.inr 89)), some (.inr (.inr 9)), some (.inl l2)] [] 0 0 V := by
  refine ze_iload_n (pc := 23) zr_43_23 rfl ?_
  refine ze_aload_n (pc := 24) zr_43_24 rfl ?_
  refine ze_getfield (pc := 25) (v := .inl (V 89 8)) zr_43_25 rfl rfl ?_
  refine zq_icmp_ge (pc := 28) (t := 58) zr_43_28 (by decide) (z_toif h) (fun h => ?_) (fun h => ?_)
  · refine ze_aload_n (pc := 31) zr_43_31 rfl ?_
    refine ze_getfield (pc := 32) (v := .inr (.inr ((V 89 5).toNat))) zr_43_32 rfl rfl ?_
    refine ze_iload_n (pc := 35) zr_43_35 rfl ?_
    refine z_gk h (fun k36 h => ?_)
    refine z_gk h (fun g36 h => ?_)
    refine zl_ialoadv (pc := 36) zr_43_36 k36 g36 h (fun x36 h => ?_)
    refine ze_aload_n (pc := 37) zr_43_37 rfl ?_
    refine ze_iload_n (pc := 38) zr_43_38 rfl ?_
    refine ze_aload_n (pc := 39) zr_43_39 rfl ?_
    refine ze_getfield (pc := 40) (v := .inl (V 89 7)) zr_43_40 rfl rfl ?_
    refine ze_isub (pc := 43) zr_43_43 ?_
    refine zq_callV1 (pc := 44) (as := [.inr (.inr 9), .inl (z_sub l2 (V 89 7))]) (r := [.inl x36]) (kc2 := 0) (ks2 := 0) zr_43_44 rfl (by decide) rfl rfl rfl rfl ⟨rfl, rfl⟩ ⟨rfl, rfl, rfl⟩ h (fun z2401 V2401 h => ?_)
    refine zq_icmp_eq (pc := 47) (t := 52) zr_43_47 (by decide) (z_toif h) (fun h => ?_) (fun h => ?_)
    · refine zq_iinc (pc := 52) (ls2 := [some (.inr (.inr 89)), some (.inr (.inr 9)), some (.inl (z_add l2 1))]) zr_43_52 rfl rfl rfl ?_
      refine ze_goto (pc := 55) (t := 23) zr_43_55 (by decide) ?_
      exact h
    · refine ze_iconst (pc := 50) zr_43_50 (by decide) ?_
      exact zq_ret4 (pc := 51) zr_43_51 rfl (by decide) h
  · refine ze_iconst (pc := 58) zr_43_58 (by decide) ?_
    exact zq_ret4 (pc := 59) zr_43_59 rfl (by decide) h
theorem zb249_9 {d : Nat} {Q : Int → z_M → Prop}  {V : z_M}
    (h : z_MS d 251 true [.inr (.inr 9)] V (fun z1 V1 => Q (z_shr 4 z1) V1)) :
    z_MS (d + 1) 249 true [.inr (.inr 9)] V Q := by
  show z_Ex (z_MS d) 249 Q true 0 [some (.inr (.inr 9))] [] 0 0 V
  refine ze_aload_n (pc := 0) zr_249_0 rfl ?_
  refine ze_getfield (pc := 1) (v := .inr (.inr 23)) zr_249_1 rfl rfl ?_
  refine ze_length (pc := 4) (z := 4) zr_249_4 (by decide) rfl ?_
  refine ze_aload_n (pc := 5) zr_249_5 rfl ?_
  refine zq_callV1 (pc := 6) (as := [.inr (.inr 9)]) (r := [.inl 4]) (kc2 := 0) (ks2 := 0) zr_249_6 rfl (by decide) rfl rfl rfl rfl ⟨rfl, rfl⟩ ⟨rfl, rfl, rfl⟩ h (fun z1 V1 h => ?_)
  refine ze_ishr (pc := 9) zr_249_9 ?_
  exact zq_ret1 (pc := 10) zr_249_10 rfl h
theorem zb250_9 {d : Nat} {Q : Int → z_M → Prop} (a0 : Int) {V : z_M}
    (h : z_MS d 252 true [.inr (.inr 9)] V (fun z1 V1 => zI (z1 = 0) (False) (z_MS d 254 true [.inr (.inr 23), .inl a0] V1 (fun z2 V2 => zGu (0 ≤ z2 ∧ z2 < 65536) (Q z2 V2))))) :
    z_MS (d + 1) 250 true [.inr (.inr 9), .inl a0] V Q := by
  show z_Ex (z_MS d) 250 Q true 0 [some (.inr (.inr 9)), some (.inl a0)] [] 0 0 V
  refine ze_aload_n (pc := 0) zr_250_0 rfl ?_
  refine zq_callV1 (pc := 1) (as := [.inr (.inr 9)]) (r := []) (kc2 := 0) (ks2 := 0) zr_250_1 rfl (by decide) rfl rfl rfl rfl ⟨rfl, rfl⟩ ⟨rfl, rfl, rfl⟩ h (fun z1 V1 h => ?_)
  refine zq_if_eq (pc := 4) (t := 16) zr_250_4 (by decide) (z_toif h) (fun h => ?_) (fun h => ?_)
  · refine ze_aload_n (pc := 16) zr_250_16 rfl ?_
    refine ze_getfield (pc := 17) (v := .inr (.inr 23)) zr_250_17 rfl rfl ?_
    refine ze_iload_n (pc := 20) zr_250_20 rfl ?_
    exact h.elim
  · refine ze_aload_n (pc := 7) zr_250_7 rfl ?_
    refine ze_getfield (pc := 8) (v := .inr (.inr 23)) zr_250_8 rfl rfl ?_
    refine ze_iload_n (pc := 11) zr_250_11 rfl ?_
    refine zq_callS1 (pc := 12) (as := [.inr (.inr 23), .inl a0]) (r := []) (kc2 := 0) (ks2 := 0) zr_250_12 rfl rfl rfl rfl ⟨rfl, rfl⟩ ⟨rfl, rfl, rfl⟩ h (fun z2 V2 h => ?_)
    refine z_gk h (fun g15 h => ?_)
    exact zq_ret5 (pc := 15) zr_250_15 rfl g15 h
theorem zb251_9 {d : Nat} {Q : Int → z_M → Prop}  {V : z_M}
    (h : zGu (-128 ≤ (if (1 : Int) = 0 then 1 else V 9 1) ∧ (if (1 : Int) = 0 then 1 else V 9 1) < 128) (Q (if (1 : Int) = 0 then 1 else V 9 1) V)) :
    z_MS (d + 1) 251 true [.inr (.inr 9)] V Q := by
  show z_Ex (z_MS d) 251 Q true 0 [some (.inr (.inr 9))] [] 0 0 V
  refine ze_compact (pc := 0) zr_251_0 rfl ?_
  have j3 : z_Ex (z_MS d) 251 Q true 14 [some (.inr (.inr 9))] [.inl (if (1 : Int) = 0 then 1 else V 9 1)] 0 0 V := by
    refine z_gk h (fun g14 h => ?_)
    exact zq_ret6 (pc := 14) zr_251_14 rfl g14 h
  refine ze_if_eq (pc := 3) (t := 13) zr_251_3 (by decide) (fun hc => ?_) (fun hc => ?_)
  · rw [if_pos (show (1 : Int) = 0 from hc)] at j3
    refine ze_iconst (pc := 13) zr_251_13 (by decide) ?_
    exact j3
  · rw [if_neg (show ¬ ((1 : Int) = 0) from hc)] at j3
    refine ze_aload_n (pc := 6) zr_251_6 rfl ?_
    refine ze_getfield (pc := 7) (v := .inl (V 9 1)) zr_251_7 rfl rfl ?_
    refine ze_goto (pc := 10) (t := 14) zr_251_10 (by decide) ?_
    exact j3
theorem zb252_9 {d : Nat} {Q : Int → z_M → Prop}  {V : z_M}
    (h : Q (if (1 : Int) = 0 then 0 else (if (V 9 1) = 0 then 1 else 0)) V) :
    z_MS (d + 1) 252 true [.inr (.inr 9)] V Q := by
  show z_Ex (z_MS d) 252 Q true 0 [some (.inr (.inr 9))] [] 0 0 V
  refine ze_compact (pc := 0) zr_252_0 rfl ?_
  have j3 : z_Ex (z_MS d) 252 Q true 18 [some (.inr (.inr 9))] [.inl (if (1 : Int) = 0 then 0 else (if (V 9 1) = 0 then 1 else 0))] 0 0 V := by
    exact zq_ret4 (pc := 18) zr_252_18 rfl (by (repeat' split) <;> decide) h
  refine ze_if_eq (pc := 3) (t := 17) zr_252_3 (by decide) (fun hc => ?_) (fun hc => ?_)
  · rw [if_pos (show (1 : Int) = 0 from hc)] at j3
    refine ze_iconst (pc := 17) zr_252_17 (by decide) ?_
    exact j3
  · rw [if_neg (show ¬ ((1 : Int) = 0) from hc)] at j3
    refine ze_aload_n (pc := 6) zr_252_6 rfl ?_
    refine ze_getfield (pc := 7) (v := .inl (V 9 1)) zr_252_7 rfl rfl ?_
    refine ze_if_ne (pc := 10) (t := 17) zr_252_10 (by decide) (fun hc => ?_) (fun hc => ?_)
    · rw [if_pos (show (V 9 1) = 0 from hc)] at j3
      refine ze_iconst (pc := 13) zr_252_13 (by decide) ?_
      refine ze_goto (pc := 14) (t := 18) zr_252_14 (by decide) ?_
      exact j3
    · rw [if_neg (show ¬ ((V 9 1) = 0) from hc)] at j3
      refine ze_iconst (pc := 17) zr_252_17 (by decide) ?_
      exact j3
theorem zb254_23 {d : Nat} {Q : Int → z_M → Prop} (a1 : Int) {V : z_M}
    (h : z_MS d 253 true [.inl a1, .inl 4] V (fun z1 V1 => zGu (0 ≤ a1 ∧ a1 < 4) (∀ x8 : Int, x8 = V1 23 a1.toNat → zGu (0 ≤ (z_i2c (z_and x8 255)) ∧ (z_i2c (z_and x8 255)) < 65536) (Q (z_i2c (z_and x8 255)) V1)))) :
    z_MS (d + 1) 254 true [.inr (.inr 23), .inl a1] V Q := by
  show z_Ex (z_MS d) 254 Q true 0 [some (.inr (.inr 23)), some (.inl a1)] [] 0 0 V
  refine ze_iload_n (pc := 0) zr_254_0 rfl ?_
  refine ze_aload_n (pc := 1) zr_254_1 rfl ?_
  refine ze_length (pc := 2) (z := 4) zr_254_2 (by decide) rfl ?_
  refine zq_callS0 (pc := 3) (as := [.inl a1, .inl 4]) (r := []) (kc2 := 0) (ks2 := 0) zr_254_3 rfl rfl rfl rfl ⟨rfl, rfl⟩ rfl h (fun z1 V1 h => ?_)
  refine ze_aload_n (pc := 6) zr_254_6 rfl ?_
  refine ze_iload_n (pc := 7) zr_254_7 rfl ?_
  refine z_gk h (fun g8 h => ?_)
  refine zl_baload (pc := 8) zr_254_8 (by decide) rfl g8 h (fun x8 h => ?_)
  refine ze_sipush (pc := 9) zr_254_9 (by decide) ?_
  refine ze_iand (pc := 12) zr_254_12 ?_
  refine ze_i2c (pc := 13) zr_254_13 ?_
  refine z_gk h (fun g14 h => ?_)
  exact zq_ret5 (pc := 14) zr_254_14 rfl g14 h
theorem zb43_89_10 {d : Nat} {Q : Int → z_M → Prop}  {V : z_M}
    (h : z_MS d 249 true [.inr (.inr 10)] V (fun z1 V1 => zI ((z_sub (V 89 8) (V 89 7)) = z1) (z_Ex (z_MS d) 43 Q true 23 [some (.inr (.inr 89)), some (.inr (.inr 10)), some (.inl (V1 89 7))] [] 0 0 V1) (Q 0 V1))) :
    z_MS (d + 1) 43 true [.inr (.inr 89), .inr (.inr 10)] V Q := by
  show z_Ex (z_MS d) 43 Q true 0 [some (.inr (.inr 89)), some (.inr (.inr 10)), none] [] 0 0 V
  refine ze_aload_n (pc := 0) zr_43_0 rfl ?_
  refine ze_getfield (pc := 1) (v := .inl (V 89 8)) zr_43_1 rfl rfl ?_
  refine ze_aload_n (pc := 4) zr_43_4 rfl ?_
  refine ze_getfield (pc := 5) (v := .inl (V 89 7)) zr_43_5 rfl rfl ?_
  refine ze_isub (pc := 8) zr_43_8 ?_
  refine ze_aload_n (pc := 9) zr_43_9 rfl ?_
  refine zq_callV1 (pc := 10) (as := [.inr (.inr 10)]) (r := [.inl (z_sub (V 89 8) (V 89 7))]) (kc2 := 0) (ks2 := 0) zr_43_10 rfl (by decide) rfl rfl rfl rfl ⟨rfl, rfl⟩ ⟨rfl, rfl, rfl⟩ h (fun z1 V1 h => ?_)
  refine zq_icmp_eq (pc := 13) (t := 18) zr_43_13 (by decide) (z_toif h) (fun h => ?_) (fun h => ?_)
  · refine ze_aload_n (pc := 18) zr_43_18 rfl ?_
    refine ze_getfield (pc := 19) (v := .inl (V1 89 7)) zr_43_19 rfl rfl ?_
    refine zq_istore_n (pc := 22) (ls2 := [some (.inr (.inr 89)), some (.inr (.inr 10)), some (.inl (V1 89 7))]) zr_43_22 rfl rfl ?_
    exact h
  · refine ze_iconst (pc := 16) zr_43_16 (by decide) ?_
    exact zq_ret4 (pc := 17) zr_43_17 rfl (by decide) h
theorem zb43_89_10_p23 {d : Nat} {Q : Int → z_M → Prop} (l2 : Int) {V : z_M}
    (h : zI (l2 < (V 89 8)) (zGu (z_kd ((V 89 5).toNat) = 101) (zGu (0 ≤ l2 ∧ l2 < z_len' V ((V 89 5).toNat)) (∀ x36 : Int, x36 = V ((V 89 5).toNat) l2.toNat → z_MS d 250 true [.inr (.inr 10), .inl (z_sub l2 (V 89 7))] V (fun z2401 V2401 => zI (x36 = z2401) (z_Ex (z_MS d) 43 Q true 23 [some (.inr (.inr 89)), some (.inr (.inr 10)), some (.inl (z_add l2 1))] [] 0 0 V2401) (Q 0 V2401))))) (Q 1 V)) :
    z_Ex (z_MS d) 43 Q true 23 [some (.inr (.inr 89)), some (.inr (.inr 10)), some (.inl l2)] [] 0 0 V := by
  refine ze_iload_n (pc := 23) zr_43_23 rfl ?_
  refine ze_aload_n (pc := 24) zr_43_24 rfl ?_
  refine ze_getfield (pc := 25) (v := .inl (V 89 8)) zr_43_25 rfl rfl ?_
  refine zq_icmp_ge (pc := 28) (t := 58) zr_43_28 (by decide) (z_toif h) (fun h => ?_) (fun h => ?_)
  · refine ze_aload_n (pc := 31) zr_43_31 rfl ?_
    refine ze_getfield (pc := 32) (v := .inr (.inr ((V 89 5).toNat))) zr_43_32 rfl rfl ?_
    refine ze_iload_n (pc := 35) zr_43_35 rfl ?_
    refine z_gk h (fun k36 h => ?_)
    refine z_gk h (fun g36 h => ?_)
    refine zl_ialoadv (pc := 36) zr_43_36 k36 g36 h (fun x36 h => ?_)
    refine ze_aload_n (pc := 37) zr_43_37 rfl ?_
    refine ze_iload_n (pc := 38) zr_43_38 rfl ?_
    refine ze_aload_n (pc := 39) zr_43_39 rfl ?_
    refine ze_getfield (pc := 40) (v := .inl (V 89 7)) zr_43_40 rfl rfl ?_
    refine ze_isub (pc := 43) zr_43_43 ?_
    refine zq_callV1 (pc := 44) (as := [.inr (.inr 10), .inl (z_sub l2 (V 89 7))]) (r := [.inl x36]) (kc2 := 0) (ks2 := 0) zr_43_44 rfl (by decide) rfl rfl rfl rfl ⟨rfl, rfl⟩ ⟨rfl, rfl, rfl⟩ h (fun z2401 V2401 h => ?_)
    refine zq_icmp_eq (pc := 47) (t := 52) zr_43_47 (by decide) (z_toif h) (fun h => ?_) (fun h => ?_)
    · refine zq_iinc (pc := 52) (ls2 := [some (.inr (.inr 89)), some (.inr (.inr 10)), some (.inl (z_add l2 1))]) zr_43_52 rfl rfl rfl ?_
      refine ze_goto (pc := 55) (t := 23) zr_43_55 (by decide) ?_
      exact h
    · refine ze_iconst (pc := 50) zr_43_50 (by decide) ?_
      exact zq_ret4 (pc := 51) zr_43_51 rfl (by decide) h
  · refine ze_iconst (pc := 58) zr_43_58 (by decide) ?_
    exact zq_ret4 (pc := 59) zr_43_59 rfl (by decide) h
theorem zb249_10 {d : Nat} {Q : Int → z_M → Prop}  {V : z_M}
    (h : z_MS d 251 true [.inr (.inr 10)] V (fun z1 V1 => Q (z_shr 2 z1) V1)) :
    z_MS (d + 1) 249 true [.inr (.inr 10)] V Q := by
  show z_Ex (z_MS d) 249 Q true 0 [some (.inr (.inr 10))] [] 0 0 V
  refine ze_aload_n (pc := 0) zr_249_0 rfl ?_
  refine ze_getfield (pc := 1) (v := .inr (.inr 24)) zr_249_1 rfl rfl ?_
  refine ze_length (pc := 4) (z := 2) zr_249_4 (by decide) rfl ?_
  refine ze_aload_n (pc := 5) zr_249_5 rfl ?_
  refine zq_callV1 (pc := 6) (as := [.inr (.inr 10)]) (r := [.inl 2]) (kc2 := 0) (ks2 := 0) zr_249_6 rfl (by decide) rfl rfl rfl rfl ⟨rfl, rfl⟩ ⟨rfl, rfl, rfl⟩ h (fun z1 V1 h => ?_)
  refine ze_ishr (pc := 9) zr_249_9 ?_
  exact zq_ret1 (pc := 10) zr_249_10 rfl h
theorem zb250_10 {d : Nat} {Q : Int → z_M → Prop} (a0 : Int) {V : z_M}
    (h : z_MS d 252 true [.inr (.inr 10)] V (fun z1 V1 => zI (z1 = 0) (False) (z_MS d 254 true [.inr (.inr 24), .inl a0] V1 (fun z2 V2 => zGu (0 ≤ z2 ∧ z2 < 65536) (Q z2 V2))))) :
    z_MS (d + 1) 250 true [.inr (.inr 10), .inl a0] V Q := by
  show z_Ex (z_MS d) 250 Q true 0 [some (.inr (.inr 10)), some (.inl a0)] [] 0 0 V
  refine ze_aload_n (pc := 0) zr_250_0 rfl ?_
  refine zq_callV1 (pc := 1) (as := [.inr (.inr 10)]) (r := []) (kc2 := 0) (ks2 := 0) zr_250_1 rfl (by decide) rfl rfl rfl rfl ⟨rfl, rfl⟩ ⟨rfl, rfl, rfl⟩ h (fun z1 V1 h => ?_)
  refine zq_if_eq (pc := 4) (t := 16) zr_250_4 (by decide) (z_toif h) (fun h => ?_) (fun h => ?_)
  · refine ze_aload_n (pc := 16) zr_250_16 rfl ?_
    refine ze_getfield (pc := 17) (v := .inr (.inr 24)) zr_250_17 rfl rfl ?_
    refine ze_iload_n (pc := 20) zr_250_20 rfl ?_
    exact h.elim
  · refine ze_aload_n (pc := 7) zr_250_7 rfl ?_
    refine ze_getfield (pc := 8) (v := .inr (.inr 24)) zr_250_8 rfl rfl ?_
    refine ze_iload_n (pc := 11) zr_250_11 rfl ?_
    refine zq_callS1 (pc := 12) (as := [.inr (.inr 24), .inl a0]) (r := []) (kc2 := 0) (ks2 := 0) zr_250_12 rfl rfl rfl rfl ⟨rfl, rfl⟩ ⟨rfl, rfl, rfl⟩ h (fun z2 V2 h => ?_)
    refine z_gk h (fun g15 h => ?_)
    exact zq_ret5 (pc := 15) zr_250_15 rfl g15 h
theorem zb251_10 {d : Nat} {Q : Int → z_M → Prop}  {V : z_M}
    (h : zGu (-128 ≤ (if (1 : Int) = 0 then 1 else V 10 1) ∧ (if (1 : Int) = 0 then 1 else V 10 1) < 128) (Q (if (1 : Int) = 0 then 1 else V 10 1) V)) :
    z_MS (d + 1) 251 true [.inr (.inr 10)] V Q := by
  show z_Ex (z_MS d) 251 Q true 0 [some (.inr (.inr 10))] [] 0 0 V
  refine ze_compact (pc := 0) zr_251_0 rfl ?_
  have j3 : z_Ex (z_MS d) 251 Q true 14 [some (.inr (.inr 10))] [.inl (if (1 : Int) = 0 then 1 else V 10 1)] 0 0 V := by
    refine z_gk h (fun g14 h => ?_)
    exact zq_ret6 (pc := 14) zr_251_14 rfl g14 h
  refine ze_if_eq (pc := 3) (t := 13) zr_251_3 (by decide) (fun hc => ?_) (fun hc => ?_)
  · rw [if_pos (show (1 : Int) = 0 from hc)] at j3
    refine ze_iconst (pc := 13) zr_251_13 (by decide) ?_
    exact j3
  · rw [if_neg (show ¬ ((1 : Int) = 0) from hc)] at j3
    refine ze_aload_n (pc := 6) zr_251_6 rfl ?_
    refine ze_getfield (pc := 7) (v := .inl (V 10 1)) zr_251_7 rfl rfl ?_
    refine ze_goto (pc := 10) (t := 14) zr_251_10 (by decide) ?_
    exact j3
theorem zb252_10 {d : Nat} {Q : Int → z_M → Prop}  {V : z_M}
    (h : Q (if (1 : Int) = 0 then 0 else (if (V 10 1) = 0 then 1 else 0)) V) :
    z_MS (d + 1) 252 true [.inr (.inr 10)] V Q := by
  show z_Ex (z_MS d) 252 Q true 0 [some (.inr (.inr 10))] [] 0 0 V
  refine ze_compact (pc := 0) zr_252_0 rfl ?_
  have j3 : z_Ex (z_MS d) 252 Q true 18 [some (.inr (.inr 10))] [.inl (if (1 : Int) = 0 then 0 else (if (V 10 1) = 0 then 1 else 0))] 0 0 V := by
    exact zq_ret4 (pc := 18) zr_252_18 rfl (by (repeat' split) <;> decide) h
  refine ze_if_eq (pc := 3) (t := 17) zr_252_3 (by decide) (fun hc => ?_) (fun hc => ?_)
  · rw [if_pos (show (1 : Int) = 0 from hc)] at j3
    refine ze_iconst (pc := 17) zr_252_17 (by decide) ?_
    exact j3
  · rw [if_neg (show ¬ ((1 : Int) = 0) from hc)] at j3
    refine ze_aload_n (pc := 6) zr_252_6 rfl ?_
    refine ze_getfield (pc := 7) (v := .inl (V 10 1)) zr_252_7 rfl rfl ?_
    refine ze_if_ne (pc := 10) (t := 17) zr_252_10 (by decide) (fun hc => ?_) (fun hc => ?_)
    · rw [if_pos (show (V 10 1) = 0 from hc)] at j3
      refine ze_iconst (pc := 13) zr_252_13 (by decide) ?_
      refine ze_goto (pc := 14) (t := 18) zr_252_14 (by decide) ?_
      exact j3
    · rw [if_neg (show ¬ ((V 10 1) = 0) from hc)] at j3
      refine ze_iconst (pc := 17) zr_252_17 (by decide) ?_
      exact j3
theorem zb254_24 {d : Nat} {Q : Int → z_M → Prop} (a1 : Int) {V : z_M}
    (h : z_MS d 253 true [.inl a1, .inl 2] V (fun z1 V1 => zGu (0 ≤ a1 ∧ a1 < 2) (∀ x8 : Int, x8 = V1 24 a1.toNat → zGu (0 ≤ (z_i2c (z_and x8 255)) ∧ (z_i2c (z_and x8 255)) < 65536) (Q (z_i2c (z_and x8 255)) V1)))) :
    z_MS (d + 1) 254 true [.inr (.inr 24), .inl a1] V Q := by
  show z_Ex (z_MS d) 254 Q true 0 [some (.inr (.inr 24)), some (.inl a1)] [] 0 0 V
  refine ze_iload_n (pc := 0) zr_254_0 rfl ?_
  refine ze_aload_n (pc := 1) zr_254_1 rfl ?_
  refine ze_length (pc := 2) (z := 2) zr_254_2 (by decide) rfl ?_
  refine zq_callS0 (pc := 3) (as := [.inl a1, .inl 2]) (r := []) (kc2 := 0) (ks2 := 0) zr_254_3 rfl rfl rfl rfl ⟨rfl, rfl⟩ rfl h (fun z1 V1 h => ?_)
  refine ze_aload_n (pc := 6) zr_254_6 rfl ?_
  refine ze_iload_n (pc := 7) zr_254_7 rfl ?_
  refine z_gk h (fun g8 h => ?_)
  refine zl_baload (pc := 8) zr_254_8 (by decide) rfl g8 h (fun x8 h => ?_)
  refine ze_sipush (pc := 9) zr_254_9 (by decide) ?_
  refine ze_iand (pc := 12) zr_254_12 ?_
  refine ze_i2c (pc := 13) zr_254_13 ?_
  refine z_gk h (fun g14 h => ?_)
  exact zq_ret5 (pc := 14) zr_254_14 rfl g14 h
theorem zb43_89_11 {d : Nat} {Q : Int → z_M → Prop}  {V : z_M}
    (h : z_MS d 249 true [.inr (.inr 11)] V (fun z1 V1 => zI ((z_sub (V 89 8) (V 89 7)) = z1) (z_Ex (z_MS d) 43 Q true 23 [some (.inr (.inr 89)), some (.inr (.inr 11)), some (.inl (V1 89 7))] [] 0 0 V1) (Q 0 V1))) :
    z_MS (d + 1) 43 true [.inr (.inr 89), .inr (.inr 11)] V Q := by
  show z_Ex (z_MS d) 43 Q true 0 [some (.inr (.inr 89)), some (.inr (.inr 11)), none] [] 0 0 V
  refine ze_aload_n (pc := 0) zr_43_0 rfl ?_
  refine ze_getfield (pc := 1) (v := .inl (V 89 8)) zr_43_1 rfl rfl ?_
  refine ze_aload_n (pc := 4) zr_43_4 rfl ?_
  refine ze_getfield (pc := 5) (v := .inl (V 89 7)) zr_43_5 rfl rfl ?_
  refine ze_isub (pc := 8) zr_43_8 ?_
  refine ze_aload_n (pc := 9) zr_43_9 rfl ?_
  refine zq_callV1 (pc := 10) (as := [.inr (.inr 11)]) (r := [.inl (z_sub (V 89 8) (V 89 7))]) (kc2 := 0) (ks2 := 0) zr_43_10 rfl (by decide) rfl rfl rfl rfl ⟨rfl, rfl⟩ ⟨rfl, rfl, rfl⟩ h (fun z1 V1 h => ?_)
  refine zq_icmp_eq (pc := 13) (t := 18) zr_43_13 (by decide) (z_toif h) (fun h => ?_) (fun h => ?_)
  · refine ze_aload_n (pc := 18) zr_43_18 rfl ?_
    refine ze_getfield (pc := 19) (v := .inl (V1 89 7)) zr_43_19 rfl rfl ?_
    refine zq_istore_n (pc := 22) (ls2 := [some (.inr (.inr 89)), some (.inr (.inr 11)), some (.inl (V1 89 7))]) zr_43_22 rfl rfl ?_
    exact h
  · refine ze_iconst (pc := 16) zr_43_16 (by decide) ?_
    exact zq_ret4 (pc := 17) zr_43_17 rfl (by decide) h
theorem zb43_89_11_p23 {d : Nat} {Q : Int → z_M → Prop} (l2 : Int) {V : z_M}
    (h : zI (l2 < (V 89 8)) (zGu (z_kd ((V 89 5).toNat) = 101) (zGu (0 ≤ l2 ∧ l2 < z_len' V ((V 89 5).toNat)) (∀ x36 : Int, x36 = V ((V 89 5).toNat) l2.toNat → z_MS d 250 true [.inr (.inr 11), .inl (z_sub l2 (V 89 7))] V (fun z2401 V2401 => zI (x36 = z2401) (z_Ex (z_MS d) 43 Q true 23 [some (.inr (.inr 89)), some (.inr (.inr 11)), some (.inl (z_add l2 1))] [] 0 0 V2401) (Q 0 V2401))))) (Q 1 V)) :
    z_Ex (z_MS d) 43 Q true 23 [some (.inr (.inr 89)), some (.inr (.inr 11)), some (.inl l2)] [] 0 0 V := by
  refine ze_iload_n (pc := 23) zr_43_23 rfl ?_
  refine ze_aload_n (pc := 24) zr_43_24 rfl ?_
  refine ze_getfield (pc := 25) (v := .inl (V 89 8)) zr_43_25 rfl rfl ?_
  refine zq_icmp_ge (pc := 28) (t := 58) zr_43_28 (by decide) (z_toif h) (fun h => ?_) (fun h => ?_)
  · refine ze_aload_n (pc := 31) zr_43_31 rfl ?_
    refine ze_getfield (pc := 32) (v := .inr (.inr ((V 89 5).toNat))) zr_43_32 rfl rfl ?_
    refine ze_iload_n (pc := 35) zr_43_35 rfl ?_
    refine z_gk h (fun k36 h => ?_)
    refine z_gk h (fun g36 h => ?_)
    refine zl_ialoadv (pc := 36) zr_43_36 k36 g36 h (fun x36 h => ?_)
    refine ze_aload_n (pc := 37) zr_43_37 rfl ?_
    refine ze_iload_n (pc := 38) zr_43_38 rfl ?_
    refine ze_aload_n (pc := 39) zr_43_39 rfl ?_
    refine ze_getfield (pc := 40) (v := .inl (V 89 7)) zr_43_40 rfl rfl ?_
    refine ze_isub (pc := 43) zr_43_43 ?_
    refine zq_callV1 (pc := 44) (as := [.inr (.inr 11), .inl (z_sub l2 (V 89 7))]) (r := [.inl x36]) (kc2 := 0) (ks2 := 0) zr_43_44 rfl (by decide) rfl rfl rfl rfl ⟨rfl, rfl⟩ ⟨rfl, rfl, rfl⟩ h (fun z2401 V2401 h => ?_)
    refine zq_icmp_eq (pc := 47) (t := 52) zr_43_47 (by decide) (z_toif h) (fun h => ?_) (fun h => ?_)
    · refine zq_iinc (pc := 52) (ls2 := [some (.inr (.inr 89)), some (.inr (.inr 11)), some (.inl (z_add l2 1))]) zr_43_52 rfl rfl rfl ?_
      refine ze_goto (pc := 55) (t := 23) zr_43_55 (by decide) ?_
      exact h
    · refine ze_iconst (pc := 50) zr_43_50 (by decide) ?_
      exact zq_ret4 (pc := 51) zr_43_51 rfl (by decide) h
  · refine ze_iconst (pc := 58) zr_43_58 (by decide) ?_
    exact zq_ret4 (pc := 59) zr_43_59 rfl (by decide) h
theorem zb249_11 {d : Nat} {Q : Int → z_M → Prop}  {V : z_M}
    (h : z_MS d 251 true [.inr (.inr 11)] V (fun z1 V1 => Q (z_shr 2 z1) V1)) :
    z_MS (d + 1) 249 true [.inr (.inr 11)] V Q := by
  show z_Ex (z_MS d) 249 Q true 0 [some (.inr (.inr 11))] [] 0 0 V
  refine ze_aload_n (pc := 0) zr_249_0 rfl ?_
  refine ze_getfield (pc := 1) (v := .inr (.inr 25)) zr_249_1 rfl rfl ?_
  refine ze_length (pc := 4) (z := 2) zr_249_4 (by decide) rfl ?_
  refine ze_aload_n (pc := 5) zr_249_5 rfl ?_
  refine zq_callV1 (pc := 6) (as := [.inr (.inr 11)]) (r := [.inl 2]) (kc2 := 0) (ks2 := 0) zr_249_6 rfl (by decide) rfl rfl rfl rfl ⟨rfl, rfl⟩ ⟨rfl, rfl, rfl⟩ h (fun z1 V1 h => ?_)
  refine ze_ishr (pc := 9) zr_249_9 ?_
  exact zq_ret1 (pc := 10) zr_249_10 rfl h
theorem zb250_11 {d : Nat} {Q : Int → z_M → Prop} (a0 : Int) {V : z_M}
    (h : z_MS d 252 true [.inr (.inr 11)] V (fun z1 V1 => zI (z1 = 0) (False) (z_MS d 254 true [.inr (.inr 25), .inl a0] V1 (fun z2 V2 => zGu (0 ≤ z2 ∧ z2 < 65536) (Q z2 V2))))) :
    z_MS (d + 1) 250 true [.inr (.inr 11), .inl a0] V Q := by
  show z_Ex (z_MS d) 250 Q true 0 [some (.inr (.inr 11)), some (.inl a0)] [] 0 0 V
  refine ze_aload_n (pc := 0) zr_250_0 rfl ?_
  refine zq_callV1 (pc := 1) (as := [.inr (.inr 11)]) (r := []) (kc2 := 0) (ks2 := 0) zr_250_1 rfl (by decide) rfl rfl rfl rfl ⟨rfl, rfl⟩ ⟨rfl, rfl, rfl⟩ h (fun z1 V1 h => ?_)
  refine zq_if_eq (pc := 4) (t := 16) zr_250_4 (by decide) (z_toif h) (fun h => ?_) (fun h => ?_)
  · refine ze_aload_n (pc := 16) zr_250_16 rfl ?_
    refine ze_getfield (pc := 17) (v := .inr (.inr 25)) zr_250_17 rfl rfl ?_
    refine ze_iload_n (pc := 20) zr_250_20 rfl ?_
    exact h.elim
  · refine ze_aload_n (pc := 7) zr_250_7 rfl ?_
    refine ze_getfield (pc := 8) (v := .inr (.inr 25)) zr_250_8 rfl rfl ?_
    refine ze_iload_n (pc := 11) zr_250_11 rfl ?_
    refine zq_callS1 (pc := 12) (as := [.inr (.inr 25), .inl a0]) (r := []) (kc2 := 0) (ks2 := 0) zr_250_12 rfl rfl rfl rfl ⟨rfl, rfl⟩ ⟨rfl, rfl, rfl⟩ h (fun z2 V2 h => ?_)
    refine z_gk h (fun g15 h => ?_)
    exact zq_ret5 (pc := 15) zr_250_15 rfl g15 h
theorem zb251_11 {d : Nat} {Q : Int → z_M → Prop}  {V : z_M}
    (h : zGu (-128 ≤ (if (1 : Int) = 0 then 1 else V 11 1) ∧ (if (1 : Int) = 0 then 1 else V 11 1) < 128) (Q (if (1 : Int) = 0 then 1 else V 11 1) V)) :
    z_MS (d + 1) 251 true [.inr (.inr 11)] V Q := by
  show z_Ex (z_MS d) 251 Q true 0 [some (.inr (.inr 11))] [] 0 0 V
  refine ze_compact (pc := 0) zr_251_0 rfl ?_
  have j3 : z_Ex (z_MS d) 251 Q true 14 [some (.inr (.inr 11))] [.inl (if (1 : Int) = 0 then 1 else V 11 1)] 0 0 V := by
    refine z_gk h (fun g14 h => ?_)
    exact zq_ret6 (pc := 14) zr_251_14 rfl g14 h
  refine ze_if_eq (pc := 3) (t := 13) zr_251_3 (by decide) (fun hc => ?_) (fun hc => ?_)
  · rw [if_pos (show (1 : Int) = 0 from hc)] at j3
    refine ze_iconst (pc := 13) zr_251_13 (by decide) ?_
    exact j3
  · rw [if_neg (show ¬ ((1 : Int) = 0) from hc)] at j3
    refine ze_aload_n (pc := 6) zr_251_6 rfl ?_
    refine ze_getfield (pc := 7) (v := .inl (V 11 1)) zr_251_7 rfl rfl ?_
    refine ze_goto (pc := 10) (t := 14) zr_251_10 (by decide) ?_
    exact j3
theorem zb252_11 {d : Nat} {Q : Int → z_M → Prop}  {V : z_M}
    (h : Q (if (1 : Int) = 0 then 0 else (if (V 11 1) = 0 then 1 else 0)) V) :
    z_MS (d + 1) 252 true [.inr (.inr 11)] V Q := by
  show z_Ex (z_MS d) 252 Q true 0 [some (.inr (.inr 11))] [] 0 0 V
  refine ze_compact (pc := 0) zr_252_0 rfl ?_
  have j3 : z_Ex (z_MS d) 252 Q true 18 [some (.inr (.inr 11))] [.inl (if (1 : Int) = 0 then 0 else (if (V 11 1) = 0 then 1 else 0))] 0 0 V := by
    exact zq_ret4 (pc := 18) zr_252_18 rfl (by (repeat' split) <;> decide) h
  refine ze_if_eq (pc := 3) (t := 17) zr_252_3 (by decide) (fun hc => ?_) (fun hc => ?_)
  · rw [if_pos (show (1 : Int) = 0 from hc)] at j3
    refine ze_iconst (pc := 17) zr_252_17 (by decide) ?_
    exact j3
  · rw [if_neg (show ¬ ((1 : Int) = 0) from hc)] at j3
    refine ze_aload_n (pc := 6) zr_252_6 rfl ?_
    refine ze_getfield (pc := 7) (v := .inl (V 11 1)) zr_252_7 rfl rfl ?_
    refine ze_if_ne (pc := 10) (t := 17) zr_252_10 (by decide) (fun hc => ?_) (fun hc => ?_)
    · rw [if_pos (show (V 11 1) = 0 from hc)] at j3
      refine ze_iconst (pc := 13) zr_252_13 (by decide) ?_
      refine ze_goto (pc := 14) (t := 18) zr_252_14 (by decide) ?_
      exact j3
    · rw [if_neg (show ¬ ((V 11 1) = 0) from hc)] at j3
      refine ze_iconst (pc := 17) zr_252_17 (by decide) ?_
      exact j3
theorem zb254_25 {d : Nat} {Q : Int → z_M → Prop} (a1 : Int) {V : z_M}
    (h : z_MS d 253 true [.inl a1, .inl 2] V (fun z1 V1 => zGu (0 ≤ a1 ∧ a1 < 2) (∀ x8 : Int, x8 = V1 25 a1.toNat → zGu (0 ≤ (z_i2c (z_and x8 255)) ∧ (z_i2c (z_and x8 255)) < 65536) (Q (z_i2c (z_and x8 255)) V1)))) :
    z_MS (d + 1) 254 true [.inr (.inr 25), .inl a1] V Q := by
  show z_Ex (z_MS d) 254 Q true 0 [some (.inr (.inr 25)), some (.inl a1)] [] 0 0 V
  refine ze_iload_n (pc := 0) zr_254_0 rfl ?_
  refine ze_aload_n (pc := 1) zr_254_1 rfl ?_
  refine ze_length (pc := 2) (z := 2) zr_254_2 (by decide) rfl ?_
  refine zq_callS0 (pc := 3) (as := [.inl a1, .inl 2]) (r := []) (kc2 := 0) (ks2 := 0) zr_254_3 rfl rfl rfl rfl ⟨rfl, rfl⟩ rfl h (fun z1 V1 h => ?_)
  refine ze_aload_n (pc := 6) zr_254_6 rfl ?_
  refine ze_iload_n (pc := 7) zr_254_7 rfl ?_
  refine z_gk h (fun g8 h => ?_)
  refine zl_baload (pc := 8) zr_254_8 (by decide) rfl g8 h (fun x8 h => ?_)
  refine ze_sipush (pc := 9) zr_254_9 (by decide) ?_
  refine ze_iand (pc := 12) zr_254_12 ?_
  refine ze_i2c (pc := 13) zr_254_13 ?_
  refine z_gk h (fun g14 h => ?_)
  exact zq_ret5 (pc := 14) zr_254_14 rfl g14 h
theorem zb43_89_12 {d : Nat} {Q : Int → z_M → Prop}  {V : z_M}
    (h : z_MS d 249 true [.inr (.inr 12)] V (fun z1 V1 => zI ((z_sub (V 89 8) (V 89 7)) = z1) (z_Ex (z_MS d) 43 Q true 23 [some (.inr (.inr 89)), some (.inr (.inr 12)), some (.inl (V1 89 7))] [] 0 0 V1) (Q 0 V1))) :
    z_MS (d + 1) 43 true [.inr (.inr 89), .inr (.inr 12)] V Q := by
  show z_Ex (z_MS d) 43 Q true 0 [some (.inr (.inr 89)), some (.inr (.inr 12)), none] [] 0 0 V
  refine ze_aload_n (pc := 0) zr_43_0 rfl ?_
  refine ze_getfield (pc := 1) (v := .inl (V 89 8)) zr_43_1 rfl rfl ?_
  refine ze_aload_n (pc := 4) zr_43_4 rfl ?_
  refine ze_getfield (pc := 5) (v := .inl (V 89 7)) zr_43_5 rfl rfl ?_
  refine ze_isub (pc := 8) zr_43_8 ?_
  refine ze_aload_n (pc := 9) zr_43_9 rfl ?_
  refine zq_callV1 (pc := 10) (as := [.inr (.inr 12)]) (r := [.inl (z_sub (V 89 8) (V 89 7))]) (kc2 := 0) (ks2 := 0) zr_43_10 rfl (by decide) rfl rfl rfl rfl ⟨rfl, rfl⟩ ⟨rfl, rfl, rfl⟩ h (fun z1 V1 h => ?_)
  refine zq_icmp_eq (pc := 13) (t := 18) zr_43_13 (by decide) (z_toif h) (fun h => ?_) (fun h => ?_)
  · refine ze_aload_n (pc := 18) zr_43_18 rfl ?_
    refine ze_getfield (pc := 19) (v := .inl (V1 89 7)) zr_43_19 rfl rfl ?_
    refine zq_istore_n (pc := 22) (ls2 := [some (.inr (.inr 89)), some (.inr (.inr 12)), some (.inl (V1 89 7))]) zr_43_22 rfl rfl ?_
    exact h
  · refine ze_iconst (pc := 16) zr_43_16 (by decide) ?_
    exact zq_ret4 (pc := 17) zr_43_17 rfl (by decide) h
theorem zb43_89_12_p23 {d : Nat} {Q : Int → z_M → Prop} (l2 : Int) {V : z_M}
    (h : zI (l2 < (V 89 8)) (zGu (z_kd ((V 89 5).toNat) = 101) (zGu (0 ≤ l2 ∧ l2 < z_len' V ((V 89 5).toNat)) (∀ x36 : Int, x36 = V ((V 89 5).toNat) l2.toNat → z_MS d 250 true [.inr (.inr 12), .inl (z_sub l2 (V 89 7))] V (fun z2401 V2401 => zI (x36 = z2401) (z_Ex (z_MS d) 43 Q true 23 [some (.inr (.inr 89)), some (.inr (.inr 12)), some (.inl (z_add l2 1))] [] 0 0 V2401) (Q 0 V2401))))) (Q 1 V)) :
    z_Ex (z_MS d) 43 Q true 23 [some (.inr (.inr 89)), some (.inr (.inr 12)), some (.inl l2)] [] 0 0 V := by
  refine ze_iload_n (pc := 23) zr_43_23 rfl ?_
  refine ze_aload_n (pc := 24) zr_43_24 rfl ?_
  refine ze_getfield (pc := 25) (v := .inl (V 89 8)) zr_43_25 rfl rfl ?_
  refine zq_icmp_ge (pc := 28) (t := 58) zr_43_28 (by decide) (z_toif h) (fun h => ?_) (fun h => ?_)
  · refine ze_aload_n (pc := 31) zr_43_31 rfl ?_
    refine ze_getfield (pc := 32) (v := .inr (.inr ((V 89 5).toNat))) zr_43_32 rfl rfl ?_
    refine ze_iload_n (pc := 35) zr_43_35 rfl ?_
    refine z_gk h (fun k36 h => ?_)
    refine z_gk h (fun g36 h => ?_)
    refine zl_ialoadv (pc := 36) zr_43_36 k36 g36 h (fun x36 h => ?_)
    refine ze_aload_n (pc := 37) zr_43_37 rfl ?_
    refine ze_iload_n (pc := 38) zr_43_38 rfl ?_
    refine ze_aload_n (pc := 39) zr_43_39 rfl ?_
    refine ze_getfield (pc := 40) (v := .inl (V 89 7)) zr_43_40 rfl rfl ?_
    refine ze_isub (pc := 43) zr_43_43 ?_
    refine zq_callV1 (pc := 44) (as := [.inr (.inr 12), .inl (z_sub l2 (V 89 7))]) (r := [.inl x36]) (kc2 := 0) (ks2 := 0) zr_43_44 rfl (by decide) rfl rfl rfl rfl ⟨rfl, rfl⟩ ⟨rfl, rfl, rfl⟩ h (fun z2401 V2401 h => ?_)
    refine zq_icmp_eq (pc := 47) (t := 52) zr_43_47 (by decide) (z_toif h) (fun h => ?_) (fun h => ?_)
    · refine zq_iinc (pc := 52) (ls2 := [some (.inr (.inr 89)), some (.inr (.inr 12)), some (.inl (z_add l2 1))]) zr_43_52 rfl rfl rfl ?_
      refine ze_goto (pc := 55) (t := 23) zr_43_55 (by decide) ?_
      exact h
    · refine ze_iconst (pc := 50) zr_43_50 (by decide) ?_
      exact zq_ret4 (pc := 51) zr_43_51 rfl (by decide) h
  · refine ze_iconst (pc := 58) zr_43_58 (by decide) ?_
    exact zq_ret4 (pc := 59) zr_43_59 rfl (by decide) h
theorem zb249_12 {d : Nat} {Q : Int → z_M → Prop}  {V : z_M}
    (h : z_MS d 251 true [.inr (.inr 12)] V (fun z1 V1 => Q (z_shr 3 z1) V1)) :
    z_MS (d + 1) 249 true [.inr (.inr 12)] V Q := by
  show z_Ex (z_MS d) 249 Q true 0 [some (.inr (.inr 12))] [] 0 0 V
  refine ze_aload_n (pc := 0) zr_249_0 rfl ?_
  refine ze_getfield (pc := 1) (v := .inr (.inr 26)) zr_249_1 rfl rfl ?_
  refine ze_length (pc := 4) (z := 3) zr_249_4 (by decide) rfl ?_
  refine ze_aload_n (pc := 5) zr_249_5 rfl ?_
  refine zq_callV1 (pc := 6) (as := [.inr (.inr 12)]) (r := [.inl 3]) (kc2 := 0) (ks2 := 0) zr_249_6 rfl (by decide) rfl rfl rfl rfl ⟨rfl, rfl⟩ ⟨rfl, rfl, rfl⟩ h (fun z1 V1 h => ?_)
  refine ze_ishr (pc := 9) zr_249_9 ?_
  exact zq_ret1 (pc := 10) zr_249_10 rfl h
theorem zb250_12 {d : Nat} {Q : Int → z_M → Prop} (a0 : Int) {V : z_M}
    (h : z_MS d 252 true [.inr (.inr 12)] V (fun z1 V1 => zI (z1 = 0) (False) (z_MS d 254 true [.inr (.inr 26), .inl a0] V1 (fun z2 V2 => zGu (0 ≤ z2 ∧ z2 < 65536) (Q z2 V2))))) :
    z_MS (d + 1) 250 true [.inr (.inr 12), .inl a0] V Q := by
  show z_Ex (z_MS d) 250 Q true 0 [some (.inr (.inr 12)), some (.inl a0)] [] 0 0 V
  refine ze_aload_n (pc := 0) zr_250_0 rfl ?_
  refine zq_callV1 (pc := 1) (as := [.inr (.inr 12)]) (r := []) (kc2 := 0) (ks2 := 0) zr_250_1 rfl (by decide) rfl rfl rfl rfl ⟨rfl, rfl⟩ ⟨rfl, rfl, rfl⟩ h (fun z1 V1 h => ?_)
  refine zq_if_eq (pc := 4) (t := 16) zr_250_4 (by decide) (z_toif h) (fun h => ?_) (fun h => ?_)
  · refine ze_aload_n (pc := 16) zr_250_16 rfl ?_
    refine ze_getfield (pc := 17) (v := .inr (.inr 26)) zr_250_17 rfl rfl ?_
    refine ze_iload_n (pc := 20) zr_250_20 rfl ?_
    exact h.elim
  · refine ze_aload_n (pc := 7) zr_250_7 rfl ?_
    refine ze_getfield (pc := 8) (v := .inr (.inr 26)) zr_250_8 rfl rfl ?_
    refine ze_iload_n (pc := 11) zr_250_11 rfl ?_
    refine zq_callS1 (pc := 12) (as := [.inr (.inr 26), .inl a0]) (r := []) (kc2 := 0) (ks2 := 0) zr_250_12 rfl rfl rfl rfl ⟨rfl, rfl⟩ ⟨rfl, rfl, rfl⟩ h (fun z2 V2 h => ?_)
    refine z_gk h (fun g15 h => ?_)
    exact zq_ret5 (pc := 15) zr_250_15 rfl g15 h
theorem zb251_12 {d : Nat} {Q : Int → z_M → Prop}  {V : z_M}
    (h : zGu (-128 ≤ (if (1 : Int) = 0 then 1 else V 12 1) ∧ (if (1 : Int) = 0 then 1 else V 12 1) < 128) (Q (if (1 : Int) = 0 then 1 else V 12 1) V)) :
    z_MS (d + 1) 251 true [.inr (.inr 12)] V Q := by
  show z_Ex (z_MS d) 251 Q true 0 [some (.inr (.inr 12))] [] 0 0 V
  refine ze_compact (pc := 0) zr_251_0 rfl ?_
  have j3 : z_Ex (z_MS d) 251 Q true 14 [some (.inr (.inr 12))] [.inl (if (1 : Int) = 0 then 1 else V 12 1)] 0 0 V := by
    refine z_gk h (fun g14 h => ?_)
    exact zq_ret6 (pc := 14) zr_251_14 rfl g14 h
  refine ze_if_eq (pc := 3) (t := 13) zr_251_3 (by decide) (fun hc => ?_) (fun hc => ?_)
  · rw [if_pos (show (1 : Int) = 0 from hc)] at j3
    refine ze_iconst (pc := 13) zr_251_13 (by decide) ?_
    exact j3
  · rw [if_neg (show ¬ ((1 : Int) = 0) from hc)] at j3
    refine ze_aload_n (pc := 6) zr_251_6 rfl ?_
    refine ze_getfield (pc := 7) (v := .inl (V 12 1)) zr_251_7 rfl rfl ?_
    refine ze_goto (pc := 10) (t := 14) zr_251_10 (by decide) ?_
    exact j3
theorem zb252_12 {d : Nat} {Q : Int → z_M → Prop}  {V : z_M}
    (h : Q (if (1 : Int) = 0 then 0 else (if (V 12 1) = 0 then 1 else 0)) V) :
    z_MS (d + 1) 252 true [.inr (.inr 12)] V Q := by
  show z_Ex (z_MS d) 252 Q true 0 [some (.inr (.inr 12))] [] 0 0 V
  refine ze_compact (pc := 0) zr_252_0 rfl ?_
  have j3 : z_Ex (z_MS d) 252 Q true 18 [some (.inr (.inr 12))] [.inl (if (1 : Int) = 0 then 0 else (if (V 12 1) = 0 then 1 else 0))] 0 0 V := by
    exact zq_ret4 (pc := 18) zr_252_18 rfl (by (repeat' split) <;> decide) h
  refine ze_if_eq (pc := 3) (t := 17) zr_252_3 (by decide) (fun hc => ?_) (fun hc => ?_)
  · rw [if_pos (show (1 : Int) = 0 from hc)] at j3
    refine ze_iconst (pc := 17) zr_252_17 (by decide) ?_
    exact j3
  · rw [if_neg (show ¬ ((1 : Int) = 0) from hc)] at j3
    refine ze_aload_n (pc := 6) zr_252_6 rfl ?_
    refine ze_getfield (pc := 7) (v := .inl (V 12 1)) zr_252_7 rfl rfl ?_
    refine ze_if_ne (pc := 10) (t := 17) zr_252_10 (by decide) (fun hc => ?_) (fun hc => ?_)
    · rw [if_pos (show (V 12 1) = 0 from hc)] at j3
      refine ze_iconst (pc := 13) zr_252_13 (by decide) ?_
      refine ze_goto (pc := 14) (t := 18) zr_252_14 (by decide) ?_
      exact j3
    · rw [if_neg (show ¬ ((V 12 1) = 0) from hc)] at j3
      refine ze_iconst (pc := 17) zr_252_17 (by decide) ?_
      exact j3
theorem zb254_26 {d : Nat} {Q : Int → z_M → Prop} (a1 : Int) {V : z_M}
    (h : z_MS d 253 true [.inl a1, .inl 3] V (fun z1 V1 => zGu (0 ≤ a1 ∧ a1 < 3) (∀ x8 : Int, x8 = V1 26 a1.toNat → zGu (0 ≤ (z_i2c (z_and x8 255)) ∧ (z_i2c (z_and x8 255)) < 65536) (Q (z_i2c (z_and x8 255)) V1)))) :
    z_MS (d + 1) 254 true [.inr (.inr 26), .inl a1] V Q := by
  show z_Ex (z_MS d) 254 Q true 0 [some (.inr (.inr 26)), some (.inl a1)] [] 0 0 V
  refine ze_iload_n (pc := 0) zr_254_0 rfl ?_
  refine ze_aload_n (pc := 1) zr_254_1 rfl ?_
  refine ze_length (pc := 2) (z := 3) zr_254_2 (by decide) rfl ?_
  refine zq_callS0 (pc := 3) (as := [.inl a1, .inl 3]) (r := []) (kc2 := 0) (ks2 := 0) zr_254_3 rfl rfl rfl rfl ⟨rfl, rfl⟩ rfl h (fun z1 V1 h => ?_)
  refine ze_aload_n (pc := 6) zr_254_6 rfl ?_
  refine ze_iload_n (pc := 7) zr_254_7 rfl ?_
  refine z_gk h (fun g8 h => ?_)
  refine zl_baload (pc := 8) zr_254_8 (by decide) rfl g8 h (fun x8 h => ?_)
  refine ze_sipush (pc := 9) zr_254_9 (by decide) ?_
  refine ze_iand (pc := 12) zr_254_12 ?_
  refine ze_i2c (pc := 13) zr_254_13 ?_
  refine z_gk h (fun g14 h => ?_)
  exact zq_ret5 (pc := 14) zr_254_14 rfl g14 h
theorem zb43_89_13 {d : Nat} {Q : Int → z_M → Prop}  {V : z_M}
    (h : z_MS d 249 true [.inr (.inr 13)] V (fun z1 V1 => zI ((z_sub (V 89 8) (V 89 7)) = z1) (z_Ex (z_MS d) 43 Q true 23 [some (.inr (.inr 89)), some (.inr (.inr 13)), some (.inl (V1 89 7))] [] 0 0 V1) (Q 0 V1))) :
    z_MS (d + 1) 43 true [.inr (.inr 89), .inr (.inr 13)] V Q := by
  show z_Ex (z_MS d) 43 Q true 0 [some (.inr (.inr 89)), some (.inr (.inr 13)), none] [] 0 0 V
  refine ze_aload_n (pc := 0) zr_43_0 rfl ?_
  refine ze_getfield (pc := 1) (v := .inl (V 89 8)) zr_43_1 rfl rfl ?_
  refine ze_aload_n (pc := 4) zr_43_4 rfl ?_
  refine ze_getfield (pc := 5) (v := .inl (V 89 7)) zr_43_5 rfl rfl ?_
  refine ze_isub (pc := 8) zr_43_8 ?_
  refine ze_aload_n (pc := 9) zr_43_9 rfl ?_
  refine zq_callV1 (pc := 10) (as := [.inr (.inr 13)]) (r := [.inl (z_sub (V 89 8) (V 89 7))]) (kc2 := 0) (ks2 := 0) zr_43_10 rfl (by decide) rfl rfl rfl rfl ⟨rfl, rfl⟩ ⟨rfl, rfl, rfl⟩ h (fun z1 V1 h => ?_)
  refine zq_icmp_eq (pc := 13) (t := 18) zr_43_13 (by decide) (z_toif h) (fun h => ?_) (fun h => ?_)
  · refine ze_aload_n (pc := 18) zr_43_18 rfl ?_
    refine ze_getfield (pc := 19) (v := .inl (V1 89 7)) zr_43_19 rfl rfl ?_
    refine zq_istore_n (pc := 22) (ls2 := [some (.inr (.inr 89)), some (.inr (.inr 13)), some (.inl (V1 89 7))]) zr_43_22 rfl rfl ?_
    exact h
  · refine ze_iconst (pc := 16) zr_43_16 (by decide) ?_
    exact zq_ret4 (pc := 17) zr_43_17 rfl (by decide) h
theorem zb43_89_13_p23 {d : Nat} {Q : Int → z_M → Prop} (l2 : Int) {V : z_M}
    (h : zI (l2 < (V 89 8)) (zGu (z_kd ((V 89 5).toNat) = 101) (zGu (0 ≤ l2 ∧ l2 < z_len' V ((V 89 5).toNat)) (∀ x36 : Int, x36 = V ((V 89 5).toNat) l2.toNat → z_MS d 250 true [.inr (.inr 13), .inl (z_sub l2 (V 89 7))] V (fun z2401 V2401 => zI (x36 = z2401) (z_Ex (z_MS d) 43 Q true 23 [some (.inr (.inr 89)), some (.inr (.inr 13)), some (.inl (z_add l2 1))] [] 0 0 V2401) (Q 0 V2401))))) (Q 1 V)) :
    z_Ex (z_MS d) 43 Q true 23 [some (.inr (.inr 89)), some (.inr (.inr 13)), some (.inl l2)] [] 0 0 V := by
  refine ze_iload_n (pc := 23) zr_43_23 rfl ?_
  refine ze_aload_n (pc := 24) zr_43_24 rfl ?_
  refine ze_getfield (pc := 25) (v := .inl (V 89 8)) zr_43_25 rfl rfl ?_
  refine zq_icmp_ge (pc := 28) (t := 58) zr_43_28 (by decide) (z_toif h) (fun h => ?_) (fun h => ?_)
  · refine ze_aload_n (pc := 31) zr_43_31 rfl ?_
    refine ze_getfield (pc := 32) (v := .inr (.inr ((V 89 5).toNat))) zr_43_32 rfl rfl ?_
    refine ze_iload_n (pc := 35) zr_43_35 rfl ?_
    refine z_gk h (fun k36 h => ?_)
    refine z_gk h (fun g36 h => ?_)
    refine zl_ialoadv (pc := 36) zr_43_36 k36 g36 h (fun x36 h => ?_)
    refine ze_aload_n (pc := 37) zr_43_37 rfl ?_
    refine ze_iload_n (pc := 38) zr_43_38 rfl ?_
    refine ze_aload_n (pc := 39) zr_43_39 rfl ?_
    refine ze_getfield (pc := 40) (v := .inl (V 89 7)) zr_43_40 rfl rfl ?_
    refine ze_isub (pc := 43) zr_43_43 ?_
    refine zq_callV1 (pc := 44) (as := [.inr (.inr 13), .inl (z_sub l2 (V 89 7))]) (r := [.inl x36]) (kc2 := 0) (ks2 := 0) zr_43_44 rfl (by decide) rfl rfl rfl rfl ⟨rfl, rfl⟩ ⟨rfl, rfl, rfl⟩ h (fun z2401 V2401 h => ?_)
    refine zq_icmp_eq (pc := 47) (t := 52) zr_43_47 (by decide) (z_toif h) (fun h => ?_) (fun h => ?_)
    · refine zq_iinc (pc := 52) (ls2 := [some (.inr (.inr 89)), some (.inr (.inr 13)), some (.inl (z_add l2 1))]) zr_43_52 rfl rfl rfl ?_
      refine ze_goto (pc := 55) (t := 23) zr_43_55 (by decide) ?_
      exact h
    · refine ze_iconst (pc := 50) zr_43_50 (by decide) ?_
      exact zq_ret4 (pc := 51) zr_43_51 rfl (by decide) h
  · refine ze_iconst (pc := 58) zr_43_58 (by decide) ?_
    exact zq_ret4 (pc := 59) zr_43_59 rfl (by decide) h
theorem zb249_13 {d : Nat} {Q : Int → z_M → Prop}  {V : z_M}
    (h : z_MS d 251 true [.inr (.inr 13)] V (fun z1 V1 => Q (z_shr 3 z1) V1)) :
    z_MS (d + 1) 249 true [.inr (.inr 13)] V Q := by
  show z_Ex (z_MS d) 249 Q true 0 [some (.inr (.inr 13))] [] 0 0 V
  refine ze_aload_n (pc := 0) zr_249_0 rfl ?_
  refine ze_getfield (pc := 1) (v := .inr (.inr 27)) zr_249_1 rfl rfl ?_
  refine ze_length (pc := 4) (z := 3) zr_249_4 (by decide) rfl ?_
  refine ze_aload_n (pc := 5) zr_249_5 rfl ?_
  refine zq_callV1 (pc := 6) (as := [.inr (.inr 13)]) (r := [.inl 3]) (kc2 := 0) (ks2 := 0) zr_249_6 rfl (by decide) rfl rfl rfl rfl ⟨rfl, rfl⟩ ⟨rfl, rfl, rfl⟩ h (fun z1 V1 h => ?_)
  refine ze_ishr (pc := 9) zr_249_9 ?_
  exact zq_ret1 (pc := 10) zr_249_10 rfl h
theorem zb250_13 {d : Nat} {Q : Int → z_M → Prop} (a0 : Int) {V : z_M}
    (h : z_MS d 252 true [.inr (.inr 13)] V (fun z1 V1 => zI (z1 = 0) (False) (z_MS d 254 true [.inr (.inr 27), .inl a0] V1 (fun z2 V2 => zGu (0 ≤ z2 ∧ z2 < 65536) (Q z2 V2))))) :
    z_MS (d + 1) 250 true [.inr (.inr 13), .inl a0] V Q := by
  show z_Ex (z_MS d) 250 Q true 0 [some (.inr (.inr 13)), some (.inl a0)] [] 0 0 V
  refine ze_aload_n (pc := 0) zr_250_0 rfl ?_
  refine zq_callV1 (pc := 1) (as := [.inr (.inr 13)]) (r := []) (kc2 := 0) (ks2 := 0) zr_250_1 rfl (by decide) rfl rfl rfl rfl ⟨rfl, rfl⟩ ⟨rfl, rfl, rfl⟩ h (fun z1 V1 h => ?_)
  refine zq_if_eq (pc := 4) (t := 16) zr_250_4 (by decide) (z_toif h) (fun h => ?_) (fun h => ?_)
  · refine ze_aload_n (pc := 16) zr_250_16 rfl ?_
    refine ze_getfield (pc := 17) (v := .inr (.inr 27)) zr_250_17 rfl rfl ?_
    refine ze_iload_n (pc := 20) zr_250_20 rfl ?_
    exact h.elim
  · refine ze_aload_n (pc := 7) zr_250_7 rfl ?_
    refine ze_getfield (pc := 8) (v := .inr (.inr 27)) zr_250_8 rfl rfl ?_
    refine ze_iload_n (pc := 11) zr_250_11 rfl ?_
    refine zq_callS1 (pc := 12) (as := [.inr (.inr 27), .inl a0]) (r := []) (kc2 := 0) (ks2 := 0) zr_250_12 rfl rfl rfl rfl ⟨rfl, rfl⟩ ⟨rfl, rfl, rfl⟩ h (fun z2 V2 h => ?_)
    refine z_gk h (fun g15 h => ?_)
    exact zq_ret5 (pc := 15) zr_250_15 rfl g15 h
theorem zb251_13 {d : Nat} {Q : Int → z_M → Prop}  {V : z_M}
    (h : zGu (-128 ≤ (if (1 : Int) = 0 then 1 else V 13 1) ∧ (if (1 : Int) = 0 then 1 else V 13 1) < 128) (Q (if (1 : Int) = 0 then 1 else V 13 1) V)) :
    z_MS (d + 1) 251 true [.inr (.inr 13)] V Q := by
  show z_Ex (z_MS d) 251 Q true 0 [some (.inr (.inr 13))] [] 0 0 V
  refine ze_compact (pc := 0) zr_251_0 rfl ?_
  have j3 : z_Ex (z_MS d) 251 Q true 14 [some (.inr (.inr 13))] [.inl (if (1 : Int) = 0 then 1 else V 13 1)] 0 0 V := by
    refine z_gk h (fun g14 h => ?_)
    exact zq_ret6 (pc := 14) zr_251_14 rfl g14 h
  refine ze_if_eq (pc := 3) (t := 13) zr_251_3 (by decide) (fun hc => ?_) (fun hc => ?_)
  · rw [if_pos (show (1 : Int) = 0 from hc)] at j3
    refine ze_iconst (pc := 13) zr_251_13 (by decide) ?_
    exact j3
  · rw [if_neg (show ¬ ((1 : Int) = 0) from hc)] at j3
    refine ze_aload_n (pc := 6) zr_251_6 rfl ?_
    refine ze_getfield (pc := 7) (v := .inl (V 13 1)) zr_251_7 rfl rfl ?_
    refine ze_goto (pc := 10) (t := 14) zr_251_10 (by decide) ?_
    exact j3
theorem zb252_13 {d : Nat} {Q : Int → z_M → Prop}  {V : z_M}
    (h : Q (if (1 : Int) = 0 then 0 else (if (V 13 1) = 0 then 1 else 0)) V) :
    z_MS (d + 1) 252 true [.inr (.inr 13)] V Q := by
  show z_Ex (z_MS d) 252 Q true 0 [some (.inr (.inr 13))] [] 0 0 V
  refine ze_compact (pc := 0) zr_252_0 rfl ?_
  have j3 : z_Ex (z_MS d) 252 Q true 18 [some (.inr (.inr 13))] [.inl (if (1 : Int) = 0 then 0 else (if (V 13 1) = 0 then 1 else 0))] 0 0 V := by
    exact zq_ret4 (pc := 18) zr_252_18 rfl (by (repeat' split) <;> decide) h
  refine ze_if_eq (pc := 3) (t := 17) zr_252_3 (by decide) (fun hc => ?_) (fun hc => ?_)
  · rw [if_pos (show (1 : Int) = 0 from hc)] at j3
    refine ze_iconst (pc := 17) zr_252_17 (by decide) ?_
    exact j3
  · rw [if_neg (show ¬ ((1 : Int) = 0) from hc)] at j3
    refine ze_aload_n (pc := 6) zr_252_6 rfl ?_
    refine ze_getfield (pc := 7) (v := .inl (V 13 1)) zr_252_7 rfl rfl ?_
    refine ze_if_ne (pc := 10) (t := 17) zr_252_10 (by decide) (fun hc => ?_) (fun hc => ?_)
    · rw [if_pos (show (V 13 1) = 0 from hc)] at j3
      refine ze_iconst (pc := 13) zr_252_13 (by decide) ?_
      refine ze_goto (pc := 14) (t := 18) zr_252_14 (by decide) ?_
      exact j3
    · rw [if_neg (show ¬ ((V 13 1) = 0) from hc)] at j3
      refine ze_iconst (pc := 17) zr_252_17 (by decide) ?_
      exact j3
theorem zb254_27 {d : Nat} {Q : Int → z_M → Prop} (a1 : Int) {V : z_M}
    (h : z_MS d 253 true [.inl a1, .inl 3] V (fun z1 V1 => zGu (0 ≤ a1 ∧ a1 < 3) (∀ x8 : Int, x8 = V1 27 a1.toNat → zGu (0 ≤ (z_i2c (z_and x8 255)) ∧ (z_i2c (z_and x8 255)) < 65536) (Q (z_i2c (z_and x8 255)) V1)))) :
    z_MS (d + 1) 254 true [.inr (.inr 27), .inl a1] V Q := by
  show z_Ex (z_MS d) 254 Q true 0 [some (.inr (.inr 27)), some (.inl a1)] [] 0 0 V
  refine ze_iload_n (pc := 0) zr_254_0 rfl ?_
  refine ze_aload_n (pc := 1) zr_254_1 rfl ?_
  refine ze_length (pc := 2) (z := 3) zr_254_2 (by decide) rfl ?_
  refine zq_callS0 (pc := 3) (as := [.inl a1, .inl 3]) (r := []) (kc2 := 0) (ks2 := 0) zr_254_3 rfl rfl rfl rfl ⟨rfl, rfl⟩ rfl h (fun z1 V1 h => ?_)
  refine ze_aload_n (pc := 6) zr_254_6 rfl ?_
  refine ze_iload_n (pc := 7) zr_254_7 rfl ?_
  refine z_gk h (fun g8 h => ?_)
  refine zl_baload (pc := 8) zr_254_8 (by decide) rfl g8 h (fun x8 h => ?_)
  refine ze_sipush (pc := 9) zr_254_9 (by decide) ?_
  refine ze_iand (pc := 12) zr_254_12 ?_
  refine ze_i2c (pc := 13) zr_254_13 ?_
  refine z_gk h (fun g14 h => ?_)
  exact zq_ret5 (pc := 14) zr_254_14 rfl g14 h
theorem zb43_89_14 {d : Nat} {Q : Int → z_M → Prop}  {V : z_M}
    (h : z_MS d 249 true [.inr (.inr 14)] V (fun z1 V1 => zI ((z_sub (V 89 8) (V 89 7)) = z1) (z_Ex (z_MS d) 43 Q true 23 [some (.inr (.inr 89)), some (.inr (.inr 14)), some (.inl (V1 89 7))] [] 0 0 V1) (Q 0 V1))) :
    z_MS (d + 1) 43 true [.inr (.inr 89), .inr (.inr 14)] V Q := by
  show z_Ex (z_MS d) 43 Q true 0 [some (.inr (.inr 89)), some (.inr (.inr 14)), none] [] 0 0 V
  refine ze_aload_n (pc := 0) zr_43_0 rfl ?_
  refine ze_getfield (pc := 1) (v := .inl (V 89 8)) zr_43_1 rfl rfl ?_
  refine ze_aload_n (pc := 4) zr_43_4 rfl ?_
  refine ze_getfield (pc := 5) (v := .inl (V 89 7)) zr_43_5 rfl rfl ?_
  refine ze_isub (pc := 8) zr_43_8 ?_
  refine ze_aload_n (pc := 9) zr_43_9 rfl ?_
  refine zq_callV1 (pc := 10) (as := [.inr (.inr 14)]) (r := [.inl (z_sub (V 89 8) (V 89 7))]) (kc2 := 0) (ks2 := 0) zr_43_10 rfl (by decide) rfl rfl rfl rfl ⟨rfl, rfl⟩ ⟨rfl, rfl, rfl⟩ h (fun z1 V1 h => ?_)
  refine zq_icmp_eq (pc := 13) (t := 18) zr_43_13 (by decide) (z_toif h) (fun h => ?_) (fun h => ?_)
  · refine ze_aload_n (pc := 18) zr_43_18 rfl ?_
    refine ze_getfield (pc := 19) (v := .inl (V1 89 7)) zr_43_19 rfl rfl ?_
    refine zq_istore_n (pc := 22) (ls2 := [some (.inr (.inr 89)), some (.inr (.inr 14)), some (.inl (V1 89 7))]) zr_43_22 rfl rfl ?_
    exact h
  · refine ze_iconst (pc := 16) zr_43_16 (by decide) ?_
    exact zq_ret4 (pc := 17) zr_43_17 rfl (by decide) h
theorem zb43_89_14_p23 {d : Nat} {Q : Int → z_M → Prop} (l2 : Int) {V : z_M}
    (h : zI (l2 < (V 89 8)) (zGu (z_kd ((V 89 5).toNat) = 101) (zGu (0 ≤ l2 ∧ l2 < z_len' V ((V 89 5).toNat)) (∀ x36 : Int, x36 = V ((V 89 5).toNat) l2.toNat → z_MS d 250 true [.inr (.inr 14), .inl (z_sub l2 (V 89 7))] V (fun z2401 V2401 => zI (x36 = z2401) (z_Ex (z_MS d) 43 Q true 23 [some (.inr (.inr 89)), some (.inr (.inr 14)), some (.inl (z_add l2 1))] [] 0 0 V2401) (Q 0 V2401))))) (Q 1 V)) :
    z_Ex (z_MS d) 43 Q true 23 [some (.inr (.inr 89)), some (.inr (.inr 14)), some (.inl l2)] [] 0 0 V := by
  refine ze_iload_n (pc := 23) zr_43_23 rfl ?_
  refine ze_aload_n (pc := 24) zr_43_24 rfl ?_
  refine ze_getfield (pc := 25) (v := .inl (V 89 8)) zr_43_25 rfl rfl ?_
  refine zq_icmp_ge (pc := 28) (t := 58) zr_43_28 (by decide) (z_toif h) (fun h => ?_) (fun h => ?_)
  · refine ze_aload_n (pc := 31) zr_43_31 rfl ?_
    refine ze_getfield (pc := 32) (v := .inr (.inr ((V 89 5).toNat))) zr_43_32 rfl rfl ?_
    refine ze_iload_n (pc := 35) zr_43_35 rfl ?_
    refine z_gk h (fun k36 h => ?_)
    refine z_gk h (fun g36 h => ?_)
    refine zl_ialoadv (pc := 36) zr_43_36 k36 g36 h (fun x36 h => ?_)
    refine ze_aload_n (pc := 37) zr_43_37 rfl ?_
    refine ze_iload_n (pc := 38) zr_43_38 rfl ?_
    refine ze_aload_n (pc := 39) zr_43_39 rfl ?_
    refine ze_getfield (pc := 40) (v := .inl (V 89 7)) zr_43_40 rfl rfl ?_
    refine ze_isub (pc := 43) zr_43_43 ?_
    refine zq_callV1 (pc := 44) (as := [.inr (.inr 14), .inl (z_sub l2 (V 89 7))]) (r := [.inl x36]) (kc2 := 0) (ks2 := 0) zr_43_44 rfl (by decide) rfl rfl rfl rfl ⟨rfl, rfl⟩ ⟨rfl, rfl, rfl⟩ h (fun z2401 V2401 h => ?_)
    refine zq_icmp_eq (pc := 47) (t := 52) zr_43_47 (by decide) (z_toif h) (fun h => ?_) (fun h => ?_)
    · refine zq_iinc (pc := 52) (ls2 := [some (.inr (.inr 89)), some (.inr (.inr 14)), some (.inl (z_add l2 1))]) zr_43_52 rfl rfl rfl ?_
      refine ze_goto (pc := 55) (t := 23) zr_43_55 (by decide) ?_
      exact h
    · refine ze_iconst (pc := 50) zr_43_50 (by decide) ?_
      exact zq_ret4 (pc := 51) zr_43_51 rfl (by decide) h
  · refine ze_iconst (pc := 58) zr_43_58 (by decide) ?_
    exact zq_ret4 (pc := 59) zr_43_59 rfl (by decide) h
theorem zb249_14 {d : Nat} {Q : Int → z_M → Prop}  {V : z_M}
    (h : z_MS d 251 true [.inr (.inr 14)] V (fun z1 V1 => Q (z_shr 6 z1) V1)) :
    z_MS (d + 1) 249 true [.inr (.inr 14)] V Q := by
  show z_Ex (z_MS d) 249 Q true 0 [some (.inr (.inr 14))] [] 0 0 V
  refine ze_aload_n (pc := 0) zr_249_0 rfl ?_
  refine ze_getfield (pc := 1) (v := .inr (.inr 28)) zr_249_1 rfl rfl ?_
  refine ze_length (pc := 4) (z := 6) zr_249_4 (by decide) rfl ?_
  refine ze_aload_n (pc := 5) zr_249_5 rfl ?_
  refine zq_callV1 (pc := 6) (as := [.inr (.inr 14)]) (r := [.inl 6]) (kc2 := 0) (ks2 := 0) zr_249_6 rfl (by decide) rfl rfl rfl rfl ⟨rfl, rfl⟩ ⟨rfl, rfl, rfl⟩ h (fun z1 V1 h => ?_)
  refine ze_ishr (pc := 9) zr_249_9 ?_
  exact zq_ret1 (pc := 10) zr_249_10 rfl h
theorem zb250_14 {d : Nat} {Q : Int → z_M → Prop} (a0 : Int) {V : z_M}
    (h : z_MS d 252 true [.inr (.inr 14)] V (fun z1 V1 => zI (z1 = 0) (False) (z_MS d 254 true [.inr (.inr 28), .inl a0] V1 (fun z2 V2 => zGu (0 ≤ z2 ∧ z2 < 65536) (Q z2 V2))))) :
    z_MS (d + 1) 250 true [.inr (.inr 14), .inl a0] V Q := by
  show z_Ex (z_MS d) 250 Q true 0 [some (.inr (.inr 14)), some (.inl a0)] [] 0 0 V
  refine ze_aload_n (pc := 0) zr_250_0 rfl ?_
  refine zq_callV1 (pc := 1) (as := [.inr (.inr 14)]) (r := []) (kc2 := 0) (ks2 := 0) zr_250_1 rfl (by decide) rfl rfl rfl rfl ⟨rfl, rfl⟩ ⟨rfl, rfl, rfl⟩ h (fun z1 V1 h => ?_)
  refine zq_if_eq (pc := 4) (t := 16) zr_250_4 (by decide) (z_toif h) (fun h => ?_) (fun h => ?_)
  · refine ze_aload_n (pc := 16) zr_250_16 rfl ?_
    refine ze_getfield (pc := 17) (v := .inr (.inr 28)) zr_250_17 rfl rfl ?_
    refine ze_iload_n (pc := 20) zr_250_20 rfl ?_
    exact h.elim
  · refine ze_aload_n (pc := 7) zr_250_7 rfl ?_
    refine ze_getfield (pc := 8) (v := .inr (.inr 28)) zr_250_8 rfl rfl ?_
    refine ze_iload_n (pc := 11) zr_250_11 rfl ?_
    refine zq_callS1 (pc := 12) (as := [.inr (.inr 28), .inl a0]) (r := []) (kc2 := 0) (ks2 := 0) zr_250_12 rfl rfl rfl rfl ⟨rfl, rfl⟩ ⟨rfl, rfl, rfl⟩ h (fun z2 V2 h => ?_)
    refine z_gk h (fun g15 h => ?_)
    exact zq_ret5 (pc := 15) zr_250_15 rfl g15 h
theorem zb251_14 {d : Nat} {Q : Int → z_M → Prop}  {V : z_M}
    (h : zGu (-128 ≤ (if (1 : Int) = 0 then 1 else V 14 1) ∧ (if (1 : Int) = 0 then 1 else V 14 1) < 128) (Q (if (1 : Int) = 0 then 1 else V 14 1) V)) :
    z_MS (d + 1) 251 true [.inr (.inr 14)] V Q := by
  show z_Ex (z_MS d) 251 Q true 0 [some (.inr (.inr 14))] [] 0 0 V
  refine ze_compact (pc := 0) zr_251_0 rfl ?_
  have j3 : z_Ex (z_MS d) 251 Q true 14 [some (.inr (.inr 14))] [.inl (if (1 : Int) = 0 then 1 else V 14 1)] 0 0 V := by
    refine z_gk h (fun g14 h => ?_)
    exact zq_ret6 (pc := 14) zr_251_14 rfl g14 h
  refine ze_if_eq (pc := 3) (t := 13) zr_251_3 (by decide) (fun hc => ?_) (fun hc => ?_)
  · rw [if_pos (show (1 : Int) = 0 from hc)] at j3
    refine ze_iconst (pc := 13) zr_251_13 (by decide) ?_
    exact j3
  · rw [if_neg (show ¬ ((1 : Int) = 0) from hc)] at j3
    refine ze_aload_n (pc := 6) zr_251_6 rfl ?_
    refine ze_getfield (pc := 7) (v := .inl (V 14 1)) zr_251_7 rfl rfl ?_
    refine ze_goto (pc := 10) (t := 14) zr_251_10 (by decide) ?_
    exact j3
theorem zb252_14 {d : Nat} {Q : Int → z_M → Prop}  {V : z_M}
    (h : Q (if (1 : Int) = 0 then 0 else (if (V 14 1) = 0 then 1 else 0)) V) :
    z_MS (d + 1) 252 true [.inr (.inr 14)] V Q := by
  show z_Ex (z_MS d) 252 Q true 0 [some (.inr (.inr 14))] [] 0 0 V
  refine ze_compact (pc := 0) zr_252_0 rfl ?_
  have j3 : z_Ex (z_MS d) 252 Q true 18 [some (.inr (.inr 14))] [.inl (if (1 : Int) = 0 then 0 else (if (V 14 1) = 0 then 1 else 0))] 0 0 V := by
    exact zq_ret4 (pc := 18) zr_252_18 rfl (by (repeat' split) <;> decide) h
  refine ze_if_eq (pc := 3) (t := 17) zr_252_3 (by decide) (fun hc => ?_) (fun hc => ?_)
  · rw [if_pos (show (1 : Int) = 0 from hc)] at j3
    refine ze_iconst (pc := 17) zr_252_17 (by decide) ?_
    exact j3
  · rw [if_neg (show ¬ ((1 : Int) = 0) from hc)] at j3
    refine ze_aload_n (pc := 6) zr_252_6 rfl ?_
    refine ze_getfield (pc := 7) (v := .inl (V 14 1)) zr_252_7 rfl rfl ?_
    refine ze_if_ne (pc := 10) (t := 17) zr_252_10 (by decide) (fun hc => ?_) (fun hc => ?_)
    · rw [if_pos (show (V 14 1) = 0 from hc)] at j3
      refine ze_iconst (pc := 13) zr_252_13 (by decide) ?_
      refine ze_goto (pc := 14) (t := 18) zr_252_14 (by decide) ?_
      exact j3
    · rw [if_neg (show ¬ ((V 14 1) = 0) from hc)] at j3
      refine ze_iconst (pc := 17) zr_252_17 (by decide) ?_
      exact j3
theorem zb254_28 {d : Nat} {Q : Int → z_M → Prop} (a1 : Int) {V : z_M}
    (h : z_MS d 253 true [.inl a1, .inl 6] V (fun z1 V1 => zGu (0 ≤ a1 ∧ a1 < 6) (∀ x8 : Int, x8 = V1 28 a1.toNat → zGu (0 ≤ (z_i2c (z_and x8 255)) ∧ (z_i2c (z_and x8 255)) < 65536) (Q (z_i2c (z_and x8 255)) V1)))) :
    z_MS (d + 1) 254 true [.inr (.inr 28), .inl a1] V Q := by
  show z_Ex (z_MS d) 254 Q true 0 [some (.inr (.inr 28)), some (.inl a1)] [] 0 0 V
  refine ze_iload_n (pc := 0) zr_254_0 rfl ?_
  refine ze_aload_n (pc := 1) zr_254_1 rfl ?_
  refine ze_length (pc := 2) (z := 6) zr_254_2 (by decide) rfl ?_
  refine zq_callS0 (pc := 3) (as := [.inl a1, .inl 6]) (r := []) (kc2 := 0) (ks2 := 0) zr_254_3 rfl rfl rfl rfl ⟨rfl, rfl⟩ rfl h (fun z1 V1 h => ?_)
  refine ze_aload_n (pc := 6) zr_254_6 rfl ?_
  refine ze_iload_n (pc := 7) zr_254_7 rfl ?_
  refine z_gk h (fun g8 h => ?_)
  refine zl_baload (pc := 8) zr_254_8 (by decide) rfl g8 h (fun x8 h => ?_)
  refine ze_sipush (pc := 9) zr_254_9 (by decide) ?_
  refine ze_iand (pc := 12) zr_254_12 ?_
  refine ze_i2c (pc := 13) zr_254_13 ?_
  refine z_gk h (fun g14 h => ?_)
  exact zq_ret5 (pc := 14) zr_254_14 rfl g14 h
theorem zb43_89_15 {d : Nat} {Q : Int → z_M → Prop}  {V : z_M}
    (h : z_MS d 249 true [.inr (.inr 15)] V (fun z1 V1 => zI ((z_sub (V 89 8) (V 89 7)) = z1) (z_Ex (z_MS d) 43 Q true 23 [some (.inr (.inr 89)), some (.inr (.inr 15)), some (.inl (V1 89 7))] [] 0 0 V1) (Q 0 V1))) :
    z_MS (d + 1) 43 true [.inr (.inr 89), .inr (.inr 15)] V Q := by
  show z_Ex (z_MS d) 43 Q true 0 [some (.inr (.inr 89)), some (.inr (.inr 15)), none] [] 0 0 V
  refine ze_aload_n (pc := 0) zr_43_0 rfl ?_
  refine ze_getfield (pc := 1) (v := .inl (V 89 8)) zr_43_1 rfl rfl ?_
  refine ze_aload_n (pc := 4) zr_43_4 rfl ?_
  refine ze_getfield (pc := 5) (v := .inl (V 89 7)) zr_43_5 rfl rfl ?_
  refine ze_isub (pc := 8) zr_43_8 ?_
  refine ze_aload_n (pc := 9) zr_43_9 rfl ?_
  refine zq_callV1 (pc := 10) (as := [.inr (.inr 15)]) (r := [.inl (z_sub (V 89 8) (V 89 7))]) (kc2 := 0) (ks2 := 0) zr_43_10 rfl (by decide) rfl rfl rfl rfl ⟨rfl, rfl⟩ ⟨rfl, rfl, rfl⟩ h (fun z1 V1 h => ?_)
  refine zq_icmp_eq (pc := 13) (t := 18) zr_43_13 (by decide) (z_toif h) (fun h => ?_) (fun h => ?_)
  · refine ze_aload_n (pc := 18) zr_43_18 rfl ?_
    refine ze_getfield (pc := 19) (v := .inl (V1 89 7)) zr_43_19 rfl rfl ?_
    refine zq_istore_n (pc := 22) (ls2 := [some (.inr (.inr 89)), some (.inr (.inr 15)), some (.inl (V1 89 7))]) zr_43_22 rfl rfl ?_
    exact h
  · refine ze_iconst (pc := 16) zr_43_16 (by decide) ?_
    exact zq_ret4 (pc := 17) zr_43_17 rfl (by decide) h
theorem zb43_89_15_p23 {d : Nat} {Q : Int → z_M → Prop} (l2 : Int) {V : z_M}
    (h : zI (l2 < (V 89 8)) (zGu (z_kd ((V 89 5).toNat) = 101) (zGu (0 ≤ l2 ∧ l2 < z_len' V ((V 89 5).toNat)) (∀ x36 : Int, x36 = V ((V 89 5).toNat) l2.toNat → z_MS d 250 true [.inr (.inr 15), .inl (z_sub l2 (V 89 7))] V (fun z2401 V2401 => zI (x36 = z2401) (z_Ex (z_MS d) 43 Q true 23 [some (.inr (.inr 89)), some (.inr (.inr 15)), some (.inl (z_add l2 1))] [] 0 0 V2401) (Q 0 V2401))))) (Q 1 V)) :
    z_Ex (z_MS d) 43 Q true 23 [some (.inr (.inr 89)), some (.inr (.inr 15)), some (.inl l2)] [] 0 0 V := by
  refine ze_iload_n (pc := 23) zr_43_23 rfl ?_
  refine ze_aload_n (pc := 24) zr_43_24 rfl ?_
  refine ze_getfield (pc := 25) (v := .inl (V 89 8)) zr_43_25 rfl rfl ?_
  refine zq_icmp_ge (pc := 28) (t := 58) zr_43_28 (by decide) (z_toif h) (fun h => ?_) (fun h => ?_)
  · refine ze_aload_n (pc := 31) zr_43_31 rfl ?_
    refine ze_getfield (pc := 32) (v := .inr (.inr ((V 89 5).toNat))) zr_43_32 rfl rfl ?_
    refine ze_iload_n (pc := 35) zr_43_35 rfl ?_
    refine z_gk h (fun k36 h => ?_)
    refine z_gk h (fun g36 h => ?_)
    refine zl_ialoadv (pc := 36) zr_43_36 k36 g36 h (fun x36 h => ?_)
    refine ze_aload_n (pc := 37) zr_43_37 rfl ?_
    refine ze_iload_n (pc := 38) zr_43_38 rfl ?_
    refine ze_aload_n (pc := 39) zr_43_39 rfl ?_
    refine ze_getfield (pc := 40) (v := .inl (V 89 7)) zr_43_40 rfl rfl ?_
    refine ze_isub (pc := 43) zr_43_43 ?_
    refine zq_callV1 (pc := 44) (as := [.inr (.inr 15), .inl (z_sub l2 (V 89 7))]) (r := [.inl x36]) (kc2 := 0) (ks2 := 0) zr_43_44 rfl (by decide) rfl rfl rfl rfl ⟨rfl, rfl⟩ ⟨rfl, rfl, rfl⟩ h (fun z2401 V2401 h => ?_)
    refine zq_icmp_eq (pc := 47) (t := 52) zr_43_47 (by decide) (z_toif h) (fun h => ?_) (fun h => ?_)
    · refine zq_iinc (pc := 52) (ls2 := [some (.inr (.inr 89)), some (.inr (.inr 15)), some (.inl (z_add l2 1))]) zr_43_52 rfl rfl rfl ?_
      refine ze_goto (pc := 55) (t := 23) zr_43_55 (by decide) ?_
      exact h
    · refine ze_iconst (pc := 50) zr_43_50 (by decide) ?_
      exact zq_ret4 (pc := 51) zr_43_51 rfl (by decide) h
  · refine ze_iconst (pc := 58) zr_43_58 (by decide) ?_
    exact zq_ret4 (pc := 59) zr_43_59 rfl (by decide) h
theorem zb249_15 {d : Nat} {Q : Int → z_M → Prop}  {V : z_M}
    (h : z_MS d 251 true [.inr (.inr 15)] V (fun z1 V1 => Q (z_shr 5 z1) V1)) :
    z_MS (d + 1) 249 true [.inr (.inr 15)] V Q := by
  show z_Ex (z_MS d) 249 Q true 0 [some (.inr (.inr 15))] [] 0 0 V
  refine ze_aload_n (pc := 0) zr_249_0 rfl ?_
  refine ze_getfield (pc := 1) (v := .inr (.inr 29)) zr_249_1 rfl rfl ?_
  refine ze_length (pc := 4) (z := 5) zr_249_4 (by decide) rfl ?_
  refine ze_aload_n (pc := 5) zr_249_5 rfl ?_
  refine zq_callV1 (pc := 6) (as := [.inr (.inr 15)]) (r := [.inl 5]) (kc2 := 0) (ks2 := 0) zr_249_6 rfl (by decide) rfl rfl rfl rfl ⟨rfl, rfl⟩ ⟨rfl, rfl, rfl⟩ h (fun z1 V1 h => ?_)
  refine ze_ishr (pc := 9) zr_249_9 ?_
  exact zq_ret1 (pc := 10) zr_249_10 rfl h
theorem zb250_15 {d : Nat} {Q : Int → z_M → Prop} (a0 : Int) {V : z_M}
    (h : z_MS d 252 true [.inr (.inr 15)] V (fun z1 V1 => zI (z1 = 0) (False) (z_MS d 254 true [.inr (.inr 29), .inl a0] V1 (fun z2 V2 => zGu (0 ≤ z2 ∧ z2 < 65536) (Q z2 V2))))) :
    z_MS (d + 1) 250 true [.inr (.inr 15), .inl a0] V Q := by
  show z_Ex (z_MS d) 250 Q true 0 [some (.inr (.inr 15)), some (.inl a0)] [] 0 0 V
  refine ze_aload_n (pc := 0) zr_250_0 rfl ?_
  refine zq_callV1 (pc := 1) (as := [.inr (.inr 15)]) (r := []) (kc2 := 0) (ks2 := 0) zr_250_1 rfl (by decide) rfl rfl rfl rfl ⟨rfl, rfl⟩ ⟨rfl, rfl, rfl⟩ h (fun z1 V1 h => ?_)
  refine zq_if_eq (pc := 4) (t := 16) zr_250_4 (by decide) (z_toif h) (fun h => ?_) (fun h => ?_)
  · refine ze_aload_n (pc := 16) zr_250_16 rfl ?_
    refine ze_getfield (pc := 17) (v := .inr (.inr 29)) zr_250_17 rfl rfl ?_
    refine ze_iload_n (pc := 20) zr_250_20 rfl ?_
    exact h.elim
  · refine ze_aload_n (pc := 7) zr_250_7 rfl ?_
    refine ze_getfield (pc := 8) (v := .inr (.inr 29)) zr_250_8 rfl rfl ?_
    refine ze_iload_n (pc := 11) zr_250_11 rfl ?_
    refine zq_callS1 (pc := 12) (as := [.inr (.inr 29), .inl a0]) (r := []) (kc2 := 0) (ks2 := 0) zr_250_12 rfl rfl rfl rfl ⟨rfl, rfl⟩ ⟨rfl, rfl, rfl⟩ h (fun z2 V2 h => ?_)
    refine z_gk h (fun g15 h => ?_)
    exact zq_ret5 (pc := 15) zr_250_15 rfl g15 h
theorem zb251_15 {d : Nat} {Q : Int → z_M → Prop}  {V : z_M}
    (h : zGu (-128 ≤ (if (1 : Int) = 0 then 1 else V 15 1) ∧ (if (1 : Int) = 0 then 1 else V 15 1) < 128) (Q (if (1 : Int) = 0 then 1 else V 15 1) V)) :
    z_MS (d + 1) 251 true [.inr (.inr 15)] V Q := by
  show z_Ex (z_MS d) 251 Q true 0 [some (.inr (.inr 15))] [] 0 0 V
  refine ze_compact (pc := 0) zr_251_0 rfl ?_
  have j3 : z_Ex (z_MS d) 251 Q true 14 [some (.inr (.inr 15))] [.inl (if (1 : Int) = 0 then 1 else V 15 1)] 0 0 V := by
    refine z_gk h (fun g14 h => ?_)
    exact zq_ret6 (pc := 14) zr_251_14 rfl g14 h
  refine ze_if_eq (pc := 3) (t := 13) zr_251_3 (by decide) (fun hc => ?_) (fun hc => ?_)
  · rw [if_pos (show (1 : Int) = 0 from hc)] at j3
    refine ze_iconst (pc := 13) zr_251_13 (by decide) ?_
    exact j3
  · rw [if_neg (show ¬ ((1 : Int) = 0) from hc)] at j3
    refine ze_aload_n (pc := 6) zr_251_6 rfl ?_
    refine ze_getfield (pc := 7) (v := .inl (V 15 1)) zr_251_7 rfl rfl ?_
    refine ze_goto (pc := 10) (t := 14) zr_251_10 (by decide) ?_
    exact j3
theorem zb252_15 {d : Nat} {Q : Int → z_M → Prop}  {V : z_M}
    (h : Q (if (1 : Int) = 0 then 0 else (if (V 15 1) = 0 then 1 else 0)) V) :
    z_MS (d + 1) 252 true [.inr (.inr 15)] V Q := by
  show z_Ex (z_MS d) 252 Q true 0 [some (.inr (.inr 15))] [] 0 0 V
  refine ze_compact (pc := 0) zr_252_0 rfl ?_
  have j3 : z_Ex (z_MS d) 252 Q true 18 [some (.inr (.inr 15))] [.inl (if (1 : Int) = 0 then 0 else (if (V 15 1) = 0 then 1 else 0))] 0 0 V := by
    exact zq_ret4 (pc := 18) zr_252_18 rfl (by (repeat' split) <;> decide) h
  refine ze_if_eq (pc := 3) (t := 17) zr_252_3 (by decide) (fun hc => ?_) (fun hc => ?_)
  · rw [if_pos (show (1 : Int) = 0 from hc)] at j3
    refine ze_iconst (pc := 17) zr_252_17 (by decide) ?_
    exact j3
  · rw [if_neg (show ¬ ((1 : Int) = 0) from hc)] at j3
    refine ze_aload_n (pc := 6) zr_252_6 rfl ?_
    refine ze_getfield (pc := 7) (v := .inl (V 15 1)) zr_252_7 rfl rfl ?_
    refine ze_if_ne (pc := 10) (t := 17) zr_252_10 (by decide) (fun hc => ?_) (fun hc => ?_)
    · rw [if_pos (show (V 15 1) = 0 from hc)] at j3
      refine ze_iconst (pc := 13) zr_252_13 (by decide) ?_
      refine ze_goto (pc := 14) (t := 18) zr_252_14 (by decide) ?_
      exact j3
    · rw [if_neg (show ¬ ((V 15 1) = 0) from hc)] at j3
      refine ze_iconst (pc := 17) zr_252_17 (by decide) ?_
      exact j3
theorem zb254_29 {d : Nat} {Q : Int → z_M → Prop} (a1 : Int) {V : z_M}
    (h : z_MS d 253 true [.inl a1, .inl 5] V (fun z1 V1 => zGu (0 ≤ a1 ∧ a1 < 5) (∀ x8 : Int, x8 = V1 29 a1.toNat → zGu (0 ≤ (z_i2c (z_and x8 255)) ∧ (z_i2c (z_and x8 255)) < 65536) (Q (z_i2c (z_and x8 255)) V1)))) :
    z_MS (d + 1) 254 true [.inr (.inr 29), .inl a1] V Q := by
  show z_Ex (z_MS d) 254 Q true 0 [some (.inr (.inr 29)), some (.inl a1)] [] 0 0 V
  refine ze_iload_n (pc := 0) zr_254_0 rfl ?_
  refine ze_aload_n (pc := 1) zr_254_1 rfl ?_
  refine ze_length (pc := 2) (z := 5) zr_254_2 (by decide) rfl ?_
  refine zq_callS0 (pc := 3) (as := [.inl a1, .inl 5]) (r := []) (kc2 := 0) (ks2 := 0) zr_254_3 rfl rfl rfl rfl ⟨rfl, rfl⟩ rfl h (fun z1 V1 h => ?_)
  refine ze_aload_n (pc := 6) zr_254_6 rfl ?_
  refine ze_iload_n (pc := 7) zr_254_7 rfl ?_
  refine z_gk h (fun g8 h => ?_)
  refine zl_baload (pc := 8) zr_254_8 (by decide) rfl g8 h (fun x8 h => ?_)
  refine ze_sipush (pc := 9) zr_254_9 (by decide) ?_
  refine ze_iand (pc := 12) zr_254_12 ?_
  refine ze_i2c (pc := 13) zr_254_13 ?_
  refine z_gk h (fun g14 h => ?_)
  exact zq_ret5 (pc := 14) zr_254_14 rfl g14 h
theorem zb43_89_16 {d : Nat} {Q : Int → z_M → Prop}  {V : z_M}
    (h : z_MS d 249 true [.inr (.inr 16)] V (fun z1 V1 => zI ((z_sub (V 89 8) (V 89 7)) = z1) (z_Ex (z_MS d) 43 Q true 23 [some (.inr (.inr 89)), some (.inr (.inr 16)), some (.inl (V1 89 7))] [] 0 0 V1) (Q 0 V1))) :
    z_MS (d + 1) 43 true [.inr (.inr 89), .inr (.inr 16)] V Q := by
  show z_Ex (z_MS d) 43 Q true 0 [some (.inr (.inr 89)), some (.inr (.inr 16)), none] [] 0 0 V
  refine ze_aload_n (pc := 0) zr_43_0 rfl ?_
  refine ze_getfield (pc := 1) (v := .inl (V 89 8)) zr_43_1 rfl rfl ?_
  refine ze_aload_n (pc := 4) zr_43_4 rfl ?_
  refine ze_getfield (pc := 5) (v := .inl (V 89 7)) zr_43_5 rfl rfl ?_
  refine ze_isub (pc := 8) zr_43_8 ?_
  refine ze_aload_n (pc := 9) zr_43_9 rfl ?_
  refine zq_callV1 (pc := 10) (as := [.inr (.inr 16)]) (r := [.inl (z_sub (V 89 8) (V 89 7))]) (kc2 := 0) (ks2 := 0) zr_43_10 rfl (by decide) rfl rfl rfl rfl ⟨rfl, rfl⟩ ⟨rfl, rfl, rfl⟩ h (fun z1 V1 h => ?_)
  refine zq_icmp_eq (pc := 13) (t := 18) zr_43_13 (by decide) (z_toif h) (fun h => ?_) (fun h => ?_)
  · refine ze_aload_n (pc := 18) zr_43_18 rfl ?_
    refine ze_getfield (pc := 19) (v := .inl (V1 89 7)) zr_43_19 rfl rfl ?_
    refine zq_istore_n (pc := 22) (ls2 := [some (.inr (.inr 89)), some (.inr (.inr 16)), some (.inl (V1 89 7))]) zr_43_22 rfl rfl ?_
    exact h
  · refine ze_iconst (pc := 16) zr_43_16 (by decide) ?_
    exact zq_ret4 (pc := 17) zr_43_17 rfl (by decide) h
theorem zb43_89_16_p23 {d : Nat} {Q : Int → z_M → Prop} (l2 : Int) {V : z_M}
    (h : zI (l2 < (V 89 8)) (zGu (z_kd ((V 89 5).toNat) = 101) (zGu (0 ≤ l2 ∧ l2 < z_len' V ((V 89 5).toNat)) (∀ x36 : Int, x36 = V ((V 89 5).toNat) l2.toNat → z_MS d 250 true [.inr (.inr 16), .inl (z_sub l2 (V 89 7))] V (fun z2401 V2401 => zI (x36 = z2401) (z_Ex (z_MS d) 43 Q true 23 [some (.inr (.inr 89)), some (.inr (.inr 16)), some (.inl (z_add l2 1))] [] 0 0 V2401) (Q 0 V2401))))) (Q 1 V)) :
    z_Ex (z_MS d) 43 Q true 23 [some (.inr (.inr 89)), some (.inr (.inr 16)), some (.inl l2)] [] 0 0 V := by
  refine ze_iload_n (pc := 23) zr_43_23 rfl ?_
  refine ze_aload_n (pc := 24) zr_43_24 rfl ?_
  refine ze_getfield (pc := 25) (v := .inl (V 89 8)) zr_43_25 rfl rfl ?_
  refine zq_icmp_ge (pc := 28) (t := 58) zr_43_28 (by decide) (z_toif h) (fun h => ?_) (fun h => ?_)
  · refine ze_aload_n (pc := 31) zr_43_31 rfl ?_
    refine ze_getfield (pc := 32) (v := .inr (.inr ((V 89 5).toNat))) zr_43_32 rfl rfl ?_
    refine ze_iload_n (pc := 35) zr_43_35 rfl ?_
    refine z_gk h (fun k36 h => ?_)
    refine z_gk h (fun g36 h => ?_)
    refine zl_ialoadv (pc := 36) zr_43_36 k36 g36 h (fun x36 h => ?_)
    refine ze_aload_n (pc := 37) zr_43_37 rfl ?_
    refine ze_iload_n (pc := 38) zr_43_38 rfl ?_
    refine ze_aload_n (pc := 39) zr_43_39 rfl ?_
    refine ze_getfield (pc := 40) (v := .inl (V 89 7)) zr_43_40 rfl rfl ?_
    refine ze_isub (pc := 43) zr_43_43 ?_
    refine zq_callV1 (pc := 44) (as := [.inr (.inr 16), .inl (z_sub l2 (V 89 7))]) (r := [.inl x36]) (kc2 := 0) (ks2 := 0) zr_43_44 rfl (by decide) rfl rfl rfl rfl ⟨rfl, rfl⟩ ⟨rfl, rfl, rfl⟩ h (fun z2401 V2401 h => ?_)
    refine zq_icmp_eq (pc := 47) (t := 52) zr_43_47 (by decide) (z_toif h) (fun h => ?_) (fun h => ?_)
    · refine zq_iinc (pc := 52) (ls2 := [some (.inr (.inr 89)), some (.inr (.inr 16)), some (.inl (z_add l2 1))]) zr_43_52 rfl rfl rfl ?_
      refine ze_goto (pc := 55) (t := 23) zr_43_55 (by decide) ?_
      exact h
    · refine ze_iconst (pc := 50) zr_43_50 (by decide) ?_
      exact zq_ret4 (pc := 51) zr_43_51 rfl (by decide) h
  · refine ze_iconst (pc := 58) zr_43_58 (by decide) ?_
    exact zq_ret4 (pc := 59) zr_43_59 rfl (by decide) h
theorem zb249_16 {d : Nat} {Q : Int → z_M → Prop}  {V : z_M}
    (h : z_MS d 251 true [.inr (.inr 16)] V (fun z1 V1 => Q (z_shr 5 z1) V1)) :
    z_MS (d + 1) 249 true [.inr (.inr 16)] V Q := by
  show z_Ex (z_MS d) 249 Q true 0 [some (.inr (.inr 16))] [] 0 0 V
  refine ze_aload_n (pc := 0) zr_249_0 rfl ?_
  refine ze_getfield (pc := 1) (v := .inr (.inr 30)) zr_249_1 rfl rfl ?_
  refine ze_length (pc := 4) (z := 5) zr_249_4 (by decide) rfl ?_
  refine ze_aload_n (pc := 5) zr_249_5 rfl ?_
  refine zq_callV1 (pc := 6) (as := [.inr (.inr 16)]) (r := [.inl 5]) (kc2 := 0) (ks2 := 0) zr_249_6 rfl (by decide) rfl rfl rfl rfl ⟨rfl, rfl⟩ ⟨rfl, rfl, rfl⟩ h (fun z1 V1 h => ?_)
  refine ze_ishr (pc := 9) zr_249_9 ?_
  exact zq_ret1 (pc := 10) zr_249_10 rfl h
theorem zb250_16 {d : Nat} {Q : Int → z_M → Prop} (a0 : Int) {V : z_M}
    (h : z_MS d 252 true [.inr (.inr 16)] V (fun z1 V1 => zI (z1 = 0) (False) (z_MS d 254 true [.inr (.inr 30), .inl a0] V1 (fun z2 V2 => zGu (0 ≤ z2 ∧ z2 < 65536) (Q z2 V2))))) :
    z_MS (d + 1) 250 true [.inr (.inr 16), .inl a0] V Q := by
  show z_Ex (z_MS d) 250 Q true 0 [some (.inr (.inr 16)), some (.inl a0)] [] 0 0 V
  refine ze_aload_n (pc := 0) zr_250_0 rfl ?_
  refine zq_callV1 (pc := 1) (as := [.inr (.inr 16)]) (r := []) (kc2 := 0) (ks2 := 0) zr_250_1 rfl (by decide) rfl rfl rfl rfl ⟨rfl, rfl⟩ ⟨rfl, rfl, rfl⟩ h (fun z1 V1 h => ?_)
  refine zq_if_eq (pc := 4) (t := 16) zr_250_4 (by decide) (z_toif h) (fun h => ?_) (fun h => ?_)
  · refine ze_aload_n (pc := 16) zr_250_16 rfl ?_
    refine ze_getfield (pc := 17) (v := .inr (.inr 30)) zr_250_17 rfl rfl ?_
    refine ze_iload_n (pc := 20) zr_250_20 rfl ?_
    exact h.elim
  · refine ze_aload_n (pc := 7) zr_250_7 rfl ?_
    refine ze_getfield (pc := 8) (v := .inr (.inr 30)) zr_250_8 rfl rfl ?_
    refine ze_iload_n (pc := 11) zr_250_11 rfl ?_
    refine zq_callS1 (pc := 12) (as := [.inr (.inr 30), .inl a0]) (r := []) (kc2 := 0) (ks2 := 0) zr_250_12 rfl rfl rfl rfl ⟨rfl, rfl⟩ ⟨rfl, rfl, rfl⟩ h (fun z2 V2 h => ?_)
    refine z_gk h (fun g15 h => ?_)
    exact zq_ret5 (pc := 15) zr_250_15 rfl g15 h
theorem zb251_16 {d : Nat} {Q : Int → z_M → Prop}  {V : z_M}
    (h : zGu (-128 ≤ (if (1 : Int) = 0 then 1 else V 16 1) ∧ (if (1 : Int) = 0 then 1 else V 16 1) < 128) (Q (if (1 : Int) = 0 then 1 else V 16 1) V)) :
    z_MS (d + 1) 251 true [.inr (.inr 16)] V Q := by
  show z_Ex (z_MS d) 251 Q true 0 [some (.inr (.inr 16))] [] 0 0 V
  refine ze_compact (pc := 0) zr_251_0 rfl ?_
  have j3 : z_Ex (z_MS d) 251 Q true 14 [some (.inr (.inr 16))] [.inl (if (1 : Int) = 0 then 1 else V 16 1)] 0 0 V := by
    refine z_gk h (fun g14 h => ?_)
    exact zq_ret6 (pc := 14) zr_251_14 rfl g14 h
  refine ze_if_eq (pc := 3) (t := 13) zr_251_3 (by decide) (fun hc => ?_) (fun hc => ?_)
  · rw [if_pos (show (1 : Int) = 0 from hc)] at j3
    refine ze_iconst (pc := 13) zr_251_13 (by decide) ?_
    exact j3
  · rw [if_neg (show ¬ ((1 : Int) = 0) from hc)] at j3
    refine ze_aload_n (pc := 6) zr_251_6 rfl ?_
    refine ze_getfield (pc := 7) (v := .inl (V 16 1)) zr_251_7 rfl rfl ?_
    refine ze_goto (pc := 10) (t := 14) zr_251_10 (by decide) ?_
    exact j3
theorem zb252_16 {d : Nat} {Q : Int → z_M → Prop}  {V : z_M}
    (h : Q (if (1 : Int) = 0 then 0 else (if (V 16 1) = 0 then 1 else 0)) V) :
    z_MS (d + 1) 252 true [.inr (.inr 16)] V Q := by
  show z_Ex (z_MS d) 252 Q true 0 [some (.inr (.inr 16))] [] 0 0 V
  refine ze_compact (pc := 0) zr_252_0 rfl ?_
  have j3 : z_Ex (z_MS d) 252 Q true 18 [some (.inr (.inr 16))] [.inl (if (1 : Int) = 0 then 0 else (if (V 16 1) = 0 then 1 else 0))] 0 0 V := by
    exact zq_ret4 (pc := 18) zr_252_18 rfl (by (repeat' split) <;> decide) h
  refine ze_if_eq (pc := 3) (t := 17) zr_252_3 (by decide) (fun hc => ?_) (fun hc => ?_)
  · rw [if_pos (show (1 : Int) = 0 from hc)] at j3
    refine ze_iconst (pc := 17) zr_252_17 (by decide) ?_
    exact j3
  · rw [if_neg (show ¬ ((1 : Int) = 0) from hc)] at j3
    refine ze_aload_n (pc := 6) zr_252_6 rfl ?_
    refine ze_getfield (pc := 7) (v := .inl (V 16 1)) zr_252_7 rfl rfl ?_
    refine ze_if_ne (pc := 10) (t := 17) zr_252_10 (by decide) (fun hc => ?_) (fun hc => ?_)
    · rw [if_pos (show (V 16 1) = 0 from hc)] at j3
      refine ze_iconst (pc := 13) zr_252_13 (by decide) ?_
      refine ze_goto (pc := 14) (t := 18) zr_252_14 (by decide) ?_
      exact j3
    · rw [if_neg (show ¬ ((V 16 1) = 0) from hc)] at j3
      refine ze_iconst (pc := 17) zr_252_17 (by decide) ?_
      exact j3
theorem zb254_30 {d : Nat} {Q : Int → z_M → Prop} (a1 : Int) {V : z_M}
    (h : z_MS d 253 true [.inl a1, .inl 5] V (fun z1 V1 => zGu (0 ≤ a1 ∧ a1 < 5) (∀ x8 : Int, x8 = V1 30 a1.toNat → zGu (0 ≤ (z_i2c (z_and x8 255)) ∧ (z_i2c (z_and x8 255)) < 65536) (Q (z_i2c (z_and x8 255)) V1)))) :
    z_MS (d + 1) 254 true [.inr (.inr 30), .inl a1] V Q := by
  show z_Ex (z_MS d) 254 Q true 0 [some (.inr (.inr 30)), some (.inl a1)] [] 0 0 V
  refine ze_iload_n (pc := 0) zr_254_0 rfl ?_
  refine ze_aload_n (pc := 1) zr_254_1 rfl ?_
  refine ze_length (pc := 2) (z := 5) zr_254_2 (by decide) rfl ?_
  refine zq_callS0 (pc := 3) (as := [.inl a1, .inl 5]) (r := []) (kc2 := 0) (ks2 := 0) zr_254_3 rfl rfl rfl rfl ⟨rfl, rfl⟩ rfl h (fun z1 V1 h => ?_)
  refine ze_aload_n (pc := 6) zr_254_6 rfl ?_
  refine ze_iload_n (pc := 7) zr_254_7 rfl ?_
  refine z_gk h (fun g8 h => ?_)
  refine zl_baload (pc := 8) zr_254_8 (by decide) rfl g8 h (fun x8 h => ?_)
  refine ze_sipush (pc := 9) zr_254_9 (by decide) ?_
  refine ze_iand (pc := 12) zr_254_12 ?_
  refine ze_i2c (pc := 13) zr_254_13 ?_
  refine z_gk h (fun g14 h => ?_)
  exact zq_ret5 (pc := 14) zr_254_14 rfl g14 h
theorem zb43_89_17 {d : Nat} {Q : Int → z_M → Prop}  {V : z_M}
    (h : z_MS d 249 true [.inr (.inr 17)] V (fun z1 V1 => zI ((z_sub (V 89 8) (V 89 7)) = z1) (z_Ex (z_MS d) 43 Q true 23 [some (.inr (.inr 89)), some (.inr (.inr 17)), some (.inl (V1 89 7))] [] 0 0 V1) (Q 0 V1))) :
    z_MS (d + 1) 43 true [.inr (.inr 89), .inr (.inr 17)] V Q := by
  show z_Ex (z_MS d) 43 Q true 0 [some (.inr (.inr 89)), some (.inr (.inr 17)), none] [] 0 0 V
  refine ze_aload_n (pc := 0) zr_43_0 rfl ?_
  refine ze_getfield (pc := 1) (v := .inl (V 89 8)) zr_43_1 rfl rfl ?_
  refine ze_aload_n (pc := 4) zr_43_4 rfl ?_
  refine ze_getfield (pc := 5) (v := .inl (V 89 7)) zr_43_5 rfl rfl ?_
  refine ze_isub (pc := 8) zr_43_8 ?_
  refine ze_aload_n (pc := 9) zr_43_9 rfl ?_
  refine zq_callV1 (pc := 10) (as := [.inr (.inr 17)]) (r := [.inl (z_sub (V 89 8) (V 89 7))]) (kc2 := 0) (ks2 := 0) zr_43_10 rfl (by decide) rfl rfl rfl rfl ⟨rfl, rfl⟩ ⟨rfl, rfl, rfl⟩ h (fun z1 V1 h => ?_)
  refine zq_icmp_eq (pc := 13) (t := 18) zr_43_13 (by decide) (z_toif h) (fun h => ?_) (fun h => ?_)
  · refine ze_aload_n (pc := 18) zr_43_18 rfl ?_
    refine ze_getfield (pc := 19) (v := .inl (V1 89 7)) zr_43_19 rfl rfl ?_
    refine zq_istore_n (pc := 22) (ls2 := [some (.inr (.inr 89)), some (.inr (.inr 17)), some (.inl (V1 89 7))]) zr_43_22 rfl rfl ?_
    exact h
  · refine ze_iconst (pc := 16) zr_43_16 (by decide) ?_
    exact zq_ret4 (pc := 17) zr_43_17 rfl (by decide) h
theorem zb43_89_17_p23 {d : Nat} {Q : Int → z_M → Prop} (l2 : Int) {V : z_M}
    (h : zI (l2 < (V 89 8)) (zGu (z_kd ((V 89 5).toNat) = 101) (zGu (0 ≤ l2 ∧ l2 < z_len' V ((V 89 5).toNat)) (∀ x36 : Int, x36 = V ((V 89 5).toNat) l2.toNat → z_MS d 250 true [.inr (.inr 17), .inl (z_sub l2 (V 89 7))] V (fun z2401 V2401 => zI (x36 = z2401) (z_Ex (z_MS d) 43 Q true 23 [some (.inr (.inr 89)), some (.inr (.inr 17)), some (.inl (z_add l2 1))] [] 0 0 V2401) (Q 0 V2401))))) (Q 1 V)) :
    z_Ex (z_MS d) 43 Q true 23 [some (.inr (.inr 89)), some (.inr (.inr 17)), some (.inl l2)] [] 0 0 V := by
  refine ze_iload_n (pc := 23) zr_43_23 rfl ?_
  refine ze_aload_n (pc := 24) zr_43_24 rfl ?_
  refine ze_getfield (pc := 25) (v := .inl (V 89 8)) zr_43_25 rfl rfl ?_
  refine zq_icmp_ge (pc := 28) (t := 58) zr_43_28 (by decide) (z_toif h) (fun h => ?_) (fun h => ?_)
  · refine ze_aload_n (pc := 31) zr_43_31 rfl ?_
    refine ze_getfield (pc := 32) (v := .inr (.inr ((V 89 5).toNat))) zr_43_32 rfl rfl ?_
    refine ze_iload_n (pc := 35) zr_43_35 rfl ?_
    refine z_gk h (fun k36 h => ?_)
    refine z_gk h (fun g36 h => ?_)
    refine zl_ialoadv (pc := 36) zr_43_36 k36 g36 h (fun x36 h => ?_)
    refine ze_aload_n (pc := 37) zr_43_37 rfl ?_
    refine ze_iload_n (pc := 38) zr_43_38 rfl ?_
    refine ze_aload_n (pc := 39) zr_43_39 rfl ?_
    refine ze_getfield (pc := 40) (v := .inl (V 89 7)) zr_43_40 rfl rfl ?_
    refine ze_isub (pc := 43) zr_43_43 ?_
    refine zq_callV1 (pc := 44) (as := [.inr (.inr 17), .inl (z_sub l2 (V 89 7))]) (r := [.inl x36]) (kc2 := 0) (ks2 := 0) zr_43_44 rfl (by decide) rfl rfl rfl rfl ⟨rfl, rfl⟩ ⟨rfl, rfl, rfl⟩ h (fun z2401 V2401 h => ?_)
    refine zq_icmp_eq (pc := 47) (t := 52) zr_43_47 (by decide) (z_toif h) (fun h => ?_) (fun h => ?_)
    · refine zq_iinc (pc := 52) (ls2 := [some (.inr (.inr 89)), some (.inr (.inr 17)), some (.inl (z_add l2 1))]) zr_43_52 rfl rfl rfl ?_
      refine ze_goto (pc := 55) (t := 23) zr_43_55 (by decide) ?_
      exact h
    · refine ze_iconst (pc := 50) zr_43_50 (by decide) ?_
      exact zq_ret4 (pc := 51) zr_43_51 rfl (by decide) h
  · refine ze_iconst (pc := 58) zr_43_58 (by decide) ?_
    exact zq_ret4 (pc := 59) zr_43_59 rfl (by decide) h
theorem zb249_17 {d : Nat} {Q : Int → z_M → Prop}  {V : z_M}
    (h : z_MS d 251 true [.inr (.inr 17)] V (fun z1 V1 => Q (z_shr 5 z1) V1)) :
    z_MS (d + 1) 249 true [.inr (.inr 17)] V Q := by
  show z_Ex (z_MS d) 249 Q true 0 [some (.inr (.inr 17))] [] 0 0 V
  refine ze_aload_n (pc := 0) zr_249_0 rfl ?_
  refine ze_getfield (pc := 1) (v := .inr (.inr 31)) zr_249_1 rfl rfl ?_
  refine ze_length (pc := 4) (z := 5) zr_249_4 (by decide) rfl ?_
  refine ze_aload_n (pc := 5) zr_249_5 rfl ?_
  refine zq_callV1 (pc := 6) (as := [.inr (.inr 17)]) (r := [.inl 5]) (kc2 := 0) (ks2 := 0) zr_249_6 rfl (by decide) rfl rfl rfl rfl ⟨rfl, rfl⟩ ⟨rfl, rfl, rfl⟩ h (fun z1 V1 h => ?_)
  refine ze_ishr (pc := 9) zr_249_9 ?_
  exact zq_ret1 (pc := 10) zr_249_10 rfl h
theorem zb250_17 {d : Nat} {Q : Int → z_M → Prop} (a0 : Int) {V : z_M}
    (h : z_MS d 252 true [.inr (.inr 17)] V (fun z1 V1 => zI (z1 = 0) (False) (z_MS d 254 true [.inr (.inr 31), .inl a0] V1 (fun z2 V2 => zGu (0 ≤ z2 ∧ z2 < 65536) (Q z2 V2))))) :
    z_MS (d + 1) 250 true [.inr (.inr 17), .inl a0] V Q := by
  show z_Ex (z_MS d) 250 Q true 0 [some (.inr (.inr 17)), some (.inl a0)] [] 0 0 V
  refine ze_aload_n (pc := 0) zr_250_0 rfl ?_
  refine zq_callV1 (pc := 1) (as := [.inr (.inr 17)]) (r := []) (kc2 := 0) (ks2 := 0) zr_250_1 rfl (by decide) rfl rfl rfl rfl ⟨rfl, rfl⟩ ⟨rfl, rfl, rfl⟩ h (fun z1 V1 h => ?_)
  refine zq_if_eq (pc := 4) (t := 16) zr_250_4 (by decide) (z_toif h) (fun h => ?_) (fun h => ?_)
  · refine ze_aload_n (pc := 16) zr_250_16 rfl ?_
    refine ze_getfield (pc := 17) (v := .inr (.inr 31)) zr_250_17 rfl rfl ?_
    refine ze_iload_n (pc := 20) zr_250_20 rfl ?_
    exact h.elim
  · refine ze_aload_n (pc := 7) zr_250_7 rfl ?_
    refine ze_getfield (pc := 8) (v := .inr (.inr 31)) zr_250_8 rfl rfl ?_
    refine ze_iload_n (pc := 11) zr_250_11 rfl ?_
    refine zq_callS1 (pc := 12) (as := [.inr (.inr 31), .inl a0]) (r := []) (kc2 := 0) (ks2 := 0) zr_250_12 rfl rfl rfl rfl ⟨rfl, rfl⟩ ⟨rfl, rfl, rfl⟩ h (fun z2 V2 h => ?_)
    refine z_gk h (fun g15 h => ?_)
    exact zq_ret5 (pc := 15) zr_250_15 rfl g15 h
theorem zb251_17 {d : Nat} {Q : Int → z_M → Prop}  {V : z_M}
    (h : zGu (-128 ≤ (if (1 : Int) = 0 then 1 else V 17 1) ∧ (if (1 : Int) = 0 then 1 else V 17 1) < 128) (Q (if (1 : Int) = 0 then 1 else V 17 1) V)) :
    z_MS (d + 1) 251 true [.inr (.inr 17)] V Q := by
  show z_Ex (z_MS d) 251 Q true 0 [some (.inr (.inr 17))] [] 0 0 V
  refine ze_compact (pc := 0) zr_251_0 rfl ?_
  have j3 : z_Ex (z_MS d) 251 Q true 14 [some (.inr (.inr 17))] [.inl (if (1 : Int) = 0 then 1 else V 17 1)] 0 0 V := by
    refine z_gk h (fun g14 h => ?_)
    exact zq_ret6 (pc := 14) zr_251_14 rfl g14 h
  refine ze_if_eq (pc := 3) (t := 13) zr_251_3 (by decide) (fun hc => ?_) (fun hc => ?_)
  · rw [if_pos (show (1 : Int) = 0 from hc)] at j3
    refine ze_iconst (pc := 13) zr_251_13 (by decide) ?_
    exact j3
  · rw [if_neg (show ¬ ((1 : Int) = 0) from hc)] at j3
    refine ze_aload_n (pc := 6) zr_251_6 rfl ?_
    refine ze_getfield (pc := 7) (v := .inl (V 17 1)) zr_251_7 rfl rfl ?_
    refine ze_goto (pc := 10) (t := 14) zr_251_10 (by decide) ?_
    exact j3
theorem zb252_17 {d : Nat} {Q : Int → z_M → Prop}  {V : z_M}
    (h : Q (if (1 : Int) = 0 then 0 else (if (V 17 1) = 0 then 1 else 0)) V) :
    z_MS (d + 1) 252 true [.inr (.inr 17)] V Q := by
  show z_Ex (z_MS d) 252 Q true 0 [some (.inr (.inr 17))] [] 0 0 V
  refine ze_compact (pc := 0) zr_252_0 rfl ?_
  have j3 : z_Ex (z_MS d) 252 Q true 18 [some (.inr (.inr 17))] [.inl (if (1 : Int) = 0 then 0 else (if (V 17 1) = 0 then 1 else 0))] 0 0 V := by
    exact zq_ret4 (pc := 18) zr_252_18 rfl (by (repeat' split) <;> decide) h
  refine ze_if_eq (pc := 3) (t := 17) zr_252_3 (by decide) (fun hc => ?_) (fun hc => ?_)
  · rw [if_pos (show (1 : Int) = 0 from hc)] at j3
    refine ze_iconst (pc := 17) zr_252_17 (by decide) ?_
    exact j3
  · rw [if_neg (show ¬ ((1 : Int) = 0) from hc)] at j3
    refine ze_aload_n (pc := 6) zr_252_6 rfl ?_
    refine ze_getfield (pc := 7) (v := .inl (V 17 1)) zr_252_7 rfl rfl ?_
    refine ze_if_ne (pc := 10) (t := 17) zr_252_10 (by decide) (fun hc => ?_) (fun hc => ?_)
    · rw [if_pos (show (V 17 1) = 0 from hc)] at j3
      refine ze_iconst (pc := 13) zr_252_13 (by decide) ?_
      refine ze_goto (pc := 14) (t := 18) zr_252_14 (by decide) ?_
      exact j3
    · rw [if_neg (show ¬ ((V 17 1) = 0) from hc)] at j3
      refine ze_iconst (pc := 17) zr_252_17 (by decide) ?_
      exact j3
theorem zb254_31 {d : Nat} {Q : Int → z_M → Prop} (a1 : Int) {V : z_M}
    (h : z_MS d 253 true [.inl a1, .inl 5] V (fun z1 V1 => zGu (0 ≤ a1 ∧ a1 < 5) (∀ x8 : Int, x8 = V1 31 a1.toNat → zGu (0 ≤ (z_i2c (z_and x8 255)) ∧ (z_i2c (z_and x8 255)) < 65536) (Q (z_i2c (z_and x8 255)) V1)))) :
    z_MS (d + 1) 254 true [.inr (.inr 31), .inl a1] V Q := by
  show z_Ex (z_MS d) 254 Q true 0 [some (.inr (.inr 31)), some (.inl a1)] [] 0 0 V
  refine ze_iload_n (pc := 0) zr_254_0 rfl ?_
  refine ze_aload_n (pc := 1) zr_254_1 rfl ?_
  refine ze_length (pc := 2) (z := 5) zr_254_2 (by decide) rfl ?_
  refine zq_callS0 (pc := 3) (as := [.inl a1, .inl 5]) (r := []) (kc2 := 0) (ks2 := 0) zr_254_3 rfl rfl rfl rfl ⟨rfl, rfl⟩ rfl h (fun z1 V1 h => ?_)
  refine ze_aload_n (pc := 6) zr_254_6 rfl ?_
  refine ze_iload_n (pc := 7) zr_254_7 rfl ?_
  refine z_gk h (fun g8 h => ?_)
  refine zl_baload (pc := 8) zr_254_8 (by decide) rfl g8 h (fun x8 h => ?_)
  refine ze_sipush (pc := 9) zr_254_9 (by decide) ?_
  refine ze_iand (pc := 12) zr_254_12 ?_
  refine ze_i2c (pc := 13) zr_254_13 ?_
  refine z_gk h (fun g14 h => ?_)
  exact zq_ret5 (pc := 14) zr_254_14 rfl g14 h
theorem zb43_89_18 {d : Nat} {Q : Int → z_M → Prop}  {V : z_M}
    (h : z_MS d 249 true [.inr (.inr 18)] V (fun z1 V1 => zI ((z_sub (V 89 8) (V 89 7)) = z1) (z_Ex (z_MS d) 43 Q true 23 [some (.inr (.inr 89)), some (.inr (.inr 18)), some (.inl (V1 89 7))] [] 0 0 V1) (Q 0 V1))) :
    z_MS (d + 1) 43 true [.inr (.inr 89), .inr (.inr 18)] V Q := by
  show z_Ex (z_MS d) 43 Q true 0 [some (.inr (.inr 89)), some (.inr (.inr 18)), none] [] 0 0 V
  refine ze_aload_n (pc := 0) zr_43_0 rfl ?_
  refine ze_getfield (pc := 1) (v := .inl (V 89 8)) zr_43_1 rfl rfl ?_
  refine ze_aload_n (pc := 4) zr_43_4 rfl ?_
  refine ze_getfield (pc := 5) (v := .inl (V 89 7)) zr_43_5 rfl rfl ?_
  refine ze_isub (pc := 8) zr_43_8 ?_
  refine ze_aload_n (pc := 9) zr_43_9 rfl ?_
  refine zq_callV1 (pc := 10) (as := [.inr (.inr 18)]) (r := [.inl (z_sub (V 89 8) (V 89 7))]) (kc2 := 0) (ks2 := 0) zr_43_10 rfl (by decide) rfl rfl rfl rfl ⟨rfl, rfl⟩ ⟨rfl, rfl, rfl⟩ h (fun z1 V1 h => ?_)
  refine zq_icmp_eq (pc := 13) (t := 18) zr_43_13 (by decide) (z_toif h) (fun h => ?_) (fun h => ?_)
  · refine ze_aload_n (pc := 18) zr_43_18 rfl ?_
    refine ze_getfield (pc := 19) (v := .inl (V1 89 7)) zr_43_19 rfl rfl ?_
    refine zq_istore_n (pc := 22) (ls2 := [some (.inr (.inr 89)), some (.inr (.inr 18)), some (.inl (V1 89 7))]) zr_43_22 rfl rfl ?_
    exact h
  · refine ze_iconst (pc := 16) zr_43_16 (by decide) ?_
    exact zq_ret4 (pc := 17) zr_43_17 rfl (by decide) h
theorem zb43_89_18_p23 {d : Nat} {Q : Int → z_M → Prop} (l2 : Int) {V : z_M}
    (h : zI (l2 < (V 89 8)) (zGu (z_kd ((V 89 5).toNat) = 101) (zGu (0 ≤ l2 ∧ l2 < z_len' V ((V 89 5).toNat)) (∀ x36 : Int, x36 = V ((V 89 5).toNat) l2.toNat → z_MS d 250 true [.inr (.inr 18), .inl (z_sub l2 (V 89 7))] V (fun z2401 V2401 => zI (x36 = z2401) (z_Ex (z_MS d) 43 Q true 23 [some (.inr (.inr 89)), some (.inr (.inr 18)), some (.inl (z_add l2 1))] [] 0 0 V2401) (Q 0 V2401))))) (Q 1 V)) :
    z_Ex (z_MS d) 43 Q true 23 [some (.inr (.inr 89)), some (.inr (.inr 18)), some (.inl l2)] [] 0 0 V := by
  refine ze_iload_n (pc := 23) zr_43_23 rfl ?_
  refine ze_aload_n (pc := 24) zr_43_24 rfl ?_
  refine ze_getfield (pc := 25) (v := .inl (V 89 8)) zr_43_25 rfl rfl ?_
  refine zq_icmp_ge (pc := 28) (t := 58) zr_43_28 (by decide) (z_toif h) (fun h => ?_) (fun h => ?_)
  · refine ze_aload_n (pc := 31) zr_43_31 rfl ?_
    refine ze_getfield (pc := 32) (v := .inr (.inr ((V 89 5).toNat))) zr_43_32 rfl rfl ?_
    refine ze_iload_n (pc := 35) zr_43_35 rfl ?_
    refine z_gk h (fun k36 h => ?_)
    refine z_gk h (fun g36 h => ?_)
    refine zl_ialoadv (pc := 36) zr_43_36 k36 g36 h (fun x36 h => ?_)
    refine ze_aload_n (pc := 37) zr_43_37 rfl ?_
    refine ze_iload_n (pc := 38) zr_43_38 rfl ?_
    refine ze_aload_n (pc := 39) zr_43_39 rfl ?_
    refine ze_getfield (pc := 40) (v := .inl (V 89 7)) zr_43_40 rfl rfl ?_
    refine ze_isub (pc := 43) zr_43_43 ?_
    refine zq_callV1 (pc := 44) (as := [.inr (.inr 18), .inl (z_sub l2 (V 89 7))]) (r := [.inl x36]) (kc2 := 0) (ks2 := 0) zr_43_44 rfl (by decide) rfl rfl rfl rfl ⟨rfl, rfl⟩ ⟨rfl, rfl, rfl⟩ h (fun z2401 V2401 h => ?_)
    refine zq_icmp_eq (pc := 47) (t := 52) zr_43_47 (by decide) (z_toif h) (fun h => ?_) (fun h => ?_)
    · refine zq_iinc (pc := 52) (ls2 := [some (.inr (.inr 89)), some (.inr (.inr 18)), some (.inl (z_add l2 1))]) zr_43_52 rfl rfl rfl ?_
      refine ze_goto (pc := 55) (t := 23) zr_43_55 (by decide) ?_
      exact h
    · refine ze_iconst (pc := 50) zr_43_50 (by decide) ?_
      exact zq_ret4 (pc := 51) zr_43_51 rfl (by decide) h
  · refine ze_iconst (pc := 58) zr_43_58 (by decide) ?_
    exact zq_ret4 (pc := 59) zr_43_59 rfl (by decide) h
theorem zb249_18 {d : Nat} {Q : Int → z_M → Prop}  {V : z_M}
    (h : z_MS d 251 true [.inr (.inr 18)] V (fun z1 V1 => Q (z_shr 6 z1) V1)) :
    z_MS (d + 1) 249 true [.inr (.inr 18)] V Q := by
  show z_Ex (z_MS d) 249 Q true 0 [some (.inr (.inr 18))] [] 0 0 V
  refine ze_aload_n (pc := 0) zr_249_0 rfl ?_
  refine ze_getfield (pc := 1) (v := .inr (.inr 32)) zr_249_1 rfl rfl ?_
  refine ze_length (pc := 4) (z := 6) zr_249_4 (by decide) rfl ?_
  refine ze_aload_n (pc := 5) zr_249_5 rfl ?_
  refine zq_callV1 (pc := 6) (as := [.inr (.inr 18)]) (r := [.inl 6]) (kc2 := 0) (ks2 := 0) zr_249_6 rfl (by decide) rfl rfl rfl rfl ⟨rfl, rfl⟩ ⟨rfl, rfl, rfl⟩ h (fun z1 V1 h => ?_)
  refine ze_ishr (pc := 9) zr_249_9 ?_
  exact zq_ret1 (pc := 10) zr_249_10 rfl h
theorem zb250_18 {d : Nat} {Q : Int → z_M → Prop} (a0 : Int) {V : z_M}
    (h : z_MS d 252 true [.inr (.inr 18)] V (fun z1 V1 => zI (z1 = 0) (False) (z_MS d 254 true [.inr (.inr 32), .inl a0] V1 (fun z2 V2 => zGu (0 ≤ z2 ∧ z2 < 65536) (Q z2 V2))))) :
    z_MS (d + 1) 250 true [.inr (.inr 18), .inl a0] V Q := by
  show z_Ex (z_MS d) 250 Q true 0 [some (.inr (.inr 18)), some (.inl a0)] [] 0 0 V
  refine ze_aload_n (pc := 0) zr_250_0 rfl ?_
  refine zq_callV1 (pc := 1) (as := [.inr (.inr 18)]) (r := []) (kc2 := 0) (ks2 := 0) zr_250_1 rfl (by decide) rfl rfl rfl rfl ⟨rfl, rfl⟩ ⟨rfl, rfl, rfl⟩ h (fun z1 V1 h => ?_)
  refine zq_if_eq (pc := 4) (t := 16) zr_250_4 (by decide) (z_toif h) (fun h => ?_) (fun h => ?_)
  · refine ze_aload_n (pc := 16) zr_250_16 rfl ?_
    refine ze_getfield (pc := 17) (v := .inr (.inr 32)) zr_250_17 rfl rfl ?_
    refine ze_iload_n (pc := 20) zr_250_20 rfl ?_
    exact h.elim
  · refine ze_aload_n (pc := 7) zr_250_7 rfl ?_
    refine ze_getfield (pc := 8) (v := .inr (.inr 32)) zr_250_8 rfl rfl ?_
    refine ze_iload_n (pc := 11) zr_250_11 rfl ?_
    refine zq_callS1 (pc := 12) (as := [.inr (.inr 32), .inl a0]) (r := []) (kc2 := 0) (ks2 := 0) zr_250_12 rfl rfl rfl rfl ⟨rfl, rfl⟩ ⟨rfl, rfl, rfl⟩ h (fun z2 V2 h => ?_)
    refine z_gk h (fun g15 h => ?_)
    exact zq_ret5 (pc := 15) zr_250_15 rfl g15 h
