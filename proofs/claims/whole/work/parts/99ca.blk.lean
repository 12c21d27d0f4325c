/-! blocks of rows: printed by a program (blk2.py, gen99c.py) -/
theorem zb26_89 {d : Nat} {Q : Int → z_M → Prop}  {V : z_M}
    (h : z_MS d 43 true [.inr (.inr 89), .inr (.inr 8)] V (fun z1 V1 => zI ((if z1 = 0 then 14 else 13 : Int) = 14) (z_MS d 43 true [.inr (.inr 89), .inr (.inr 9)] V1 (fun z4 V4 => zI (z4 = 0) (z_MS d 38 true [.inr (.inr 89)] V4 (fun z7 V7 => zGu (z7 = 0 ∨ z7 = 1) (Q z7 V7))) (z_MS d 40 true [.inr (.inr 89)] V4 (fun z5 V5 => zI ((if z1 = 0 then 14 else 13 : Int) = 13) (z_MS d 32 true [.inr (.inr 89), .inl 0] V5 (fun z6 V6 => zI (z6 = 0) (Q 0 V6) (z_Ex (z_MS d) 26 Q true 57 [some (.inr (.inr 89)), some (.inl (if z1 = 0 then 14 else 13))] [] 0 0 V6))) (z_Ex (z_MS d) 26 Q true 57 [some (.inr (.inr 89)), some (.inl (if z1 = 0 then 14 else 13))] [] 0 0 V5))))) (z_MS d 40 true [.inr (.inr 89)] V1 (fun z2 V2 => zI ((if z1 = 0 then 14 else 13 : Int) = 13) (z_MS d 32 true [.inr (.inr 89), .inl 0] V2 (fun z3 V3 => zI (z3 = 0) (Q 0 V3) (z_Ex (z_MS d) 26 Q true 57 [some (.inr (.inr 89)), some (.inl (if z1 = 0 then 14 else 13))] [] 0 0 V3))) (z_Ex (z_MS d) 26 Q true 57 [some (.inr (.inr 89)), some (.inl (if z1 = 0 then 14 else 13))] [] 0 0 V2))))) :
    z_MS (d + 1) 26 true [.inr (.inr 89)] V Q := by
  show z_Ex (z_MS d) 26 Q true 0 [some (.inr (.inr 89)), none] [] 0 0 V
  refine ze_aload_n (pc := 0) zr_26_0 rfl ?_
  refine ze_ldcS (pc := 1) zr_26_1 rfl (by decide) ?_
  refine zq_callV1 (pc := 3) (as := [.inr (.inr 89), .inr (.inr 8)]) (r := []) (kc2 := 0) (ks2 := 0) zr_26_3 rfl (by decide) rfl rfl rfl rfl ⟨rfl, rfl⟩ ⟨rfl, rfl, rfl⟩ h (fun z1 V1 h => ?_)
  have j6 : z_Ex (z_MS d) 26 Q true 16 [some (.inr (.inr 89)), none] [.inl (if z1 = 0 then 14 else 13)] 0 0 V1 := by
    refine zq_istore_n (pc := 16) (ls2 := [some (.inr (.inr 89)), some (.inl (if z1 = 0 then 14 else 13))]) zr_26_16 rfl rfl ?_
    refine ze_iload_n (pc := 17) zr_26_17 rfl ?_
    refine ze_bipush (pc := 18) zr_26_18 (by decide) ?_
    refine zq_icmp_ne (pc := 20) (t := 37) zr_26_20 (by decide) (z_toif h) (fun h => ?_) (fun h => ?_)
    · refine ze_aload_n (pc := 23) zr_26_23 rfl ?_
      refine ze_ldcS (pc := 24) zr_26_24 rfl (by decide) ?_
      refine zq_callV1 (pc := 26) (as := [.inr (.inr 89), .inr (.inr 9)]) (r := []) (kc2 := 0) (ks2 := 0) zr_26_26 rfl (by decide) rfl rfl rfl rfl ⟨rfl, rfl⟩ ⟨rfl, rfl, rfl⟩ h (fun z4 V4 h => ?_)
      refine zq_if_ne (pc := 29) (t := 37) zr_26_29 (by decide) (z_toif h) (fun h => ?_) (fun h => ?_)
      · refine ze_aload_n (pc := 32) zr_26_32 rfl ?_
        refine zq_callV1 (pc := 33) (as := [.inr (.inr 89)]) (r := []) (kc2 := 0) (ks2 := 0) zr_26_33 rfl (by decide) rfl rfl rfl rfl ⟨rfl, rfl⟩ ⟨rfl, rfl, rfl⟩ h (fun z7 V7 h => ?_)
        refine z_gk h (fun g36 h => ?_)
        exact zq_ret4 (pc := 36) zr_26_36 rfl g36 h
      · refine ze_aload_n (pc := 37) zr_26_37 rfl ?_
        refine zq_callV0 (pc := 38) (as := [.inr (.inr 89)]) (r := []) (kc2 := 0) (ks2 := 0) zr_26_38 rfl (by decide) rfl rfl rfl rfl ⟨rfl, rfl⟩ rfl h (fun z5 V5 h => ?_)
        refine ze_iload_n (pc := 41) zr_26_41 rfl ?_
        refine ze_bipush (pc := 42) zr_26_42 (by decide) ?_
        refine zq_icmp_ne (pc := 44) (t := 57) zr_26_44 (by decide) (z_toif h) (fun h => ?_) (fun h => ?_)
        · refine ze_aload_n (pc := 47) zr_26_47 rfl ?_
          refine ze_iconst (pc := 48) zr_26_48 (by decide) ?_
          refine zq_callV1 (pc := 49) (as := [.inr (.inr 89), .inl 0]) (r := []) (kc2 := 0) (ks2 := 0) zr_26_49 rfl (by decide) rfl rfl rfl rfl ⟨rfl, rfl⟩ ⟨rfl, rfl, rfl⟩ h (fun z6 V6 h => ?_)
          refine zq_if_ne (pc := 52) (t := 57) zr_26_52 (by decide) (z_toif h) (fun h => ?_) (fun h => ?_)
          · refine ze_iconst (pc := 55) zr_26_55 (by decide) ?_
            exact zq_ret4 (pc := 56) zr_26_56 rfl (by decide) h
          · exact h
        · exact h
    · refine ze_aload_n (pc := 37) zr_26_37 rfl ?_
      refine zq_callV0 (pc := 38) (as := [.inr (.inr 89)]) (r := []) (kc2 := 0) (ks2 := 0) zr_26_38 rfl (by decide) rfl rfl rfl rfl ⟨rfl, rfl⟩ rfl h (fun z2 V2 h => ?_)
      refine ze_iload_n (pc := 41) zr_26_41 rfl ?_
      refine ze_bipush (pc := 42) zr_26_42 (by decide) ?_
      refine zq_icmp_ne (pc := 44) (t := 57) zr_26_44 (by decide) (z_toif h) (fun h => ?_) (fun h => ?_)
      · refine ze_aload_n (pc := 47) zr_26_47 rfl ?_
        refine ze_iconst (pc := 48) zr_26_48 (by decide) ?_
        refine zq_callV1 (pc := 49) (as := [.inr (.inr 89), .inl 0]) (r := []) (kc2 := 0) (ks2 := 0) zr_26_49 rfl (by decide) rfl rfl rfl rfl ⟨rfl, rfl⟩ ⟨rfl, rfl, rfl⟩ h (fun z3 V3 h => ?_)
        refine zq_if_ne (pc := 52) (t := 57) zr_26_52 (by decide) (z_toif h) (fun h => ?_) (fun h => ?_)
        · refine ze_iconst (pc := 55) zr_26_55 (by decide) ?_
          exact zq_ret4 (pc := 56) zr_26_56 rfl (by decide) h
        · exact h
      · exact h
  refine ze_if_eq (pc := 6) (t := 14) zr_26_6 (by decide) (fun hc => ?_) (fun hc => ?_)
  · rw [if_pos (show z1 = 0 from hc)] at j6
    refine ze_bipush (pc := 14) zr_26_14 (by decide) ?_
    exact j6
  · rw [if_neg (show ¬ (z1 = 0) from hc)] at j6
    refine ze_bipush (pc := 9) zr_26_9 (by decide) ?_
    refine ze_goto (pc := 11) (t := 16) zr_26_11 (by decide) ?_
    exact j6
theorem zb26_89_p57 {d : Nat} {Q : Int → z_M → Prop} (l1 : Int) {V : z_M}
    (h : z_MS d 43 true [.inr (.inr 89), .inr (.inr 10)] V (fun z5801 V5801 => zI (z5801 = 0) (z_MS d 37 true [.inr (.inr 89), .inl l1, .inl 0] V5801 (fun z5802 V5802 => Q 1 V5802)) (z_MS d 40 true [.inr (.inr 89)] V5801 (fun z5803 V5803 => z_MS d 27 true [.inr (.inr 89), .inl 0] V5803 (fun z5804 V5804 => zI (z5804 = 0) (Q 0 V5804) (z_MS d 37 true [.inr (.inr 89), .inl 12, .inl 0] V5804 (fun z5805 V5805 => z_MS d 37 true [.inr (.inr 89), .inl l1, .inl 0] V5805 (fun z5806 V5806 => Q 1 V5806)))))))) :
    z_Ex (z_MS d) 26 Q true 57 [some (.inr (.inr 89)), some (.inl l1)] [] 0 0 V := by
  refine ze_aload_n (pc := 57) zr_26_57 rfl ?_
  refine ze_ldcS (pc := 58) zr_26_58 rfl (by decide) ?_
  refine zq_callV1 (pc := 60) (as := [.inr (.inr 89), .inr (.inr 10)]) (r := []) (kc2 := 0) (ks2 := 0) zr_26_60 rfl (by decide) rfl rfl rfl rfl ⟨rfl, rfl⟩ ⟨rfl, rfl, rfl⟩ h (fun z5801 V5801 h => ?_)
  refine zq_if_eq (pc := 63) (t := 88) zr_26_63 (by decide) (z_toif h) (fun h => ?_) (fun h => ?_)
  · refine ze_aload_n (pc := 88) zr_26_88 rfl ?_
    refine ze_iload_n (pc := 89) zr_26_89 rfl ?_
    refine ze_iconst (pc := 90) zr_26_90 (by decide) ?_
    refine zq_callV1 (pc := 91) (as := [.inr (.inr 89), .inl l1, .inl 0]) (r := []) (kc2 := 0) (ks2 := 0) zr_26_91 rfl (by decide) rfl rfl rfl rfl ⟨rfl, rfl⟩ ⟨rfl, rfl, rfl⟩ h (fun z5802 V5802 h => ?_)
    refine ze_pop (pc := 94) zr_26_94 rfl ?_
    refine ze_iconst (pc := 95) zr_26_95 (by decide) ?_
    exact zq_ret4 (pc := 96) zr_26_96 rfl (by decide) h
  · refine ze_aload_n (pc := 66) zr_26_66 rfl ?_
    refine zq_callV0 (pc := 67) (as := [.inr (.inr 89)]) (r := []) (kc2 := 0) (ks2 := 0) zr_26_67 rfl (by decide) rfl rfl rfl rfl ⟨rfl, rfl⟩ rfl h (fun z5803 V5803 h => ?_)
    refine ze_aload_n (pc := 70) zr_26_70 rfl ?_
    refine ze_iconst (pc := 71) zr_26_71 (by decide) ?_
    refine zq_callV1 (pc := 72) (as := [.inr (.inr 89), .inl 0]) (r := []) (kc2 := 0) (ks2 := 0) zr_26_72 rfl (by decide) rfl rfl rfl rfl ⟨rfl, rfl⟩ ⟨rfl, rfl, rfl⟩ h (fun z5804 V5804 h => ?_)
    refine zq_if_ne (pc := 75) (t := 80) zr_26_75 (by decide) (z_toif h) (fun h => ?_) (fun h => ?_)
    · refine ze_iconst (pc := 78) zr_26_78 (by decide) ?_
      exact zq_ret4 (pc := 79) zr_26_79 rfl (by decide) h
    · refine ze_aload_n (pc := 80) zr_26_80 rfl ?_
      refine ze_bipush (pc := 81) zr_26_81 (by decide) ?_
      refine ze_iconst (pc := 83) zr_26_83 (by decide) ?_
      refine zq_callV1 (pc := 84) (as := [.inr (.inr 89), .inl 12, .inl 0]) (r := []) (kc2 := 0) (ks2 := 0) zr_26_84 rfl (by decide) rfl rfl rfl rfl ⟨rfl, rfl⟩ ⟨rfl, rfl, rfl⟩ h (fun z5805 V5805 h => ?_)
      refine ze_pop (pc := 87) zr_26_87 rfl ?_
      refine ze_aload_n (pc := 88) zr_26_88 rfl ?_
      refine ze_iload_n (pc := 89) zr_26_89 rfl ?_
      refine ze_iconst (pc := 90) zr_26_90 (by decide) ?_
      refine zq_callV1 (pc := 91) (as := [.inr (.inr 89), .inl l1, .inl 0]) (r := []) (kc2 := 0) (ks2 := 0) zr_26_91 rfl (by decide) rfl rfl rfl rfl ⟨rfl, rfl⟩ ⟨rfl, rfl, rfl⟩ h (fun z5806 V5806 h => ?_)
      refine ze_pop (pc := 94) zr_26_94 rfl ?_
      refine ze_iconst (pc := 95) zr_26_95 (by decide) ?_
      exact zq_ret4 (pc := 96) zr_26_96 rfl (by decide) h
theorem zb27_89 {d : Nat} {Q : Int → z_M → Prop} (a0 : Int) {V : z_M}
    (h : z_MS d 28 true [.inr (.inr 89), .inl a0] V (fun z1 V1 => zI (z1 = 0) (Q 0 V1) (z_Ex (z_MS d) 27 Q true 12 [some (.inr (.inr 89)), some (.inl a0), some (.inl 0), none] [] 0 0 V1))) :
    z_MS (d + 1) 27 true [.inr (.inr 89), .inl a0] V Q := by
  show z_Ex (z_MS d) 27 Q true 0 [some (.inr (.inr 89)), some (.inl a0), none, none] [] 0 0 V
  refine ze_aload_n (pc := 0) zr_27_0 rfl ?_
  refine ze_iload_n (pc := 1) zr_27_1 rfl ?_
  refine zq_callV1 (pc := 2) (as := [.inr (.inr 89), .inl a0]) (r := []) (kc2 := 0) (ks2 := 0) zr_27_2 rfl (by decide) rfl rfl rfl rfl ⟨rfl, rfl⟩ ⟨rfl, rfl, rfl⟩ h (fun z1 V1 h => ?_)
  refine zq_if_ne (pc := 5) (t := 10) zr_27_5 (by decide) (z_toif h) (fun h => ?_) (fun h => ?_)
  · refine ze_iconst (pc := 8) zr_27_8 (by decide) ?_
    exact zq_ret4 (pc := 9) zr_27_9 rfl (by decide) h
  · refine ze_iconst (pc := 10) zr_27_10 (by decide) ?_
    refine zq_istore_n (pc := 11) (ls2 := [some (.inr (.inr 89)), some (.inl a0), some (.inl 0), none]) zr_27_11 rfl rfl ?_
    exact h
theorem zb27_89_p12 {d : Nat} {Q : Int → z_M → Prop} (l1 : Int) (l2 : Int) (o3 : Option z_V) {V : z_M}
    (h : zI (l2 < 400) (z_MS d 43 true [.inr (.inr 89), .inr (.inr 11)] V (fun z1301 V1301 => zI (z1301 = 0) (Q 1 V1301) (z_MS d 37 true [.inr (.inr 89), .inl 10, .inl 0] V1301 (fun z1302 V1302 => z_MS d 40 true [.inr (.inr 89)] V1302 (fun z1303 V1303 => z_MS d 28 true [.inr (.inr 89), .inl l1] V1303 (fun z1304 V1304 => zI (z1304 = 0) (Q 0 V1304) (zGu (0 ≤ z1302 ∧ z1302 < 400) (∀ W1301, W1301 = z_up V1304 91 z1302.toNat (V1304 89 3) → z_Ex (z_MS d) 27 Q true 12 [some (.inr (.inr 89)), some (.inl l1), some (.inl (z_add l2 1)), some (.inl z1302)] [] 0 0 W1301)))))))) (Q 1 V)) :
    z_Ex (z_MS d) 27 Q true 12 [some (.inr (.inr 89)), some (.inl l1), some (.inl l2), o3] [] 0 0 V := by
  refine ze_iload_n (pc := 12) zr_27_12 rfl ?_
  refine ze_sipush (pc := 13) zr_27_13 (by decide) ?_
  refine zq_icmp_ge (pc := 16) (t := 66) zr_27_16 (by decide) (z_toif h) (fun h => ?_) (fun h => ?_)
  · refine ze_aload_n (pc := 19) zr_27_19 rfl ?_
    refine ze_ldcS (pc := 20) zr_27_20 rfl (by decide) ?_
    refine zq_callV1 (pc := 22) (as := [.inr (.inr 89), .inr (.inr 11)]) (r := []) (kc2 := 0) (ks2 := 0) zr_27_22 rfl (by decide) rfl rfl rfl rfl ⟨rfl, rfl⟩ ⟨rfl, rfl, rfl⟩ h (fun z1301 V1301 h => ?_)
    refine zq_if_eq (pc := 25) (t := 66) zr_27_25 (by decide) (z_toif h) (fun h => ?_) (fun h => ?_)
    · refine ze_iconst (pc := 66) zr_27_66 (by decide) ?_
      exact zq_ret4 (pc := 67) zr_27_67 rfl (by decide) h
    · refine ze_aload_n (pc := 28) zr_27_28 rfl ?_
      refine ze_bipush (pc := 29) zr_27_29 (by decide) ?_
      refine ze_iconst (pc := 31) zr_27_31 (by decide) ?_
      refine zq_callV1 (pc := 32) (as := [.inr (.inr 89), .inl 10, .inl 0]) (r := []) (kc2 := 0) (ks2 := 0) zr_27_32 rfl (by decide) rfl rfl rfl rfl ⟨rfl, rfl⟩ ⟨rfl, rfl, rfl⟩ h (fun z1302 V1302 h => ?_)
      refine zq_istore_n (pc := 35) (ls2 := [some (.inr (.inr 89)), some (.inl l1), some (.inl l2), some (.inl z1302)]) zr_27_35 rfl rfl ?_
      refine ze_aload_n (pc := 36) zr_27_36 rfl ?_
      refine zq_callV0 (pc := 37) (as := [.inr (.inr 89)]) (r := []) (kc2 := 0) (ks2 := 0) zr_27_37 rfl (by decide) rfl rfl rfl rfl ⟨rfl, rfl⟩ rfl h (fun z1303 V1303 h => ?_)
      refine ze_aload_n (pc := 40) zr_27_40 rfl ?_
      refine ze_iload_n (pc := 41) zr_27_41 rfl ?_
      refine zq_callV1 (pc := 42) (as := [.inr (.inr 89), .inl l1]) (r := []) (kc2 := 0) (ks2 := 0) zr_27_42 rfl (by decide) rfl rfl rfl rfl ⟨rfl, rfl⟩ ⟨rfl, rfl, rfl⟩ h (fun z1304 V1304 h => ?_)
      refine zq_if_ne (pc := 45) (t := 50) zr_27_45 (by decide) (z_toif h) (fun h => ?_) (fun h => ?_)
      · refine ze_iconst (pc := 48) zr_27_48 (by decide) ?_
        exact zq_ret4 (pc := 49) zr_27_49 rfl (by decide) h
      · refine ze_aload_n (pc := 50) zr_27_50 rfl ?_
        refine ze_getfield (pc := 51) (v := .inr (.inr 91)) zr_27_51 rfl rfl ?_
        refine ze_iload_n (pc := 54) zr_27_54 rfl ?_
        refine ze_aload_n (pc := 55) zr_27_55 rfl ?_
        refine ze_getfield (pc := 56) (v := .inl (V1304 89 3)) zr_27_56 rfl rfl ?_
        refine z_gk h (fun g59 h => ?_)
        refine zq_iastore (pc := 59) zr_27_59 (by decide) rfl g59 rfl h (fun W1301 h => ?_)
        refine zq_iinc (pc := 60) (ls2 := [some (.inr (.inr 89)), some (.inl l1), some (.inl (z_add l2 1)), some (.inl z1302)]) zr_27_60 rfl rfl rfl ?_
        refine ze_goto (pc := 63) (t := 12) zr_27_63 (by decide) ?_
        exact h
  · refine ze_iconst (pc := 66) zr_27_66 (by decide) ?_
    exact zq_ret4 (pc := 67) zr_27_67 rfl (by decide) h
theorem zb28_89 {d : Nat} {Q : Int → z_M → Prop} (a0 : Int) {V : z_M}
    (h : z_MS d 29 true [.inr (.inr 89), .inl a0] V (fun z1 V1 => zI (z1 = 0) (Q 0 V1) (z_Ex (z_MS d) 28 Q true 12 [some (.inr (.inr 89)), some (.inl a0), some (.inl 0), none] [] 0 0 V1))) :
    z_MS (d + 1) 28 true [.inr (.inr 89), .inl a0] V Q := by
  show z_Ex (z_MS d) 28 Q true 0 [some (.inr (.inr 89)), some (.inl a0), none, none] [] 0 0 V
  refine ze_aload_n (pc := 0) zr_28_0 rfl ?_
  refine ze_iload_n (pc := 1) zr_28_1 rfl ?_
  refine zq_callV1 (pc := 2) (as := [.inr (.inr 89), .inl a0]) (r := []) (kc2 := 0) (ks2 := 0) zr_28_2 rfl (by decide) rfl rfl rfl rfl ⟨rfl, rfl⟩ ⟨rfl, rfl, rfl⟩ h (fun z1 V1 h => ?_)
  refine zq_if_ne (pc := 5) (t := 10) zr_28_5 (by decide) (z_toif h) (fun h => ?_) (fun h => ?_)
  · refine ze_iconst (pc := 8) zr_28_8 (by decide) ?_
    exact zq_ret4 (pc := 9) zr_28_9 rfl (by decide) h
  · refine ze_iconst (pc := 10) zr_28_10 (by decide) ?_
    refine zq_istore_n (pc := 11) (ls2 := [some (.inr (.inr 89)), some (.inl a0), some (.inl 0), none]) zr_28_11 rfl rfl ?_
    exact h
theorem zb28_89_p12 {d : Nat} {Q : Int → z_M → Prop} (l1 : Int) (l2 : Int) (o3 : Option z_V) {V : z_M}
    (h : zI (l2 < 400) (z_MS d 43 true [.inr (.inr 89), .inr (.inr 12)] V (fun z1301 V1301 => zI (z1301 = 0) (Q 1 V1301) (z_MS d 37 true [.inr (.inr 89), .inl 11, .inl 0] V1301 (fun z1302 V1302 => z_MS d 40 true [.inr (.inr 89)] V1302 (fun z1303 V1303 => z_MS d 29 true [.inr (.inr 89), .inl l1] V1303 (fun z1304 V1304 => zI (z1304 = 0) (Q 0 V1304) (zGu (0 ≤ z1302 ∧ z1302 < 400) (∀ W1301, W1301 = z_up V1304 91 z1302.toNat (V1304 89 3) → z_Ex (z_MS d) 28 Q true 12 [some (.inr (.inr 89)), some (.inl l1), some (.inl (z_add l2 1)), some (.inl z1302)] [] 0 0 W1301)))))))) (Q 1 V)) :
    z_Ex (z_MS d) 28 Q true 12 [some (.inr (.inr 89)), some (.inl l1), some (.inl l2), o3] [] 0 0 V := by
  refine ze_iload_n (pc := 12) zr_28_12 rfl ?_
  refine ze_sipush (pc := 13) zr_28_13 (by decide) ?_
  refine zq_icmp_ge (pc := 16) (t := 66) zr_28_16 (by decide) (z_toif h) (fun h => ?_) (fun h => ?_)
  · refine ze_aload_n (pc := 19) zr_28_19 rfl ?_
    refine ze_ldcS (pc := 20) zr_28_20 rfl (by decide) ?_
    refine zq_callV1 (pc := 22) (as := [.inr (.inr 89), .inr (.inr 12)]) (r := []) (kc2 := 0) (ks2 := 0) zr_28_22 rfl (by decide) rfl rfl rfl rfl ⟨rfl, rfl⟩ ⟨rfl, rfl, rfl⟩ h (fun z1301 V1301 h => ?_)
    refine zq_if_eq (pc := 25) (t := 66) zr_28_25 (by decide) (z_toif h) (fun h => ?_) (fun h => ?_)
    · refine ze_iconst (pc := 66) zr_28_66 (by decide) ?_
      exact zq_ret4 (pc := 67) zr_28_67 rfl (by decide) h
    · refine ze_aload_n (pc := 28) zr_28_28 rfl ?_
      refine ze_bipush (pc := 29) zr_28_29 (by decide) ?_
      refine ze_iconst (pc := 31) zr_28_31 (by decide) ?_
      refine zq_callV1 (pc := 32) (as := [.inr (.inr 89), .inl 11, .inl 0]) (r := []) (kc2 := 0) (ks2 := 0) zr_28_32 rfl (by decide) rfl rfl rfl rfl ⟨rfl, rfl⟩ ⟨rfl, rfl, rfl⟩ h (fun z1302 V1302 h => ?_)
      refine zq_istore_n (pc := 35) (ls2 := [some (.inr (.inr 89)), some (.inl l1), some (.inl l2), some (.inl z1302)]) zr_28_35 rfl rfl ?_
      refine ze_aload_n (pc := 36) zr_28_36 rfl ?_
      refine zq_callV0 (pc := 37) (as := [.inr (.inr 89)]) (r := []) (kc2 := 0) (ks2 := 0) zr_28_37 rfl (by decide) rfl rfl rfl rfl ⟨rfl, rfl⟩ rfl h (fun z1303 V1303 h => ?_)
      refine ze_aload_n (pc := 40) zr_28_40 rfl ?_
      refine ze_iload_n (pc := 41) zr_28_41 rfl ?_
      refine zq_callV1 (pc := 42) (as := [.inr (.inr 89), .inl l1]) (r := []) (kc2 := 0) (ks2 := 0) zr_28_42 rfl (by decide) rfl rfl rfl rfl ⟨rfl, rfl⟩ ⟨rfl, rfl, rfl⟩ h (fun z1304 V1304 h => ?_)
      refine zq_if_ne (pc := 45) (t := 50) zr_28_45 (by decide) (z_toif h) (fun h => ?_) (fun h => ?_)
      · refine ze_iconst (pc := 48) zr_28_48 (by decide) ?_
        exact zq_ret4 (pc := 49) zr_28_49 rfl (by decide) h
      · refine ze_aload_n (pc := 50) zr_28_50 rfl ?_
        refine ze_getfield (pc := 51) (v := .inr (.inr 91)) zr_28_51 rfl rfl ?_
        refine ze_iload_n (pc := 54) zr_28_54 rfl ?_
        refine ze_aload_n (pc := 55) zr_28_55 rfl ?_
        refine ze_getfield (pc := 56) (v := .inl (V1304 89 3)) zr_28_56 rfl rfl ?_
        refine z_gk h (fun g59 h => ?_)
        refine zq_iastore (pc := 59) zr_28_59 (by decide) rfl g59 rfl h (fun W1301 h => ?_)
        refine zq_iinc (pc := 60) (ls2 := [some (.inr (.inr 89)), some (.inl l1), some (.inl (z_add l2 1)), some (.inl z1302)]) zr_28_60 rfl rfl rfl ?_
        refine ze_goto (pc := 63) (t := 12) zr_28_63 (by decide) ?_
        exact h
  · refine ze_iconst (pc := 66) zr_28_66 (by decide) ?_
    exact zq_ret4 (pc := 67) zr_28_67 rfl (by decide) h
theorem zb29_89 {d : Nat} {Q : Int → z_M → Prop} (a0 : Int) {V : z_M}
    (h : z_Ex (z_MS d) 29 Q true 4 [some (.inr (.inr 89)), some (.inl a0), some (.inl 0), some (.inl 0)] [] 0 0 V) :
    z_MS (d + 1) 29 true [.inr (.inr 89), .inl a0] V Q := by
  show z_Ex (z_MS d) 29 Q true 0 [some (.inr (.inr 89)), some (.inl a0), none, none] [] 0 0 V
  refine ze_iconst (pc := 0) zr_29_0 (by decide) ?_
  refine zq_istore_n (pc := 1) (ls2 := [some (.inr (.inr 89)), some (.inl a0), some (.inl 0), none]) zr_29_1 rfl rfl ?_
  refine ze_iconst (pc := 2) zr_29_2 (by decide) ?_
  refine zq_istore_n (pc := 3) (ls2 := [some (.inr (.inr 89)), some (.inl a0), some (.inl 0), some (.inl 0)]) zr_29_3 rfl rfl ?_
  exact h
theorem zb29_89_p4 {d : Nat} {Q : Int → z_M → Prop} (l1 : Int) (l2 : Int) (l3 : Int) {V : z_M}
    (h : zI (l3 < 400) (z_MS d 43 true [.inr (.inr 89), .inr (.inr 13)] V (fun z501 V501 => zI (z501 = 0) (z_Ex (z_MS d) 29 Q true 40 [some (.inr (.inr 89)), some (.inl l1), some (.inl l2), some (.inl l3)] [] 0 0 V501) (z_MS d 40 true [.inr (.inr 89)] V501 (fun z502 V502 => z_Ex (z_MS d) 29 Q true 4 [some (.inr (.inr 89)), some (.inl l1), some (.inl (if l2 = 0 then 1 else 0)), some (.inl (z_add l3 1))] [] 0 0 V502)))) (z_Ex (z_MS d) 29 Q true 40 [some (.inr (.inr 89)), some (.inl l1), some (.inl l2), some (.inl l3)] [] 0 0 V)) :
    z_Ex (z_MS d) 29 Q true 4 [some (.inr (.inr 89)), some (.inl l1), some (.inl l2), some (.inl l3)] [] 0 0 V := by
  refine ze_iload_n (pc := 4) zr_29_4 rfl ?_
  refine ze_sipush (pc := 5) zr_29_5 (by decide) ?_
  refine zq_icmp_ge (pc := 8) (t := 40) zr_29_8 (by decide) (z_toif h) (fun h => ?_) (fun h => ?_)
  · refine ze_aload_n (pc := 11) zr_29_11 rfl ?_
    refine ze_ldcS (pc := 12) zr_29_12 rfl (by decide) ?_
    refine zq_callV1 (pc := 14) (as := [.inr (.inr 89), .inr (.inr 13)]) (r := []) (kc2 := 0) (ks2 := 0) zr_29_14 rfl (by decide) rfl rfl rfl rfl ⟨rfl, rfl⟩ ⟨rfl, rfl, rfl⟩ h (fun z501 V501 h => ?_)
    refine zq_if_eq (pc := 17) (t := 40) zr_29_17 (by decide) (z_toif h) (fun h => ?_) (fun h => ?_)
    · exact h
    · refine ze_iload_n (pc := 20) zr_29_20 rfl ?_
      have j21 : z_Ex (z_MS d) 29 Q true 29 [some (.inr (.inr 89)), some (.inl l1), some (.inl l2), some (.inl l3)] [.inl (if l2 = 0 then 1 else 0)] 0 0 V501 := by
        refine zq_istore_n (pc := 29) (ls2 := [some (.inr (.inr 89)), some (.inl l1), some (.inl (if l2 = 0 then 1 else 0)), some (.inl l3)]) zr_29_29 rfl rfl ?_
        refine ze_aload_n (pc := 30) zr_29_30 rfl ?_
        refine zq_callV0 (pc := 31) (as := [.inr (.inr 89)]) (r := []) (kc2 := 0) (ks2 := 0) zr_29_31 rfl (by decide) rfl rfl rfl rfl ⟨rfl, rfl⟩ rfl h (fun z502 V502 h => ?_)
        refine zq_iinc (pc := 34) (ls2 := [some (.inr (.inr 89)), some (.inl l1), some (.inl (if l2 = 0 then 1 else 0)), some (.inl (z_add l3 1))]) zr_29_34 rfl rfl rfl ?_
        refine ze_goto (pc := 37) (t := 4) zr_29_37 (by decide) ?_
        exact h
      refine ze_if_ne (pc := 21) (t := 28) zr_29_21 (by decide) (fun hc => ?_) (fun hc => ?_)
      · rw [if_pos (show l2 = 0 from hc)] at j21
        refine ze_iconst (pc := 24) zr_29_24 (by decide) ?_
        refine ze_goto (pc := 25) (t := 29) zr_29_25 (by decide) ?_
        exact j21
      · rw [if_neg (show ¬ (l2 = 0) from hc)] at j21
        refine ze_iconst (pc := 28) zr_29_28 (by decide) ?_
        exact j21
  · exact h
theorem zb29_89_p40 {d : Nat} {Q : Int → z_M → Prop} (l1 : Int) (l2 : Int) (o3 : Option z_V) {V : z_M}
    (h : z_MS d 42 true [.inr (.inr 89), .inl 40] V (fun z4101 V4101 => zI (z4101 = 0) (z_MS d 32 true [.inr (.inr 89), .inl l1] V4101 (fun z4102 V4102 => zI (z4102 = 0) (Q 0 V4102) (z_MS d 31 true [.inr (.inr 89)] V4102 (fun z4103 V4103 => zI (z4103 = (-1)) (z_MS d 38 true [.inr (.inr 89)] V4103 (fun z4108 V4108 => zGu (z4108 = 0 ∨ z4108 = 1) (Q z4108 V4108))) (z_MS d 40 true [.inr (.inr 89)] V4103 (fun z4104 V4104 => z_MS d 32 true [.inr (.inr 89), .inl l1] V4104 (fun z4105 V4105 => zI (z4105 = 0) (Q 0 V4105) (z_MS d 37 true [.inr (.inr 89), .inl z4103, .inl 0] V4105 (fun z4106 V4106 => zI (l2 = 0) (Q 1 V4106) (z_MS d 37 true [.inr (.inr 89), .inl 9, .inl 0] V4106 (fun z4107 V4107 => Q 1 V4107))))))))))) (z_MS d 30 true [.inr (.inr 89), .inl l1] V4101 (fun z4109 V4109 => zI (z4109 = 0) (Q 0 V4109) (zI (l2 = 0) (Q 1 V4109) (z_MS d 37 true [.inr (.inr 89), .inl 9, .inl 0] V4109 (fun z4110 V4110 => Q 1 V4110))))))) :
    z_Ex (z_MS d) 29 Q true 40 [some (.inr (.inr 89)), some (.inl l1), some (.inl l2), o3] [] 0 0 V := by
  refine ze_aload_n (pc := 40) zr_29_40 rfl ?_
  refine ze_bipush (pc := 41) zr_29_41 (by decide) ?_
  refine zq_callV1 (pc := 43) (as := [.inr (.inr 89), .inl 40]) (r := []) (kc2 := 0) (ks2 := 0) zr_29_43 rfl (by decide) rfl rfl rfl rfl ⟨rfl, rfl⟩ ⟨rfl, rfl, rfl⟩ h (fun z4101 V4101 h => ?_)
  refine zq_if_eq (pc := 46) (t := 59) zr_29_46 (by decide) (z_toif h) (fun h => ?_) (fun h => ?_)
  · refine ze_aload_n (pc := 59) zr_29_59 rfl ?_
    refine ze_iload_n (pc := 60) zr_29_60 rfl ?_
    refine zq_callV1 (pc := 61) (as := [.inr (.inr 89), .inl l1]) (r := []) (kc2 := 0) (ks2 := 0) zr_29_61 rfl (by decide) rfl rfl rfl rfl ⟨rfl, rfl⟩ ⟨rfl, rfl, rfl⟩ h (fun z4102 V4102 h => ?_)
    refine zq_if_ne (pc := 64) (t := 69) zr_29_64 (by decide) (z_toif h) (fun h => ?_) (fun h => ?_)
    · refine ze_iconst (pc := 67) zr_29_67 (by decide) ?_
      exact zq_ret4 (pc := 68) zr_29_68 rfl (by decide) h
    · refine ze_aload_n (pc := 69) zr_29_69 rfl ?_
      refine zq_callV1 (pc := 70) (as := [.inr (.inr 89)]) (r := []) (kc2 := 0) (ks2 := 0) zr_29_70 rfl (by decide) rfl rfl rfl rfl ⟨rfl, rfl⟩ ⟨rfl, rfl, rfl⟩ h (fun z4103 V4103 h => ?_)
      refine zq_istore_n (pc := 73) (ls2 := [some (.inr (.inr 89)), some (.inl l1), some (.inl l2), some (.inl z4103)]) zr_29_73 rfl rfl ?_
      refine ze_iload_n (pc := 74) zr_29_74 rfl ?_
      refine ze_iconst (pc := 75) zr_29_75 (by decide) ?_
      refine zq_icmp_ne (pc := 76) (t := 84) zr_29_76 (by decide) (z_toif h) (fun h => ?_) (fun h => ?_)
      · refine ze_aload_n (pc := 79) zr_29_79 rfl ?_
        refine zq_callV1 (pc := 80) (as := [.inr (.inr 89)]) (r := []) (kc2 := 0) (ks2 := 0) zr_29_80 rfl (by decide) rfl rfl rfl rfl ⟨rfl, rfl⟩ ⟨rfl, rfl, rfl⟩ h (fun z4108 V4108 h => ?_)
        refine z_gk h (fun g83 h => ?_)
        exact zq_ret4 (pc := 83) zr_29_83 rfl g83 h
      · refine ze_aload_n (pc := 84) zr_29_84 rfl ?_
        refine zq_callV0 (pc := 85) (as := [.inr (.inr 89)]) (r := []) (kc2 := 0) (ks2 := 0) zr_29_85 rfl (by decide) rfl rfl rfl rfl ⟨rfl, rfl⟩ rfl h (fun z4104 V4104 h => ?_)
        refine ze_aload_n (pc := 88) zr_29_88 rfl ?_
        refine ze_iload_n (pc := 89) zr_29_89 rfl ?_
        refine zq_callV1 (pc := 90) (as := [.inr (.inr 89), .inl l1]) (r := []) (kc2 := 0) (ks2 := 0) zr_29_90 rfl (by decide) rfl rfl rfl rfl ⟨rfl, rfl⟩ ⟨rfl, rfl, rfl⟩ h (fun z4105 V4105 h => ?_)
        refine zq_if_ne (pc := 93) (t := 98) zr_29_93 (by decide) (z_toif h) (fun h => ?_) (fun h => ?_)
        · refine ze_iconst (pc := 96) zr_29_96 (by decide) ?_
          exact zq_ret4 (pc := 97) zr_29_97 rfl (by decide) h
        · refine ze_aload_n (pc := 98) zr_29_98 rfl ?_
          refine ze_iload_n (pc := 99) zr_29_99 rfl ?_
          refine ze_iconst (pc := 100) zr_29_100 (by decide) ?_
          refine zq_callV1 (pc := 101) (as := [.inr (.inr 89), .inl z4103, .inl 0]) (r := []) (kc2 := 0) (ks2 := 0) zr_29_101 rfl (by decide) rfl rfl rfl rfl ⟨rfl, rfl⟩ ⟨rfl, rfl, rfl⟩ h (fun z4106 V4106 h => ?_)
          refine ze_pop (pc := 104) zr_29_104 rfl ?_
          refine ze_iload_n (pc := 105) zr_29_105 rfl ?_
          refine zq_if_eq (pc := 106) (t := 117) zr_29_106 (by decide) (z_toif h) (fun h => ?_) (fun h => ?_)
          · refine ze_iconst (pc := 117) zr_29_117 (by decide) ?_
            exact zq_ret4 (pc := 118) zr_29_118 rfl (by decide) h
          · refine ze_aload_n (pc := 109) zr_29_109 rfl ?_
            refine ze_bipush (pc := 110) zr_29_110 (by decide) ?_
            refine ze_iconst (pc := 112) zr_29_112 (by decide) ?_
            refine zq_callV1 (pc := 113) (as := [.inr (.inr 89), .inl 9, .inl 0]) (r := []) (kc2 := 0) (ks2 := 0) zr_29_113 rfl (by decide) rfl rfl rfl rfl ⟨rfl, rfl⟩ ⟨rfl, rfl, rfl⟩ h (fun z4107 V4107 h => ?_)
            refine ze_pop (pc := 116) zr_29_116 rfl ?_
            refine ze_iconst (pc := 117) zr_29_117 (by decide) ?_
            exact zq_ret4 (pc := 118) zr_29_118 rfl (by decide) h
  · refine ze_aload_n (pc := 49) zr_29_49 rfl ?_
    refine ze_iload_n (pc := 50) zr_29_50 rfl ?_
    refine zq_callV1 (pc := 51) (as := [.inr (.inr 89), .inl l1]) (r := []) (kc2 := 0) (ks2 := 0) zr_29_51 rfl (by decide) rfl rfl rfl rfl ⟨rfl, rfl⟩ ⟨rfl, rfl, rfl⟩ h (fun z4109 V4109 h => ?_)
    refine zq_if_ne (pc := 54) (t := 105) zr_29_54 (by decide) (z_toif h) (fun h => ?_) (fun h => ?_)
    · refine ze_iconst (pc := 57) zr_29_57 (by decide) ?_
      exact zq_ret4 (pc := 58) zr_29_58 rfl (by decide) h
    · refine ze_iload_n (pc := 105) zr_29_105 rfl ?_
      refine zq_if_eq (pc := 106) (t := 117) zr_29_106 (by decide) (z_toif h) (fun h => ?_) (fun h => ?_)
      · refine ze_iconst (pc := 117) zr_29_117 (by decide) ?_
        exact zq_ret4 (pc := 118) zr_29_118 rfl (by decide) h
      · refine ze_aload_n (pc := 109) zr_29_109 rfl ?_
        refine ze_bipush (pc := 110) zr_29_110 (by decide) ?_
        refine ze_iconst (pc := 112) zr_29_112 (by decide) ?_
        refine zq_callV1 (pc := 113) (as := [.inr (.inr 89), .inl 9, .inl 0]) (r := []) (kc2 := 0) (ks2 := 0) zr_29_113 rfl (by decide) rfl rfl rfl rfl ⟨rfl, rfl⟩ ⟨rfl, rfl, rfl⟩ h (fun z4110 V4110 h => ?_)
        refine ze_pop (pc := 116) zr_29_116 rfl ?_
        refine ze_iconst (pc := 117) zr_29_117 (by decide) ?_
        exact zq_ret4 (pc := 118) zr_29_118 rfl (by decide) h
theorem zb30_89 {d : Nat} {Q : Int → z_M → Prop} (a0 : Int) {V : z_M}
    (h : zI (a0 < 8) (z_MS d 40 true [.inr (.inr 89)] V (fun z1 V1 => z_MS d 27 true [.inr (.inr 89), .inl (z_add a0 1)] V1 (fun z2 V2 => zI (z2 = 0) (Q 0 V2) (z_MS d 39 true [.inr (.inr 89), .inl 41] V2 (fun z3 V3 => Q (if z3 = 0 then 0 else 1) V3))))) (z_MS d 38 true [.inr (.inr 89)] V (fun z4 V4 => zGu (z4 = 0 ∨ z4 = 1) (Q z4 V4)))) :
    z_MS (d + 1) 30 true [.inr (.inr 89), .inl a0] V Q := by
  show z_Ex (z_MS d) 30 Q true 0 [some (.inr (.inr 89)), some (.inl a0)] [] 0 0 V
  refine ze_iload_n (pc := 0) zr_30_0 rfl ?_
  refine ze_bipush (pc := 1) zr_30_1 (by decide) ?_
  refine zq_icmp_lt (pc := 3) (t := 11) zr_30_3 (by decide) (z_toif h) (fun h => ?_) (fun h => ?_)
  · refine ze_aload_n (pc := 11) zr_30_11 rfl ?_
    refine zq_callV0 (pc := 12) (as := [.inr (.inr 89)]) (r := []) (kc2 := 0) (ks2 := 0) zr_30_12 rfl (by decide) rfl rfl rfl rfl ⟨rfl, rfl⟩ rfl h (fun z1 V1 h => ?_)
    refine ze_aload_n (pc := 15) zr_30_15 rfl ?_
    refine ze_iload_n (pc := 16) zr_30_16 rfl ?_
    refine ze_iconst (pc := 17) zr_30_17 (by decide) ?_
    refine ze_iadd (pc := 18) zr_30_18 ?_
    refine zq_callV1 (pc := 19) (as := [.inr (.inr 89), .inl (z_add a0 1)]) (r := []) (kc2 := 0) (ks2 := 0) zr_30_19 rfl (by decide) rfl rfl rfl rfl ⟨rfl, rfl⟩ ⟨rfl, rfl, rfl⟩ h (fun z2 V2 h => ?_)
    refine zq_if_eq (pc := 22) (t := 38) zr_30_22 (by decide) (z_toif h) (fun h => ?_) (fun h => ?_)
    · refine ze_iconst (pc := 38) zr_30_38 (by decide) ?_
      exact zq_ret4 (pc := 39) zr_30_39 rfl (by decide) h
    · refine ze_aload_n (pc := 25) zr_30_25 rfl ?_
      refine ze_bipush (pc := 26) zr_30_26 (by decide) ?_
      refine zq_callV1 (pc := 28) (as := [.inr (.inr 89), .inl 41]) (r := []) (kc2 := 0) (ks2 := 0) zr_30_28 rfl (by decide) rfl rfl rfl rfl ⟨rfl, rfl⟩ ⟨rfl, rfl, rfl⟩ h (fun z3 V3 h => ?_)
      have j31 : z_Ex (z_MS d) 30 Q true 39 [some (.inr (.inr 89)), some (.inl a0)] [.inl (if z3 = 0 then 0 else 1)] 0 0 V3 := by
        exact zq_ret4 (pc := 39) zr_30_39 rfl (by (repeat' split) <;> decide) h
      refine ze_if_eq (pc := 31) (t := 38) zr_30_31 (by decide) (fun hc => ?_) (fun hc => ?_)
      · rw [if_pos (show z3 = 0 from hc)] at j31
        refine ze_iconst (pc := 38) zr_30_38 (by decide) ?_
        exact j31
      · rw [if_neg (show ¬ (z3 = 0) from hc)] at j31
        refine ze_iconst (pc := 34) zr_30_34 (by decide) ?_
        refine ze_goto (pc := 35) (t := 39) zr_30_35 (by decide) ?_
        exact j31
  · refine ze_aload_n (pc := 6) zr_30_6 rfl ?_
    refine zq_callV1 (pc := 7) (as := [.inr (.inr 89)]) (r := []) (kc2 := 0) (ks2 := 0) zr_30_7 rfl (by decide) rfl rfl rfl rfl ⟨rfl, rfl⟩ ⟨rfl, rfl, rfl⟩ h (fun z4 V4 h => ?_)
    refine z_gk h (fun g10 h => ?_)
    exact zq_ret4 (pc := 10) zr_30_10 rfl g10 h
theorem zb31_89 {d : Nat} {Q : Int → z_M → Prop}  {V : z_M}
    (h : z_MS d 42 true [.inr (.inr 89), .inl 60] V (fun z1 V1 => zI (z1 = 0) (z_MS d 42 true [.inr (.inr 89), .inl 62] V1 (fun z2 V2 => zI (z2 = 0) (z_MS d 42 true [.inr (.inr 89), .inl 61] V2 (fun z3 V3 => Q (if z3 = 0 then -1 else 8) V3)) (Q 7 V2))) (Q 6 V1))) :
    z_MS (d + 1) 31 true [.inr (.inr 89)] V Q := by
  show z_Ex (z_MS d) 31 Q true 0 [some (.inr (.inr 89))] [] 0 0 V
  refine ze_aload_n (pc := 0) zr_31_0 rfl ?_
  refine ze_bipush (pc := 1) zr_31_1 (by decide) ?_
  refine zq_callV1 (pc := 3) (as := [.inr (.inr 89), .inl 60]) (r := []) (kc2 := 0) (ks2 := 0) zr_31_3 rfl (by decide) rfl rfl rfl rfl ⟨rfl, rfl⟩ ⟨rfl, rfl, rfl⟩ h (fun z1 V1 h => ?_)
  refine zq_if_eq (pc := 6) (t := 12) zr_31_6 (by decide) (z_toif h) (fun h => ?_) (fun h => ?_)
  · refine ze_aload_n (pc := 12) zr_31_12 rfl ?_
    refine ze_bipush (pc := 13) zr_31_13 (by decide) ?_
    refine zq_callV1 (pc := 15) (as := [.inr (.inr 89), .inl 62]) (r := []) (kc2 := 0) (ks2 := 0) zr_31_15 rfl (by decide) rfl rfl rfl rfl ⟨rfl, rfl⟩ ⟨rfl, rfl, rfl⟩ h (fun z2 V2 h => ?_)
    refine zq_if_eq (pc := 18) (t := 24) zr_31_18 (by decide) (z_toif h) (fun h => ?_) (fun h => ?_)
    · refine ze_aload_n (pc := 24) zr_31_24 rfl ?_
      refine ze_bipush (pc := 25) zr_31_25 (by decide) ?_
      refine zq_callV1 (pc := 27) (as := [.inr (.inr 89), .inl 61]) (r := []) (kc2 := 0) (ks2 := 0) zr_31_27 rfl (by decide) rfl rfl rfl rfl ⟨rfl, rfl⟩ ⟨rfl, rfl, rfl⟩ h (fun z3 V3 h => ?_)
      have j30 : z_Ex (z_MS d) 31 Q true 39 [some (.inr (.inr 89))] [.inl (if z3 = 0 then -1 else 8)] 0 0 V3 := by
        exact zq_ret1 (pc := 39) zr_31_39 rfl h
      refine ze_if_eq (pc := 30) (t := 38) zr_31_30 (by decide) (fun hc => ?_) (fun hc => ?_)
      · rw [if_pos (show z3 = 0 from hc)] at j30
        refine ze_iconst (pc := 38) zr_31_38 (by decide) ?_
        exact j30
      · rw [if_neg (show ¬ (z3 = 0) from hc)] at j30
        refine ze_bipush (pc := 33) zr_31_33 (by decide) ?_
        refine ze_goto (pc := 35) (t := 39) zr_31_35 (by decide) ?_
        exact j30
    · refine ze_bipush (pc := 21) zr_31_21 (by decide) ?_
      exact zq_ret1 (pc := 23) zr_31_23 rfl h
  · refine ze_bipush (pc := 9) zr_31_9 (by decide) ?_
    exact zq_ret1 (pc := 11) zr_31_11 rfl h
theorem zb32_89 {d : Nat} {Q : Int → z_M → Prop} (a0 : Int) {V : z_M}
    (h : z_MS d 33 true [.inr (.inr 89), .inl a0] V (fun z1 V1 => zI (z1 = 0) (Q 0 V1) (z_Ex (z_MS d) 32 Q true 12 [some (.inr (.inr 89)), some (.inl a0), some (.inl 0), none] [] 0 0 V1))) :
    z_MS (d + 1) 32 true [.inr (.inr 89), .inl a0] V Q := by
  show z_Ex (z_MS d) 32 Q true 0 [some (.inr (.inr 89)), some (.inl a0), none, none] [] 0 0 V
  refine ze_aload_n (pc := 0) zr_32_0 rfl ?_
  refine ze_iload_n (pc := 1) zr_32_1 rfl ?_
  refine zq_callV1 (pc := 2) (as := [.inr (.inr 89), .inl a0]) (r := []) (kc2 := 0) (ks2 := 0) zr_32_2 rfl (by decide) rfl rfl rfl rfl ⟨rfl, rfl⟩ ⟨rfl, rfl, rfl⟩ h (fun z1 V1 h => ?_)
  refine zq_if_ne (pc := 5) (t := 10) zr_32_5 (by decide) (z_toif h) (fun h => ?_) (fun h => ?_)
  · refine ze_iconst (pc := 8) zr_32_8 (by decide) ?_
    exact zq_ret4 (pc := 9) zr_32_9 rfl (by decide) h
  · refine ze_iconst (pc := 10) zr_32_10 (by decide) ?_
    refine zq_istore_n (pc := 11) (ls2 := [some (.inr (.inr 89)), some (.inl a0), some (.inl 0), none]) zr_32_11 rfl rfl ?_
    exact h
theorem zb32_89_p12 {d : Nat} {Q : Int → z_M → Prop} (l1 : Int) (l2 : Int) (o3 : Option z_V) {V : z_M}
    (h : zI (l2 < 400) (z_MS d 42 true [.inr (.inr 89), .inl 43] V (fun z1301 V1301 => zI (z1301 = 0) (z_MS d 42 true [.inr (.inr 89), .inl 45] V1301 (fun z1302 V1302 => zI (z1302 = 0) (Q 1 V1302) (z_Ex (z_MS d) 32 Q true 37 [some (.inr (.inr 89)), some (.inl l1), some (.inl l2), o3] [] 0 0 V1302))) (z_Ex (z_MS d) 32 Q true 37 [some (.inr (.inr 89)), some (.inl l1), some (.inl l2), o3] [] 0 0 V1301))) (Q 1 V)) :
    z_Ex (z_MS d) 32 Q true 12 [some (.inr (.inr 89)), some (.inl l1), some (.inl l2), o3] [] 0 0 V := by
  refine ze_iload_n (pc := 12) zr_32_12 rfl ?_
  refine ze_sipush (pc := 13) zr_32_13 (by decide) ?_
  refine zq_icmp_ge (pc := 16) (t := 79) zr_32_16 (by decide) (z_toif h) (fun h => ?_) (fun h => ?_)
  · refine ze_aload_n (pc := 19) zr_32_19 rfl ?_
    refine ze_bipush (pc := 20) zr_32_20 (by decide) ?_
    refine zq_callV1 (pc := 22) (as := [.inr (.inr 89), .inl 43]) (r := []) (kc2 := 0) (ks2 := 0) zr_32_22 rfl (by decide) rfl rfl rfl rfl ⟨rfl, rfl⟩ ⟨rfl, rfl, rfl⟩ h (fun z1301 V1301 h => ?_)
    refine zq_if_ne (pc := 25) (t := 37) zr_32_25 (by decide) (z_toif h) (fun h => ?_) (fun h => ?_)
    · refine ze_aload_n (pc := 28) zr_32_28 rfl ?_
      refine ze_bipush (pc := 29) zr_32_29 (by decide) ?_
      refine zq_callV1 (pc := 31) (as := [.inr (.inr 89), .inl 45]) (r := []) (kc2 := 0) (ks2 := 0) zr_32_31 rfl (by decide) rfl rfl rfl rfl ⟨rfl, rfl⟩ ⟨rfl, rfl, rfl⟩ h (fun z1302 V1302 h => ?_)
      refine zq_if_eq (pc := 34) (t := 79) zr_32_34 (by decide) (z_toif h) (fun h => ?_) (fun h => ?_)
      · refine ze_iconst (pc := 79) zr_32_79 (by decide) ?_
        exact zq_ret4 (pc := 80) zr_32_80 rfl (by decide) h
      · exact h
    · exact h
  · refine ze_iconst (pc := 79) zr_32_79 (by decide) ?_
    exact zq_ret4 (pc := 80) zr_32_80 rfl (by decide) h
theorem zb32_89_p37 {d : Nat} {Q : Int → z_M → Prop} (l1 : Int) (l2 : Int) (o3 : Option z_V) {V : z_M}
    (h : z_MS d 42 true [.inr (.inr 89), .inl 43] V (fun z3801 V3801 => z_Ex (z_MS d) 32 Q true 51 [some (.inr (.inr 89)), some (.inl l1), some (.inl l2), o3] [.inl (if z3801 = 0 then 3 else 2)] 0 0 V3801)) :
    z_Ex (z_MS d) 32 Q true 37 [some (.inr (.inr 89)), some (.inl l1), some (.inl l2), o3] [] 0 0 V := by
  refine ze_aload_n (pc := 37) zr_32_37 rfl ?_
  refine ze_bipush (pc := 38) zr_32_38 (by decide) ?_
  refine zq_callV1 (pc := 40) (as := [.inr (.inr 89), .inl 43]) (r := []) (kc2 := 0) (ks2 := 0) zr_32_40 rfl (by decide) rfl rfl rfl rfl ⟨rfl, rfl⟩ ⟨rfl, rfl, rfl⟩ h (fun z3801 V3801 h => ?_)
  have j43 : z_Ex (z_MS d) 32 Q true 51 [some (.inr (.inr 89)), some (.inl l1), some (.inl l2), o3] [.inl (if z3801 = 0 then 3 else 2)] 0 0 V3801 := by
    exact h
  refine ze_if_eq (pc := 43) (t := 50) zr_32_43 (by decide) (fun hc => ?_) (fun hc => ?_)
  · rw [if_pos (show z3801 = 0 from hc)] at j43
    refine ze_iconst (pc := 50) zr_32_50 (by decide) ?_
    exact j43
  · rw [if_neg (show ¬ (z3801 = 0) from hc)] at j43
    refine ze_iconst (pc := 46) zr_32_46 (by decide) ?_
    refine ze_goto (pc := 47) (t := 51) zr_32_47 (by decide) ?_
    exact j43
theorem zb32_89_p51 {d : Nat} {Q : Int → z_M → Prop} (l1 : Int) (l2 : Int) (o3 : Option z_V) (s0 : Int) {V : z_M}
    (h : z_MS d 40 true [.inr (.inr 89)] V (fun z5201 V5201 => z_MS d 33 true [.inr (.inr 89), .inl l1] V5201 (fun z5202 V5202 => zI (z5202 = 0) (Q 0 V5202) (z_MS d 37 true [.inr (.inr 89), .inl s0, .inl 0] V5202 (fun z5203 V5203 => z_Ex (z_MS d) 32 Q true 12 [some (.inr (.inr 89)), some (.inl l1), some (.inl (z_add l2 1)), some (.inl s0)] [] 0 0 V5203))))) :
    z_Ex (z_MS d) 32 Q true 51 [some (.inr (.inr 89)), some (.inl l1), some (.inl l2), o3] [.inl s0] 0 0 V := by
  refine zq_istore_n (pc := 51) (ls2 := [some (.inr (.inr 89)), some (.inl l1), some (.inl l2), some (.inl s0)]) zr_32_51 rfl rfl ?_
  refine ze_aload_n (pc := 52) zr_32_52 rfl ?_
  refine zq_callV0 (pc := 53) (as := [.inr (.inr 89)]) (r := []) (kc2 := 0) (ks2 := 0) zr_32_53 rfl (by decide) rfl rfl rfl rfl ⟨rfl, rfl⟩ rfl h (fun z5201 V5201 h => ?_)
  refine ze_aload_n (pc := 56) zr_32_56 rfl ?_
  refine ze_iload_n (pc := 57) zr_32_57 rfl ?_
  refine zq_callV1 (pc := 58) (as := [.inr (.inr 89), .inl l1]) (r := []) (kc2 := 0) (ks2 := 0) zr_32_58 rfl (by decide) rfl rfl rfl rfl ⟨rfl, rfl⟩ ⟨rfl, rfl, rfl⟩ h (fun z5202 V5202 h => ?_)
  refine zq_if_ne (pc := 61) (t := 66) zr_32_61 (by decide) (z_toif h) (fun h => ?_) (fun h => ?_)
  · refine ze_iconst (pc := 64) zr_32_64 (by decide) ?_
    exact zq_ret4 (pc := 65) zr_32_65 rfl (by decide) h
  · refine ze_aload_n (pc := 66) zr_32_66 rfl ?_
    refine ze_iload_n (pc := 67) zr_32_67 rfl ?_
    refine ze_iconst (pc := 68) zr_32_68 (by decide) ?_
    refine zq_callV1 (pc := 69) (as := [.inr (.inr 89), .inl s0, .inl 0]) (r := []) (kc2 := 0) (ks2 := 0) zr_32_69 rfl (by decide) rfl rfl rfl rfl ⟨rfl, rfl⟩ ⟨rfl, rfl, rfl⟩ h (fun z5203 V5203 h => ?_)
    refine ze_pop (pc := 72) zr_32_72 rfl ?_
    refine zq_iinc (pc := 73) (ls2 := [some (.inr (.inr 89)), some (.inl l1), some (.inl (z_add l2 1)), some (.inl s0)]) zr_32_73 rfl rfl rfl ?_
    refine ze_goto (pc := 76) (t := 12) zr_32_76 (by decide) ?_
    exact h
theorem zb33_89 {d : Nat} {Q : Int → z_M → Prop} (a0 : Int) {V : z_M}
    (h : z_MS d 34 true [.inr (.inr 89), .inl a0] V (fun z1 V1 => zI (z1 = 0) (Q 0 V1) (z_Ex (z_MS d) 33 Q true 12 [some (.inr (.inr 89)), some (.inl a0), some (.inl 0), none] [] 0 0 V1))) :
    z_MS (d + 1) 33 true [.inr (.inr 89), .inl a0] V Q := by
  show z_Ex (z_MS d) 33 Q true 0 [some (.inr (.inr 89)), some (.inl a0), none, none] [] 0 0 V
  refine ze_aload_n (pc := 0) zr_33_0 rfl ?_
  refine ze_iload_n (pc := 1) zr_33_1 rfl ?_
  refine zq_callV1 (pc := 2) (as := [.inr (.inr 89), .inl a0]) (r := []) (kc2 := 0) (ks2 := 0) zr_33_2 rfl (by decide) rfl rfl rfl rfl ⟨rfl, rfl⟩ ⟨rfl, rfl, rfl⟩ h (fun z1 V1 h => ?_)
  refine zq_if_ne (pc := 5) (t := 10) zr_33_5 (by decide) (z_toif h) (fun h => ?_) (fun h => ?_)
  · refine ze_iconst (pc := 8) zr_33_8 (by decide) ?_
    exact zq_ret4 (pc := 9) zr_33_9 rfl (by decide) h
  · refine ze_iconst (pc := 10) zr_33_10 (by decide) ?_
    refine zq_istore_n (pc := 11) (ls2 := [some (.inr (.inr 89)), some (.inl a0), some (.inl 0), none]) zr_33_11 rfl rfl ?_
    exact h
theorem zb33_89_p12 {d : Nat} {Q : Int → z_M → Prop} (l1 : Int) (l2 : Int) (o3 : Option z_V) {V : z_M}
    (h : zI (l2 < 400) (z_MS d 42 true [.inr (.inr 89), .inl 42] V (fun z1301 V1301 => zI (z1301 = 0) (z_MS d 42 true [.inr (.inr 89), .inl 47] V1301 (fun z1302 V1302 => zI (z1302 = 0) (Q 1 V1302) (z_Ex (z_MS d) 33 Q true 37 [some (.inr (.inr 89)), some (.inl l1), some (.inl l2), o3] [] 0 0 V1302))) (z_Ex (z_MS d) 33 Q true 37 [some (.inr (.inr 89)), some (.inl l1), some (.inl l2), o3] [] 0 0 V1301))) (Q 1 V)) :
    z_Ex (z_MS d) 33 Q true 12 [some (.inr (.inr 89)), some (.inl l1), some (.inl l2), o3] [] 0 0 V := by
  refine ze_iload_n (pc := 12) zr_33_12 rfl ?_
  refine ze_sipush (pc := 13) zr_33_13 (by decide) ?_
  refine zq_icmp_ge (pc := 16) (t := 79) zr_33_16 (by decide) (z_toif h) (fun h => ?_) (fun h => ?_)
  · refine ze_aload_n (pc := 19) zr_33_19 rfl ?_
    refine ze_bipush (pc := 20) zr_33_20 (by decide) ?_
    refine zq_callV1 (pc := 22) (as := [.inr (.inr 89), .inl 42]) (r := []) (kc2 := 0) (ks2 := 0) zr_33_22 rfl (by decide) rfl rfl rfl rfl ⟨rfl, rfl⟩ ⟨rfl, rfl, rfl⟩ h (fun z1301 V1301 h => ?_)
    refine zq_if_ne (pc := 25) (t := 37) zr_33_25 (by decide) (z_toif h) (fun h => ?_) (fun h => ?_)
    · refine ze_aload_n (pc := 28) zr_33_28 rfl ?_
      refine ze_bipush (pc := 29) zr_33_29 (by decide) ?_
      refine zq_callV1 (pc := 31) (as := [.inr (.inr 89), .inl 47]) (r := []) (kc2 := 0) (ks2 := 0) zr_33_31 rfl (by decide) rfl rfl rfl rfl ⟨rfl, rfl⟩ ⟨rfl, rfl, rfl⟩ h (fun z1302 V1302 h => ?_)
      refine zq_if_eq (pc := 34) (t := 79) zr_33_34 (by decide) (z_toif h) (fun h => ?_) (fun h => ?_)
      · refine ze_iconst (pc := 79) zr_33_79 (by decide) ?_
        exact zq_ret4 (pc := 80) zr_33_80 rfl (by decide) h
      · exact h
    · exact h
  · refine ze_iconst (pc := 79) zr_33_79 (by decide) ?_
    exact zq_ret4 (pc := 80) zr_33_80 rfl (by decide) h
theorem zb33_89_p37 {d : Nat} {Q : Int → z_M → Prop} (l1 : Int) (l2 : Int) (o3 : Option z_V) {V : z_M}
    (h : z_MS d 42 true [.inr (.inr 89), .inl 42] V (fun z3801 V3801 => z_Ex (z_MS d) 33 Q true 51 [some (.inr (.inr 89)), some (.inl l1), some (.inl l2), o3] [.inl (if z3801 = 0 then 5 else 4)] 0 0 V3801)) :
    z_Ex (z_MS d) 33 Q true 37 [some (.inr (.inr 89)), some (.inl l1), some (.inl l2), o3] [] 0 0 V := by
  refine ze_aload_n (pc := 37) zr_33_37 rfl ?_
  refine ze_bipush (pc := 38) zr_33_38 (by decide) ?_
  refine zq_callV1 (pc := 40) (as := [.inr (.inr 89), .inl 42]) (r := []) (kc2 := 0) (ks2 := 0) zr_33_40 rfl (by decide) rfl rfl rfl rfl ⟨rfl, rfl⟩ ⟨rfl, rfl, rfl⟩ h (fun z3801 V3801 h => ?_)
  have j43 : z_Ex (z_MS d) 33 Q true 51 [some (.inr (.inr 89)), some (.inl l1), some (.inl l2), o3] [.inl (if z3801 = 0 then 5 else 4)] 0 0 V3801 := by
    exact h
  refine ze_if_eq (pc := 43) (t := 50) zr_33_43 (by decide) (fun hc => ?_) (fun hc => ?_)
  · rw [if_pos (show z3801 = 0 from hc)] at j43
    refine ze_iconst (pc := 50) zr_33_50 (by decide) ?_
    exact j43
  · rw [if_neg (show ¬ (z3801 = 0) from hc)] at j43
    refine ze_iconst (pc := 46) zr_33_46 (by decide) ?_
    refine ze_goto (pc := 47) (t := 51) zr_33_47 (by decide) ?_
    exact j43
theorem zb33_89_p51 {d : Nat} {Q : Int → z_M → Prop} (l1 : Int) (l2 : Int) (o3 : Option z_V) (s0 : Int) {V : z_M}
    (h : z_MS d 40 true [.inr (.inr 89)] V (fun z5201 V5201 => z_MS d 34 true [.inr (.inr 89), .inl l1] V5201 (fun z5202 V5202 => zI (z5202 = 0) (Q 0 V5202) (z_MS d 37 true [.inr (.inr 89), .inl s0, .inl 0] V5202 (fun z5203 V5203 => z_Ex (z_MS d) 33 Q true 12 [some (.inr (.inr 89)), some (.inl l1), some (.inl (z_add l2 1)), some (.inl s0)] [] 0 0 V5203))))) :
    z_Ex (z_MS d) 33 Q true 51 [some (.inr (.inr 89)), some (.inl l1), some (.inl l2), o3] [.inl s0] 0 0 V := by
  refine zq_istore_n (pc := 51) (ls2 := [some (.inr (.inr 89)), some (.inl l1), some (.inl l2), some (.inl s0)]) zr_33_51 rfl rfl ?_
  refine ze_aload_n (pc := 52) zr_33_52 rfl ?_
  refine zq_callV0 (pc := 53) (as := [.inr (.inr 89)]) (r := []) (kc2 := 0) (ks2 := 0) zr_33_53 rfl (by decide) rfl rfl rfl rfl ⟨rfl, rfl⟩ rfl h (fun z5201 V5201 h => ?_)
  refine ze_aload_n (pc := 56) zr_33_56 rfl ?_
  refine ze_iload_n (pc := 57) zr_33_57 rfl ?_
  refine zq_callV1 (pc := 58) (as := [.inr (.inr 89), .inl l1]) (r := []) (kc2 := 0) (ks2 := 0) zr_33_58 rfl (by decide) rfl rfl rfl rfl ⟨rfl, rfl⟩ ⟨rfl, rfl, rfl⟩ h (fun z5202 V5202 h => ?_)
  refine zq_if_ne (pc := 61) (t := 66) zr_33_61 (by decide) (z_toif h) (fun h => ?_) (fun h => ?_)
  · refine ze_iconst (pc := 64) zr_33_64 (by decide) ?_
    exact zq_ret4 (pc := 65) zr_33_65 rfl (by decide) h
  · refine ze_aload_n (pc := 66) zr_33_66 rfl ?_
    refine ze_iload_n (pc := 67) zr_33_67 rfl ?_
    refine ze_iconst (pc := 68) zr_33_68 (by decide) ?_
    refine zq_callV1 (pc := 69) (as := [.inr (.inr 89), .inl s0, .inl 0]) (r := []) (kc2 := 0) (ks2 := 0) zr_33_69 rfl (by decide) rfl rfl rfl rfl ⟨rfl, rfl⟩ ⟨rfl, rfl, rfl⟩ h (fun z5203 V5203 h => ?_)
    refine ze_pop (pc := 72) zr_33_72 rfl ?_
    refine zq_iinc (pc := 73) (ls2 := [some (.inr (.inr 89)), some (.inl l1), some (.inl (z_add l2 1)), some (.inl s0)]) zr_33_73 rfl rfl rfl ?_
    refine ze_goto (pc := 76) (t := 12) zr_33_76 (by decide) ?_
    exact h
theorem zb34_89 {d : Nat} {Q : Int → z_M → Prop} (a0 : Int) {V : z_M}
    (h : z_MS d 42 true [.inr (.inr 89), .inl 91] V (fun z1 V1 => zI (z1 = 0) (z_MS d 35 true [.inr (.inr 89)] V1 (fun z2 V2 => z_MS d 36 true [.inr (.inr 89)] V2 (fun z3 V3 => zI ((V3 89 4) < 50) (zI (z2 = (-1)) (zI (z3 = (-1)) (z_MS d 38 true [.inr (.inr 89)] V3 (fun z9 V9 => zGu (z9 = 0 ∨ z9 = 1) (Q z9 V9))) (∀ W2, W2 = z_up V3 89 4 (z_add (V3 89 4) 1) → z_MS d 37 true [.inr (.inr 89), .inl (if z2 = (-1) then 1 else 0), .inl (if z2 = (-1) then z3 else z2)] W2 (fun z7 V7 => z_MS d 40 true [.inr (.inr 89)] V7 (fun z8 V8 => Q 1 V8)))) (∀ W1, W1 = z_up V3 89 4 (z_add (V3 89 4) 1) → z_MS d 37 true [.inr (.inr 89), .inl (if z2 = (-1) then 1 else 0), .inl (if z2 = (-1) then z3 else z2)] W1 (fun z5 V5 => z_MS d 40 true [.inr (.inr 89)] V5 (fun z6 V6 => Q 1 V6)))) (z_MS d 38 true [.inr (.inr 89)] V3 (fun z4 V4 => zGu (z4 = 0 ∨ z4 = 1) (Q z4 V4)))))) (zI (a0 < 8) (z_MS d 40 true [.inr (.inr 89)] V1 (fun z10 V10 => z_MS d 32 true [.inr (.inr 89), .inl (z_add a0 1)] V10 (fun z11 V11 => zI (z11 = 0) (Q 0 V11) (z_MS d 39 true [.inr (.inr 89), .inl 93] V11 (fun z12 V12 => Q (if z12 = 0 then 0 else 1) V12))))) (z_MS d 38 true [.inr (.inr 89)] V1 (fun z13 V13 => zGu (z13 = 0 ∨ z13 = 1) (Q z13 V13)))))) :
    z_MS (d + 1) 34 true [.inr (.inr 89), .inl a0] V Q := by
  show z_Ex (z_MS d) 34 Q true 0 [some (.inr (.inr 89)), some (.inl a0), none, none] [] 0 0 V
  refine ze_aload_n (pc := 0) zr_34_0 rfl ?_
  refine ze_bipush (pc := 1) zr_34_1 (by decide) ?_
  refine zq_callV1 (pc := 3) (as := [.inr (.inr 89), .inl 91]) (r := []) (kc2 := 0) (ks2 := 0) zr_34_3 rfl (by decide) rfl rfl rfl rfl ⟨rfl, rfl⟩ ⟨rfl, rfl, rfl⟩ h (fun z1 V1 h => ?_)
  refine zq_if_eq (pc := 6) (t := 49) zr_34_6 (by decide) (z_toif h) (fun h => ?_) (fun h => ?_)
  · refine ze_aload_n (pc := 49) zr_34_49 rfl ?_
    refine zq_callV1 (pc := 50) (as := [.inr (.inr 89)]) (r := []) (kc2 := 0) (ks2 := 0) zr_34_50 rfl (by decide) rfl rfl rfl rfl ⟨rfl, rfl⟩ ⟨rfl, rfl, rfl⟩ h (fun z2 V2 h => ?_)
    refine zq_istore_n (pc := 53) (ls2 := [some (.inr (.inr 89)), some (.inl a0), some (.inl z2), none]) zr_34_53 rfl rfl ?_
    refine ze_aload_n (pc := 54) zr_34_54 rfl ?_
    refine zq_callV1 (pc := 55) (as := [.inr (.inr 89)]) (r := []) (kc2 := 0) (ks2 := 0) zr_34_55 rfl (by decide) rfl rfl rfl rfl ⟨rfl, rfl⟩ ⟨rfl, rfl, rfl⟩ h (fun z3 V3 h => ?_)
    refine zq_istore_n (pc := 58) (ls2 := [some (.inr (.inr 89)), some (.inl a0), some (.inl z2), some (.inl z3)]) zr_34_58 rfl rfl ?_
    refine ze_aload_n (pc := 59) zr_34_59 rfl ?_
    refine ze_getfield (pc := 60) (v := .inl (V3 89 4)) zr_34_60 rfl rfl ?_
    refine ze_bipush (pc := 63) zr_34_63 (by decide) ?_
    refine zq_icmp_ge (pc := 65) (t := 78) zr_34_65 (by decide) (z_toif h) (fun h => ?_) (fun h => ?_)
    · refine ze_iload_n (pc := 68) zr_34_68 rfl ?_
      refine ze_iconst (pc := 69) zr_34_69 (by decide) ?_
      refine zq_icmp_ne (pc := 70) (t := 83) zr_34_70 (by decide) (z_toif h) (fun h => ?_) (fun h => ?_)
      · refine ze_iload_n (pc := 73) zr_34_73 rfl ?_
        refine ze_iconst (pc := 74) zr_34_74 (by decide) ?_
        refine zq_icmp_ne (pc := 75) (t := 83) zr_34_75 (by decide) (z_toif h) (fun h => ?_) (fun h => ?_)
        · refine ze_aload_n (pc := 78) zr_34_78 rfl ?_
          refine zq_callV1 (pc := 79) (as := [.inr (.inr 89)]) (r := []) (kc2 := 0) (ks2 := 0) zr_34_79 rfl (by decide) rfl rfl rfl rfl ⟨rfl, rfl⟩ ⟨rfl, rfl, rfl⟩ h (fun z9 V9 h => ?_)
          refine z_gk h (fun g82 h => ?_)
          exact zq_ret4 (pc := 82) zr_34_82 rfl g82 h
        · refine ze_aload_n (pc := 83) zr_34_83 rfl ?_
          refine ze_dup (pc := 84) zr_34_84 rfl ?_
          refine ze_getfield (pc := 85) (v := .inl (V3 89 4)) zr_34_85 rfl rfl ?_
          refine ze_iconst (pc := 88) zr_34_88 (by decide) ?_
          refine ze_iadd (pc := 89) zr_34_89 ?_
          refine zq_putI (pc := 90) zr_34_90 (by decide) rfl h (fun W2 h => ?_)
          refine ze_aload_n (pc := 93) zr_34_93 rfl ?_
          refine ze_iload_n (pc := 94) zr_34_94 rfl ?_
          refine ze_iconst (pc := 95) zr_34_95 (by decide) ?_
          have j96 : z_Ex (z_MS d) 34 Q true 104 [some (.inr (.inr 89)), some (.inl a0), some (.inl z2), some (.inl z3)] [.inl (if z2 = (-1) then 1 else 0), .inr (.inr 89)] 0 0 W2 := by
            refine ze_iload_n (pc := 104) zr_34_104 rfl ?_
            refine ze_iconst (pc := 105) zr_34_105 (by decide) ?_
            have j106 : z_Ex (z_MS d) 34 Q true 114 [some (.inr (.inr 89)), some (.inl a0), some (.inl z2), some (.inl z3)] [.inl (if z2 = (-1) then z3 else z2), .inl (if z2 = (-1) then 1 else 0), .inr (.inr 89)] 0 0 W2 := by
              refine zq_callV1 (pc := 114) (as := [.inr (.inr 89), .inl (if z2 = (-1) then 1 else 0), .inl (if z2 = (-1) then z3 else z2)]) (r := []) (kc2 := 0) (ks2 := 0) zr_34_114 rfl (by decide) rfl rfl rfl rfl ⟨rfl, rfl⟩ ⟨rfl, rfl, rfl⟩ h (fun z7 V7 h => ?_)
              refine ze_pop (pc := 117) zr_34_117 rfl ?_
              refine ze_aload_n (pc := 118) zr_34_118 rfl ?_
              refine zq_callV0 (pc := 119) (as := [.inr (.inr 89)]) (r := []) (kc2 := 0) (ks2 := 0) zr_34_119 rfl (by decide) rfl rfl rfl rfl ⟨rfl, rfl⟩ rfl h (fun z8 V8 h => ?_)
              refine ze_iconst (pc := 122) zr_34_122 (by decide) ?_
              exact zq_ret4 (pc := 123) zr_34_123 rfl (by decide) h
            refine ze_icmp_ne (pc := 106) (t := 113) zr_34_106 (by decide) (fun hc => ?_) (fun hc => ?_)
            · rw [if_pos (show z2 = (-1) from hc)] at j106
              refine ze_iload_n (pc := 109) zr_34_109 rfl ?_
              refine ze_goto (pc := 110) (t := 114) zr_34_110 (by decide) ?_
              exact j106
            · rw [if_neg (show ¬ (z2 = (-1)) from hc)] at j106
              refine ze_iload_n (pc := 113) zr_34_113 rfl ?_
              exact j106
          refine ze_icmp_ne (pc := 96) (t := 103) zr_34_96 (by decide) (fun hc => ?_) (fun hc => ?_)
          · rw [if_pos (show z2 = (-1) from hc)] at j96
            refine ze_iconst (pc := 99) zr_34_99 (by decide) ?_
            refine ze_goto (pc := 100) (t := 104) zr_34_100 (by decide) ?_
            exact j96
          · rw [if_neg (show ¬ (z2 = (-1)) from hc)] at j96
            refine ze_iconst (pc := 103) zr_34_103 (by decide) ?_
            exact j96
      · refine ze_aload_n (pc := 83) zr_34_83 rfl ?_
        refine ze_dup (pc := 84) zr_34_84 rfl ?_
        refine ze_getfield (pc := 85) (v := .inl (V3 89 4)) zr_34_85 rfl rfl ?_
        refine ze_iconst (pc := 88) zr_34_88 (by decide) ?_
        refine ze_iadd (pc := 89) zr_34_89 ?_
        refine zq_putI (pc := 90) zr_34_90 (by decide) rfl h (fun W1 h => ?_)
        refine ze_aload_n (pc := 93) zr_34_93 rfl ?_
        refine ze_iload_n (pc := 94) zr_34_94 rfl ?_
        refine ze_iconst (pc := 95) zr_34_95 (by decide) ?_
        have j96 : z_Ex (z_MS d) 34 Q true 104 [some (.inr (.inr 89)), some (.inl a0), some (.inl z2), some (.inl z3)] [.inl (if z2 = (-1) then 1 else 0), .inr (.inr 89)] 0 0 W1 := by
          refine ze_iload_n (pc := 104) zr_34_104 rfl ?_
          refine ze_iconst (pc := 105) zr_34_105 (by decide) ?_
          have j106 : z_Ex (z_MS d) 34 Q true 114 [some (.inr (.inr 89)), some (.inl a0), some (.inl z2), some (.inl z3)] [.inl (if z2 = (-1) then z3 else z2), .inl (if z2 = (-1) then 1 else 0), .inr (.inr 89)] 0 0 W1 := by
            refine zq_callV1 (pc := 114) (as := [.inr (.inr 89), .inl (if z2 = (-1) then 1 else 0), .inl (if z2 = (-1) then z3 else z2)]) (r := []) (kc2 := 0) (ks2 := 0) zr_34_114 rfl (by decide) rfl rfl rfl rfl ⟨rfl, rfl⟩ ⟨rfl, rfl, rfl⟩ h (fun z5 V5 h => ?_)
            refine ze_pop (pc := 117) zr_34_117 rfl ?_
            refine ze_aload_n (pc := 118) zr_34_118 rfl ?_
            refine zq_callV0 (pc := 119) (as := [.inr (.inr 89)]) (r := []) (kc2 := 0) (ks2 := 0) zr_34_119 rfl (by decide) rfl rfl rfl rfl ⟨rfl, rfl⟩ rfl h (fun z6 V6 h => ?_)
            refine ze_iconst (pc := 122) zr_34_122 (by decide) ?_
            exact zq_ret4 (pc := 123) zr_34_123 rfl (by decide) h
          refine ze_icmp_ne (pc := 106) (t := 113) zr_34_106 (by decide) (fun hc => ?_) (fun hc => ?_)
          · rw [if_pos (show z2 = (-1) from hc)] at j106
            refine ze_iload_n (pc := 109) zr_34_109 rfl ?_
            refine ze_goto (pc := 110) (t := 114) zr_34_110 (by decide) ?_
            exact j106
          · rw [if_neg (show ¬ (z2 = (-1)) from hc)] at j106
            refine ze_iload_n (pc := 113) zr_34_113 rfl ?_
            exact j106
        refine ze_icmp_ne (pc := 96) (t := 103) zr_34_96 (by decide) (fun hc => ?_) (fun hc => ?_)
        · rw [if_pos (show z2 = (-1) from hc)] at j96
          refine ze_iconst (pc := 99) zr_34_99 (by decide) ?_
          refine ze_goto (pc := 100) (t := 104) zr_34_100 (by decide) ?_
          exact j96
        · rw [if_neg (show ¬ (z2 = (-1)) from hc)] at j96
          refine ze_iconst (pc := 103) zr_34_103 (by decide) ?_
          exact j96
    · refine ze_aload_n (pc := 78) zr_34_78 rfl ?_
      refine zq_callV1 (pc := 79) (as := [.inr (.inr 89)]) (r := []) (kc2 := 0) (ks2 := 0) zr_34_79 rfl (by decide) rfl rfl rfl rfl ⟨rfl, rfl⟩ ⟨rfl, rfl, rfl⟩ h (fun z4 V4 h => ?_)
      refine z_gk h (fun g82 h => ?_)
      exact zq_ret4 (pc := 82) zr_34_82 rfl g82 h
  · refine ze_iload_n (pc := 9) zr_34_9 rfl ?_
    refine ze_bipush (pc := 10) zr_34_10 (by decide) ?_
    refine zq_icmp_lt (pc := 12) (t := 20) zr_34_12 (by decide) (z_toif h) (fun h => ?_) (fun h => ?_)
    · refine ze_aload_n (pc := 20) zr_34_20 rfl ?_
      refine zq_callV0 (pc := 21) (as := [.inr (.inr 89)]) (r := []) (kc2 := 0) (ks2 := 0) zr_34_21 rfl (by decide) rfl rfl rfl rfl ⟨rfl, rfl⟩ rfl h (fun z10 V10 h => ?_)
      refine ze_aload_n (pc := 24) zr_34_24 rfl ?_
      refine ze_iload_n (pc := 25) zr_34_25 rfl ?_
      refine ze_iconst (pc := 26) zr_34_26 (by decide) ?_
      refine ze_iadd (pc := 27) zr_34_27 ?_
      refine zq_callV1 (pc := 28) (as := [.inr (.inr 89), .inl (z_add a0 1)]) (r := []) (kc2 := 0) (ks2 := 0) zr_34_28 rfl (by decide) rfl rfl rfl rfl ⟨rfl, rfl⟩ ⟨rfl, rfl, rfl⟩ h (fun z11 V11 h => ?_)
      refine zq_if_eq (pc := 31) (t := 47) zr_34_31 (by decide) (z_toif h) (fun h => ?_) (fun h => ?_)
      · refine ze_iconst (pc := 47) zr_34_47 (by decide) ?_
        exact zq_ret4 (pc := 48) zr_34_48 rfl (by decide) h
      · refine ze_aload_n (pc := 34) zr_34_34 rfl ?_
        refine ze_bipush (pc := 35) zr_34_35 (by decide) ?_
        refine zq_callV1 (pc := 37) (as := [.inr (.inr 89), .inl 93]) (r := []) (kc2 := 0) (ks2 := 0) zr_34_37 rfl (by decide) rfl rfl rfl rfl ⟨rfl, rfl⟩ ⟨rfl, rfl, rfl⟩ h (fun z12 V12 h => ?_)
        have j40 : z_Ex (z_MS d) 34 Q true 48 [some (.inr (.inr 89)), some (.inl a0), none, none] [.inl (if z12 = 0 then 0 else 1)] 0 0 V12 := by
          exact zq_ret4 (pc := 48) zr_34_48 rfl (by (repeat' split) <;> decide) h
        refine ze_if_eq (pc := 40) (t := 47) zr_34_40 (by decide) (fun hc => ?_) (fun hc => ?_)
        · rw [if_pos (show z12 = 0 from hc)] at j40
          refine ze_iconst (pc := 47) zr_34_47 (by decide) ?_
          exact j40
        · rw [if_neg (show ¬ (z12 = 0) from hc)] at j40
          refine ze_iconst (pc := 43) zr_34_43 (by decide) ?_
          refine ze_goto (pc := 44) (t := 48) zr_34_44 (by decide) ?_
          exact j40
    · refine ze_aload_n (pc := 15) zr_34_15 rfl ?_
      refine zq_callV1 (pc := 16) (as := [.inr (.inr 89)]) (r := []) (kc2 := 0) (ks2 := 0) zr_34_16 rfl (by decide) rfl rfl rfl rfl ⟨rfl, rfl⟩ ⟨rfl, rfl, rfl⟩ h (fun z13 V13 h => ?_)
      refine z_gk h (fun g19 h => ?_)
      exact zq_ret4 (pc := 19) zr_34_19 rfl g19 h
theorem zb35_89 {d : Nat} {Q : Int → z_M → Prop}  {V : z_M}
    (h : z_Ex (z_MS d) 35 Q true 22 [some (.inr (.inr 89)), some (.inl (if (V 89 7) < (V 89 8) then 0 else -1)), some (.inl (V 89 7)), none] [] 0 0 V) :
    z_MS (d + 1) 35 true [.inr (.inr 89)] V Q := by
  show z_Ex (z_MS d) 35 Q true 0 [some (.inr (.inr 89)), none, none, none] [] 0 0 V
  refine ze_aload_n (pc := 0) zr_35_0 rfl ?_
  refine ze_getfield (pc := 1) (v := .inl (V 89 7)) zr_35_1 rfl rfl ?_
  refine ze_aload_n (pc := 4) zr_35_4 rfl ?_
  refine ze_getfield (pc := 5) (v := .inl (V 89 8)) zr_35_5 rfl rfl ?_
  have j8 : z_Ex (z_MS d) 35 Q true 16 [some (.inr (.inr 89)), none, none, none] [.inl (if (V 89 7) < (V 89 8) then 0 else -1)] 0 0 V := by
    refine zq_istore_n (pc := 16) (ls2 := [some (.inr (.inr 89)), some (.inl (if (V 89 7) < (V 89 8) then 0 else -1)), none, none]) zr_35_16 rfl rfl ?_
    refine ze_aload_n (pc := 17) zr_35_17 rfl ?_
    refine ze_getfield (pc := 18) (v := .inl (V 89 7)) zr_35_18 rfl rfl ?_
    refine zq_istore_n (pc := 21) (ls2 := [some (.inr (.inr 89)), some (.inl (if (V 89 7) < (V 89 8) then 0 else -1)), some (.inl (V 89 7)), none]) zr_35_21 rfl rfl ?_
    exact h
  refine ze_icmp_ge (pc := 8) (t := 15) zr_35_8 (by decide) (fun hc => ?_) (fun hc => ?_)
  · rw [if_pos (show (V 89 7) < (V 89 8) from hc)] at j8
    refine ze_iconst (pc := 11) zr_35_11 (by decide) ?_
    refine ze_goto (pc := 12) (t := 16) zr_35_12 (by decide) ?_
    exact j8
  · rw [if_neg (show ¬ ((V 89 7) < (V 89 8)) from hc)] at j8
    refine ze_iconst (pc := 15) zr_35_15 (by decide) ?_
    exact j8
theorem zb35_89_p22 {d : Nat} {Q : Int → z_M → Prop} (l1 : Int) (l2 : Int) (o3 : Option z_V) {V : z_M}
    (h : zI (l2 < (V 89 8)) (zI (l1 = (-1)) (Q l1 V) (zGu (z_kd ((V 89 5).toNat) = 101) (zGu (0 ≤ l2 ∧ l2 < z_len' V ((V 89 5).toNat)) (∀ x40 : Int, x40 = V ((V 89 5).toNat) l2.toNat → z_MS d 133 true [.inl x40, .inl 48, .inl 57] V (fun z2301 V2301 => zI (z2301 = 0) (z_Ex (z_MS d) 35 Q true 71 [some (.inr (.inr 89)), some (.inl l1), some (.inl l2), some (.inl z2301)] [.inl (-1)] 0 0 V2301) (zGu (z_kd ((V2301 89 5).toNat) = 101) (zGu (0 ≤ l2 ∧ l2 < z_len' V2301 ((V2301 89 5).toNat)) (∀ x62 : Int, x62 = V2301 ((V2301 89 5).toNat) l2.toNat → z_Ex (z_MS d) 35 Q true 71 [some (.inr (.inr 89)), some (.inl l1), some (.inl l2), some (.inl z2301)] [.inl (z_sub (z_add (z_mul l1 10) x62) 48)] 0 0 V2301)))))))) (Q l1 V)) :
    z_Ex (z_MS d) 35 Q true 22 [some (.inr (.inr 89)), some (.inl l1), some (.inl l2), o3] [] 0 0 V := by
  refine ze_iload_n (pc := 22) zr_35_22 rfl ?_
  refine ze_aload_n (pc := 23) zr_35_23 rfl ?_
  refine ze_getfield (pc := 24) (v := .inl (V 89 8)) zr_35_24 rfl rfl ?_
  refine zq_icmp_ge (pc := 27) (t := 87) zr_35_27 (by decide) (z_toif h) (fun h => ?_) (fun h => ?_)
  · refine ze_iload_n (pc := 30) zr_35_30 rfl ?_
    refine ze_iconst (pc := 31) zr_35_31 (by decide) ?_
    refine zq_icmp_eq (pc := 32) (t := 87) zr_35_32 (by decide) (z_toif h) (fun h => ?_) (fun h => ?_)
    · refine ze_iload_n (pc := 87) zr_35_87 rfl ?_
      exact zq_ret1 (pc := 88) zr_35_88 rfl h
    · refine ze_aload_n (pc := 35) zr_35_35 rfl ?_
      refine ze_getfield (pc := 36) (v := .inr (.inr ((V 89 5).toNat))) zr_35_36 rfl rfl ?_
      refine ze_iload_n (pc := 39) zr_35_39 rfl ?_
      refine z_gk h (fun k40 h => ?_)
      refine z_gk h (fun g40 h => ?_)
      refine zl_ialoadv (pc := 40) zr_35_40 k40 g40 h (fun x40 h => ?_)
      refine ze_bipush (pc := 41) zr_35_41 (by decide) ?_
      refine ze_bipush (pc := 43) zr_35_43 (by decide) ?_
      refine zq_callS1 (pc := 45) (as := [.inl x40, .inl 48, .inl 57]) (r := []) (kc2 := 0) (ks2 := 0) zr_35_45 rfl rfl rfl rfl ⟨rfl, rfl⟩ ⟨rfl, rfl, rfl⟩ h (fun z2301 V2301 h => ?_)
      refine zq_istore_n (pc := 48) (ls2 := [some (.inr (.inr 89)), some (.inl l1), some (.inl l2), some (.inl z2301)]) zr_35_48 rfl rfl ?_
      refine ze_iload_n (pc := 49) zr_35_49 rfl ?_
      refine zq_if_eq (pc := 50) (t := 70) zr_35_50 (by decide) (z_toif h) (fun h => ?_) (fun h => ?_)
      · refine ze_iconst (pc := 70) zr_35_70 (by decide) ?_
        exact h
      · refine ze_iload_n (pc := 53) zr_35_53 rfl ?_
        refine ze_bipush (pc := 54) zr_35_54 (by decide) ?_
        refine ze_imul (pc := 56) zr_35_56 ?_
        refine ze_aload_n (pc := 57) zr_35_57 rfl ?_
        refine ze_getfield (pc := 58) (v := .inr (.inr ((V2301 89 5).toNat))) zr_35_58 rfl rfl ?_
        refine ze_iload_n (pc := 61) zr_35_61 rfl ?_
        refine z_gk h (fun k62 h => ?_)
        refine z_gk h (fun g62 h => ?_)
        refine zl_ialoadv (pc := 62) zr_35_62 k62 g62 h (fun x62 h => ?_)
        refine ze_iadd (pc := 63) zr_35_63 ?_
        refine ze_bipush (pc := 64) zr_35_64 (by decide) ?_
        refine ze_isub (pc := 66) zr_35_66 ?_
        refine ze_goto (pc := 67) (t := 71) zr_35_67 (by decide) ?_
        exact h
  · refine ze_iload_n (pc := 87) zr_35_87 rfl ?_
    exact zq_ret1 (pc := 88) zr_35_88 rfl h
theorem zb35_89_p71 {d : Nat} {Q : Int → z_M → Prop} (o1 : Option z_V) (l2 : Int) (o3 : Option z_V) (s0 : Int) {V : z_M}
    (h : zI (1000 < s0) (Q (-1) V) (z_Ex (z_MS d) 35 Q true 22 [some (.inr (.inr 89)), some (.inl s0), some (.inl (z_add l2 1)), o3] [] 0 0 V)) :
    z_Ex (z_MS d) 35 Q true 71 [some (.inr (.inr 89)), o1, some (.inl l2), o3] [.inl s0] 0 0 V := by
  refine zq_istore_n (pc := 71) (ls2 := [some (.inr (.inr 89)), some (.inl s0), some (.inl l2), o3]) zr_35_71 rfl rfl ?_
  refine ze_iload_n (pc := 72) zr_35_72 rfl ?_
  refine ze_sipush (pc := 73) zr_35_73 (by decide) ?_
  refine zq_icmp_le (pc := 76) (t := 81) zr_35_76 (by decide) (z_toif h) (fun h => ?_) (fun h => ?_)
  · refine ze_iconst (pc := 79) zr_35_79 (by decide) ?_
    exact zq_ret1 (pc := 80) zr_35_80 rfl h
  · refine zq_iinc (pc := 81) (ls2 := [some (.inr (.inr 89)), some (.inl s0), some (.inl (z_add l2 1)), o3]) zr_35_81 rfl rfl rfl ?_
    refine ze_goto (pc := 84) (t := 22) zr_35_84 (by decide) ?_
    exact h
theorem zb36_89 {d : Nat} {Q : Int → z_M → Prop}  {V : z_M}
    (h : z_MS d 43 true [.inr (.inr 89), .inr (.inr 14)] V (fun z1 V1 => zI (z1 = 0) (z_MS d 43 true [.inr (.inr 89), .inr (.inr 15)] V1 (fun z2 V2 => zI (z2 = 0) (z_MS d 43 true [.inr (.inr 89), .inr (.inr 16)] V2 (fun z3 V3 => zI (z3 = 0) (z_MS d 43 true [.inr (.inr 89), .inr (.inr 17)] V3 (fun z4 V4 => zI (z4 = 0) (z_MS d 43 true [.inr (.inr 89), .inr (.inr 18)] V4 (fun z5 V5 => zI (z5 = 0) (z_MS d 43 true [.inr (.inr 89), .inr (.inr 19)] V5 (fun z6 V6 => zI (z6 = 0) (z_MS d 43 true [.inr (.inr 89), .inr (.inr 20)] V6 (fun z7 V7 => zI (z7 = 0) (z_MS d 43 true [.inr (.inr 89), .inr (.inr 21)] V7 (fun z8 V8 => zI (z8 = 0) (z_MS d 43 true [.inr (.inr 89), .inr (.inr 8)] V8 (fun z9 V9 => Q (if z9 = 0 then -1 else 8) V9)) (Q 7 V8))) (Q 6 V7))) (Q 5 V6))) (Q 4 V5))) (Q 3 V4))) (Q 2 V3))) (Q 1 V2))) (Q 0 V1))) :
    z_MS (d + 1) 36 true [.inr (.inr 89)] V Q := by
  show z_Ex (z_MS d) 36 Q true 0 [some (.inr (.inr 89))] [] 0 0 V
  refine ze_aload_n (pc := 0) zr_36_0 rfl ?_
  refine ze_ldcS (pc := 1) zr_36_1 rfl (by decide) ?_
  refine zq_callV1 (pc := 3) (as := [.inr (.inr 89), .inr (.inr 14)]) (r := []) (kc2 := 0) (ks2 := 0) zr_36_3 rfl (by decide) rfl rfl rfl rfl ⟨rfl, rfl⟩ ⟨rfl, rfl, rfl⟩ h (fun z1 V1 h => ?_)
  refine zq_if_eq (pc := 6) (t := 11) zr_36_6 (by decide) (z_toif h) (fun h => ?_) (fun h => ?_)
  · refine ze_aload_n (pc := 11) zr_36_11 rfl ?_
    refine ze_ldcS (pc := 12) zr_36_12 rfl (by decide) ?_
    refine zq_callV1 (pc := 14) (as := [.inr (.inr 89), .inr (.inr 15)]) (r := []) (kc2 := 0) (ks2 := 0) zr_36_14 rfl (by decide) rfl rfl rfl rfl ⟨rfl, rfl⟩ ⟨rfl, rfl, rfl⟩ h (fun z2 V2 h => ?_)
    refine zq_if_eq (pc := 17) (t := 22) zr_36_17 (by decide) (z_toif h) (fun h => ?_) (fun h => ?_)
    · refine ze_aload_n (pc := 22) zr_36_22 rfl ?_
      refine ze_ldcS (pc := 23) zr_36_23 rfl (by decide) ?_
      refine zq_callV1 (pc := 25) (as := [.inr (.inr 89), .inr (.inr 16)]) (r := []) (kc2 := 0) (ks2 := 0) zr_36_25 rfl (by decide) rfl rfl rfl rfl ⟨rfl, rfl⟩ ⟨rfl, rfl, rfl⟩ h (fun z3 V3 h => ?_)
      refine zq_if_eq (pc := 28) (t := 33) zr_36_28 (by decide) (z_toif h) (fun h => ?_) (fun h => ?_)
      · refine ze_aload_n (pc := 33) zr_36_33 rfl ?_
        refine ze_ldcS (pc := 34) zr_36_34 rfl (by decide) ?_
        refine zq_callV1 (pc := 36) (as := [.inr (.inr 89), .inr (.inr 17)]) (r := []) (kc2 := 0) (ks2 := 0) zr_36_36 rfl (by decide) rfl rfl rfl rfl ⟨rfl, rfl⟩ ⟨rfl, rfl, rfl⟩ h (fun z4 V4 h => ?_)
        refine zq_if_eq (pc := 39) (t := 44) zr_36_39 (by decide) (z_toif h) (fun h => ?_) (fun h => ?_)
        · refine ze_aload_n (pc := 44) zr_36_44 rfl ?_
          refine ze_ldcS (pc := 45) zr_36_45 rfl (by decide) ?_
          refine zq_callV1 (pc := 47) (as := [.inr (.inr 89), .inr (.inr 18)]) (r := []) (kc2 := 0) (ks2 := 0) zr_36_47 rfl (by decide) rfl rfl rfl rfl ⟨rfl, rfl⟩ ⟨rfl, rfl, rfl⟩ h (fun z5 V5 h => ?_)
          refine zq_if_eq (pc := 50) (t := 55) zr_36_50 (by decide) (z_toif h) (fun h => ?_) (fun h => ?_)
          · refine ze_aload_n (pc := 55) zr_36_55 rfl ?_
            refine ze_ldcS (pc := 56) zr_36_56 rfl (by decide) ?_
            refine zq_callV1 (pc := 58) (as := [.inr (.inr 89), .inr (.inr 19)]) (r := []) (kc2 := 0) (ks2 := 0) zr_36_58 rfl (by decide) rfl rfl rfl rfl ⟨rfl, rfl⟩ ⟨rfl, rfl, rfl⟩ h (fun z6 V6 h => ?_)
            refine zq_if_eq (pc := 61) (t := 66) zr_36_61 (by decide) (z_toif h) (fun h => ?_) (fun h => ?_)
            · refine ze_aload_n (pc := 66) zr_36_66 rfl ?_
              refine ze_ldcS (pc := 67) zr_36_67 rfl (by decide) ?_
              refine zq_callV1 (pc := 69) (as := [.inr (.inr 89), .inr (.inr 20)]) (r := []) (kc2 := 0) (ks2 := 0) zr_36_69 rfl (by decide) rfl rfl rfl rfl ⟨rfl, rfl⟩ ⟨rfl, rfl, rfl⟩ h (fun z7 V7 h => ?_)
              refine zq_if_eq (pc := 72) (t := 78) zr_36_72 (by decide) (z_toif h) (fun h => ?_) (fun h => ?_)
              · refine ze_aload_n (pc := 78) zr_36_78 rfl ?_
                refine ze_ldcS (pc := 79) zr_36_79 rfl (by decide) ?_
                refine zq_callV1 (pc := 81) (as := [.inr (.inr 89), .inr (.inr 21)]) (r := []) (kc2 := 0) (ks2 := 0) zr_36_81 rfl (by decide) rfl rfl rfl rfl ⟨rfl, rfl⟩ ⟨rfl, rfl, rfl⟩ h (fun z8 V8 h => ?_)
                refine zq_if_eq (pc := 84) (t := 90) zr_36_84 (by decide) (z_toif h) (fun h => ?_) (fun h => ?_)
                · refine ze_aload_n (pc := 90) zr_36_90 rfl ?_
                  refine ze_ldcS (pc := 91) zr_36_91 rfl (by decide) ?_
                  refine zq_callV1 (pc := 93) (as := [.inr (.inr 89), .inr (.inr 8)]) (r := []) (kc2 := 0) (ks2 := 0) zr_36_93 rfl (by decide) rfl rfl rfl rfl ⟨rfl, rfl⟩ ⟨rfl, rfl, rfl⟩ h (fun z9 V9 h => ?_)
                  have j96 : z_Ex (z_MS d) 36 Q true 105 [some (.inr (.inr 89))] [.inl (if z9 = 0 then -1 else 8)] 0 0 V9 := by
                    exact zq_ret1 (pc := 105) zr_36_105 rfl h
                  refine ze_if_eq (pc := 96) (t := 104) zr_36_96 (by decide) (fun hc => ?_) (fun hc => ?_)
                  · rw [if_pos (show z9 = 0 from hc)] at j96
                    refine ze_iconst (pc := 104) zr_36_104 (by decide) ?_
                    exact j96
                  · rw [if_neg (show ¬ (z9 = 0) from hc)] at j96
                    refine ze_bipush (pc := 99) zr_36_99 (by decide) ?_
                    refine ze_goto (pc := 101) (t := 105) zr_36_101 (by decide) ?_
                    exact j96
                · refine ze_bipush (pc := 87) zr_36_87 (by decide) ?_
                  exact zq_ret1 (pc := 89) zr_36_89 rfl h
              · refine ze_bipush (pc := 75) zr_36_75 (by decide) ?_
                exact zq_ret1 (pc := 77) zr_36_77 rfl h
            · refine ze_iconst (pc := 64) zr_36_64 (by decide) ?_
              exact zq_ret1 (pc := 65) zr_36_65 rfl h
          · refine ze_iconst (pc := 53) zr_36_53 (by decide) ?_
            exact zq_ret1 (pc := 54) zr_36_54 rfl h
        · refine ze_iconst (pc := 42) zr_36_42 (by decide) ?_
          exact zq_ret1 (pc := 43) zr_36_43 rfl h
      · refine ze_iconst (pc := 31) zr_36_31 (by decide) ?_
        exact zq_ret1 (pc := 32) zr_36_32 rfl h
    · refine ze_iconst (pc := 20) zr_36_20 (by decide) ?_
      exact zq_ret1 (pc := 21) zr_36_21 rfl h
  · refine ze_iconst (pc := 9) zr_36_9 (by decide) ?_
    exact zq_ret1 (pc := 10) zr_36_10 rfl h
theorem zb37_89 {d : Nat} {Q : Int → z_M → Prop} (a0 : Int) (a1 : Int) {V : z_M}
    (h : zI ((V 89 3) < 400) (zGu (0 ≤ (V 89 3) ∧ (V 89 3) < 400) (∀ W1, W1 = z_up V 90 (V 89 3).toNat a0 → zGu (0 ≤ (W1 89 3) ∧ (W1 89 3) < 400) (∀ W2, W2 = z_up W1 91 (W1 89 3).toNat a1 → ∀ W3, W3 = z_up W2 89 3 (z_add (W2 89 3) 1) → Q (z_sub (W3 89 3) 1) W3))) (Q 399 V)) :
    z_MS (d + 1) 37 true [.inr (.inr 89), .inl a0, .inl a1] V Q := by
  show z_Ex (z_MS d) 37 Q true 0 [some (.inr (.inr 89)), some (.inl a0), some (.inl a1)] [] 0 0 V
  refine ze_aload_n (pc := 0) zr_37_0 rfl ?_
  refine ze_getfield (pc := 1) (v := .inl (V 89 3)) zr_37_1 rfl rfl ?_
  refine ze_sipush (pc := 4) zr_37_4 (by decide) ?_
  refine zq_icmp_lt (pc := 7) (t := 14) zr_37_7 (by decide) (z_toif h) (fun h => ?_) (fun h => ?_)
  · refine ze_aload_n (pc := 14) zr_37_14 rfl ?_
    refine ze_getfield (pc := 15) (v := .inr (.inr 90)) zr_37_15 rfl rfl ?_
    refine ze_aload_n (pc := 18) zr_37_18 rfl ?_
    refine ze_getfield (pc := 19) (v := .inl (V 89 3)) zr_37_19 rfl rfl ?_
    refine ze_iload_n (pc := 22) zr_37_22 rfl ?_
    refine z_gk h (fun g23 h => ?_)
    refine zq_iastore (pc := 23) zr_37_23 (by decide) rfl g23 rfl h (fun W1 h => ?_)
    refine ze_aload_n (pc := 24) zr_37_24 rfl ?_
    refine ze_getfield (pc := 25) (v := .inr (.inr 91)) zr_37_25 rfl rfl ?_
    refine ze_aload_n (pc := 28) zr_37_28 rfl ?_
    refine ze_getfield (pc := 29) (v := .inl (W1 89 3)) zr_37_29 rfl rfl ?_
    refine ze_iload_n (pc := 32) zr_37_32 rfl ?_
    refine z_gk h (fun g33 h => ?_)
    refine zq_iastore (pc := 33) zr_37_33 (by decide) rfl g33 rfl h (fun W2 h => ?_)
    refine ze_aload_n (pc := 34) zr_37_34 rfl ?_
    refine ze_dup (pc := 35) zr_37_35 rfl ?_
    refine ze_getfield (pc := 36) (v := .inl (W2 89 3)) zr_37_36 rfl rfl ?_
    refine ze_iconst (pc := 39) zr_37_39 (by decide) ?_
    refine ze_iadd (pc := 40) zr_37_40 ?_
    refine zq_putI (pc := 41) zr_37_41 (by decide) rfl h (fun W3 h => ?_)
    refine ze_aload_n (pc := 44) zr_37_44 rfl ?_
    refine ze_getfield (pc := 45) (v := .inl (W3 89 3)) zr_37_45 rfl rfl ?_
    refine ze_iconst (pc := 48) zr_37_48 (by decide) ?_
    refine ze_isub (pc := 49) zr_37_49 ?_
    exact zq_ret1 (pc := 50) zr_37_50 rfl h
  · refine ze_sipush (pc := 10) zr_37_10 (by decide) ?_
    exact zq_ret1 (pc := 13) zr_37_13 rfl h
theorem zb38_89 {d : Nat} {Q : Int → z_M → Prop}  {V : z_M}
    (h : ∀ W1, W1 = z_up V 89 9 (V 89 7) → Q 0 W1) :
    z_MS (d + 1) 38 true [.inr (.inr 89)] V Q := by
  show z_Ex (z_MS d) 38 Q true 0 [some (.inr (.inr 89))] [] 0 0 V
  refine ze_aload_n (pc := 0) zr_38_0 rfl ?_
  refine ze_aload_n (pc := 1) zr_38_1 rfl ?_
  refine ze_getfield (pc := 2) (v := .inl (V 89 7)) zr_38_2 rfl rfl ?_
  refine zq_putI (pc := 5) zr_38_5 (by decide) rfl h (fun W1 h => ?_)
  refine ze_iconst (pc := 8) zr_38_8 (by decide) ?_
  exact zq_ret4 (pc := 9) zr_38_9 rfl (by decide) h
theorem zb39_89 {d : Nat} {Q : Int → z_M → Prop} (a0 : Int) {V : z_M}
    (h : z_MS d 42 true [.inr (.inr 89), .inl a0] V (fun z1 V1 => zI (z1 = 0) (z_MS d 38 true [.inr (.inr 89)] V1 (fun z3 V3 => zGu (z3 = 0 ∨ z3 = 1) (Q z3 V3))) (z_MS d 40 true [.inr (.inr 89)] V1 (fun z2 V2 => Q 1 V2)))) :
    z_MS (d + 1) 39 true [.inr (.inr 89), .inl a0] V Q := by
  show z_Ex (z_MS d) 39 Q true 0 [some (.inr (.inr 89)), some (.inl a0)] [] 0 0 V
  refine ze_aload_n (pc := 0) zr_39_0 rfl ?_
  refine ze_iload_n (pc := 1) zr_39_1 rfl ?_
  refine zq_callV1 (pc := 2) (as := [.inr (.inr 89), .inl a0]) (r := []) (kc2 := 0) (ks2 := 0) zr_39_2 rfl (by decide) rfl rfl rfl rfl ⟨rfl, rfl⟩ ⟨rfl, rfl, rfl⟩ h (fun z1 V1 h => ?_)
  refine zq_if_ne (pc := 5) (t := 13) zr_39_5 (by decide) (z_toif h) (fun h => ?_) (fun h => ?_)
  · refine ze_aload_n (pc := 8) zr_39_8 rfl ?_
    refine zq_callV1 (pc := 9) (as := [.inr (.inr 89)]) (r := []) (kc2 := 0) (ks2 := 0) zr_39_9 rfl (by decide) rfl rfl rfl rfl ⟨rfl, rfl⟩ ⟨rfl, rfl, rfl⟩ h (fun z3 V3 h => ?_)
    refine z_gk h (fun g12 h => ?_)
    exact zq_ret4 (pc := 12) zr_39_12 rfl g12 h
  · refine ze_aload_n (pc := 13) zr_39_13 rfl ?_
    refine zq_callV0 (pc := 14) (as := [.inr (.inr 89)]) (r := []) (kc2 := 0) (ks2 := 0) zr_39_14 rfl (by decide) rfl rfl rfl rfl ⟨rfl, rfl⟩ rfl h (fun z2 V2 h => ?_)
    refine ze_iconst (pc := 17) zr_39_17 (by decide) ?_
    exact zq_ret4 (pc := 18) zr_39_18 rfl (by decide) h
theorem zb40_89 {d : Nat} {Q : Int → z_M → Prop}  {V : z_M}
    (h : z_MS d 41 true [.inr (.inr 89), .inl (V 89 8), .inl 32, .inl 32] V (fun z1 V1 => ∀ W1, W1 = z_up V1 89 7 z1 → z_MS d 41 true [.inr (.inr 89), .inl (W1 89 7), .inl 97, .inl 122] W1 (fun z2 V2 => z_MS d 41 true [.inr (.inr 89), .inl (V2 89 7), .inl 48, .inl 57] V2 (fun z3 V3 => ∀ W2, W2 = z_up V3 89 8 (z_max z2 z3) → zI ((W2 89 8) = (W2 89 7)) (zI ((W2 89 7) < (W2 89 6)) (∀ W3, W3 = z_up W2 89 8 (z_add (W2 89 7) 1) → Q 0 W3) (Q 0 W2)) (Q 0 W2))))) :
    z_MS (d + 1) 40 true [.inr (.inr 89)] V Q := by
  show z_Ex (z_MS d) 40 Q true 0 [some (.inr (.inr 89))] [] 0 0 V
  refine ze_aload_n (pc := 0) zr_40_0 rfl ?_
  refine ze_aload_n (pc := 1) zr_40_1 rfl ?_
  refine ze_aload_n (pc := 2) zr_40_2 rfl ?_
  refine ze_getfield (pc := 3) (v := .inl (V 89 8)) zr_40_3 rfl rfl ?_
  refine ze_bipush (pc := 6) zr_40_6 (by decide) ?_
  refine ze_bipush (pc := 8) zr_40_8 (by decide) ?_
  refine zq_callV1 (pc := 10) (as := [.inr (.inr 89), .inl (V 89 8), .inl 32, .inl 32]) (r := [.inr (.inr 89)]) (kc2 := 0) (ks2 := 0) zr_40_10 rfl (by decide) rfl rfl rfl rfl ⟨rfl, rfl⟩ ⟨rfl, rfl, rfl⟩ h (fun z1 V1 h => ?_)
  refine zq_putI (pc := 13) zr_40_13 (by decide) rfl h (fun W1 h => ?_)
  refine ze_aload_n (pc := 16) zr_40_16 rfl ?_
  refine ze_aload_n (pc := 17) zr_40_17 rfl ?_
  refine ze_aload_n (pc := 18) zr_40_18 rfl ?_
  refine ze_getfield (pc := 19) (v := .inl (W1 89 7)) zr_40_19 rfl rfl ?_
  refine ze_bipush (pc := 22) zr_40_22 (by decide) ?_
  refine ze_bipush (pc := 24) zr_40_24 (by decide) ?_
  refine zq_callV1 (pc := 26) (as := [.inr (.inr 89), .inl (W1 89 7), .inl 97, .inl 122]) (r := [.inr (.inr 89)]) (kc2 := 0) (ks2 := 0) zr_40_26 rfl (by decide) rfl rfl rfl rfl ⟨rfl, rfl⟩ ⟨rfl, rfl, rfl⟩ h (fun z2 V2 h => ?_)
  refine ze_aload_n (pc := 29) zr_40_29 rfl ?_
  refine ze_aload_n (pc := 30) zr_40_30 rfl ?_
  refine ze_getfield (pc := 31) (v := .inl (V2 89 7)) zr_40_31 rfl rfl ?_
  refine ze_bipush (pc := 34) zr_40_34 (by decide) ?_
  refine ze_bipush (pc := 36) zr_40_36 (by decide) ?_
  refine zq_callV1 (pc := 38) (as := [.inr (.inr 89), .inl (V2 89 7), .inl 48, .inl 57]) (r := [.inl z2, .inr (.inr 89)]) (kc2 := 0) (ks2 := 0) zr_40_38 rfl (by decide) rfl rfl rfl rfl ⟨rfl, rfl⟩ ⟨rfl, rfl, rfl⟩ h (fun z3 V3 h => ?_)
  refine zq_max (pc := 41) zr_40_41 (Nat.le_of_ble_eq_true rfl) ?_
  refine zq_putI (pc := 44) zr_40_44 (by decide) rfl h (fun W2 h => ?_)
  refine ze_aload_n (pc := 47) zr_40_47 rfl ?_
  refine ze_getfield (pc := 48) (v := .inl (W2 89 8)) zr_40_48 rfl rfl ?_
  refine ze_aload_n (pc := 51) zr_40_51 rfl ?_
  refine ze_getfield (pc := 52) (v := .inl (W2 89 7)) zr_40_52 rfl rfl ?_
  refine zq_icmp_ne (pc := 55) (t := 79) zr_40_55 (by decide) (z_toif h) (fun h => ?_) (fun h => ?_)
  · refine ze_aload_n (pc := 58) zr_40_58 rfl ?_
    refine ze_getfield (pc := 59) (v := .inl (W2 89 7)) zr_40_59 rfl rfl ?_
    refine ze_aload_n (pc := 62) zr_40_62 rfl ?_
    refine ze_getfield (pc := 63) (v := .inl (W2 89 6)) zr_40_63 rfl rfl ?_
    refine zq_icmp_ge (pc := 66) (t := 79) zr_40_66 (by decide) (z_toif h) (fun h => ?_) (fun h => ?_)
    · refine ze_aload_n (pc := 69) zr_40_69 rfl ?_
      refine ze_aload_n (pc := 70) zr_40_70 rfl ?_
      refine ze_getfield (pc := 71) (v := .inl (W2 89 7)) zr_40_71 rfl rfl ?_
      refine ze_iconst (pc := 74) zr_40_74 (by decide) ?_
      refine ze_iadd (pc := 75) zr_40_75 ?_
      refine zq_putI (pc := 76) zr_40_76 (by decide) rfl h (fun W3 h => ?_)
      exact ze_vret (pc := 79) zr_40_79 rfl h
    · exact ze_vret (pc := 79) zr_40_79 rfl h
  · exact ze_vret (pc := 79) zr_40_79 rfl h
theorem zb41_89 {d : Nat} {Q : Int → z_M → Prop} (a0 : Int) (a1 : Int) (a2 : Int) {V : z_M}
    (h : z_Ex (z_MS d) 41 Q true 3 [some (.inr (.inr 89)), some (.inl a0), some (.inl a1), some (.inl a2), some (.inl a0)] [] 0 0 V) :
    z_MS (d + 1) 41 true [.inr (.inr 89), .inl a0, .inl a1, .inl a2] V Q := by
  show z_Ex (z_MS d) 41 Q true 0 [some (.inr (.inr 89)), some (.inl a0), some (.inl a1), some (.inl a2), none] [] 0 0 V
  refine ze_iload_n (pc := 0) zr_41_0 rfl ?_
  refine zq_istore (pc := 1) (ls2 := [some (.inr (.inr 89)), some (.inl a0), some (.inl a1), some (.inl a2), some (.inl a0)]) zr_41_1 rfl rfl ?_
  exact h
theorem zb41_89_p3 {d : Nat} {Q : Int → z_M → Prop} (o1 : Option z_V) (l2 : Int) (l3 : Int) (l4 : Int) {V : z_M}
    (h : zI (l4 < (V 89 6)) (zGu (z_kd ((V 89 5).toNat) = 101) (zGu (0 ≤ l4 ∧ l4 < z_len' V ((V 89 5).toNat)) (∀ x18 : Int, x18 = V ((V 89 5).toNat) l4.toNat → zI (x18 < l2) (Q l4 V) (zGu (z_kd ((V 89 5).toNat) = 101) (zGu (0 ≤ l4 ∧ l4 < z_len' V ((V 89 5).toNat)) (∀ x29 : Int, x29 = V ((V 89 5).toNat) l4.toNat → zI (l3 < x29) (Q l4 V) (z_Ex (z_MS d) 41 Q true 3 [some (.inr (.inr 89)), o1, some (.inl l2), some (.inl l3), some (.inl (z_add l4 1))] [] 0 0 V))))))) (Q l4 V)) :
    z_Ex (z_MS d) 41 Q true 3 [some (.inr (.inr 89)), o1, some (.inl l2), some (.inl l3), some (.inl l4)] [] 0 0 V := by
  refine ze_iload (pc := 3) zr_41_3 rfl ?_
  refine ze_aload_n (pc := 5) zr_41_5 rfl ?_
  refine ze_getfield (pc := 6) (v := .inl (V 89 6)) zr_41_6 rfl rfl ?_
  refine zq_icmp_ge (pc := 9) (t := 40) zr_41_9 (by decide) (z_toif h) (fun h => ?_) (fun h => ?_)
  · refine ze_aload_n (pc := 12) zr_41_12 rfl ?_
    refine ze_getfield (pc := 13) (v := .inr (.inr ((V 89 5).toNat))) zr_41_13 rfl rfl ?_
    refine ze_iload (pc := 16) zr_41_16 rfl ?_
    refine z_gk h (fun k18 h => ?_)
    refine z_gk h (fun g18 h => ?_)
    refine zl_ialoadv (pc := 18) zr_41_18 k18 g18 h (fun x18 h => ?_)
    refine ze_iload_n (pc := 19) zr_41_19 rfl ?_
    refine zq_icmp_lt (pc := 20) (t := 40) zr_41_20 (by decide) (z_toif h) (fun h => ?_) (fun h => ?_)
    · refine ze_iload (pc := 40) zr_41_40 rfl ?_
      exact zq_ret1 (pc := 42) zr_41_42 rfl h
    · refine ze_aload_n (pc := 23) zr_41_23 rfl ?_
      refine ze_getfield (pc := 24) (v := .inr (.inr ((V 89 5).toNat))) zr_41_24 rfl rfl ?_
      refine ze_iload (pc := 27) zr_41_27 rfl ?_
      refine z_gk h (fun k29 h => ?_)
      refine z_gk h (fun g29 h => ?_)
      refine zl_ialoadv (pc := 29) zr_41_29 k29 g29 h (fun x29 h => ?_)
      refine ze_iload_n (pc := 30) zr_41_30 rfl ?_
      refine zq_icmp_gt (pc := 31) (t := 40) zr_41_31 (by decide) (z_toif h) (fun h => ?_) (fun h => ?_)
      · refine ze_iload (pc := 40) zr_41_40 rfl ?_
        exact zq_ret1 (pc := 42) zr_41_42 rfl h
      · refine zq_iinc (pc := 34) (ls2 := [some (.inr (.inr 89)), o1, some (.inl l2), some (.inl l3), some (.inl (z_add l4 1))]) zr_41_34 rfl rfl rfl ?_
        refine ze_goto (pc := 37) (t := 3) zr_41_37 (by decide) ?_
        exact h
  · refine ze_iload (pc := 40) zr_41_40 rfl ?_
    exact zq_ret1 (pc := 42) zr_41_42 rfl h
theorem zb42_89 {d : Nat} {Q : Int → z_M → Prop} (a0 : Int) {V : z_M}
    (h : zI ((V 89 7) < (V 89 6)) (zGu (z_kd ((V 89 5).toNat) = 101) (zGu (0 ≤ (V 89 7) ∧ (V 89 7) < z_len' V ((V 89 5).toNat)) (∀ x19 : Int, x19 = V ((V 89 5).toNat) (V 89 7).toNat → Q (if x19 = a0 then 1 else 0) V))) (Q 0 V)) :
    z_MS (d + 1) 42 true [.inr (.inr 89), .inl a0] V Q := by
  show z_Ex (z_MS d) 42 Q true 0 [some (.inr (.inr 89)), some (.inl a0)] [] 0 0 V
  refine ze_aload_n (pc := 0) zr_42_0 rfl ?_
  refine ze_getfield (pc := 1) (v := .inl (V 89 7)) zr_42_1 rfl rfl ?_
  refine ze_aload_n (pc := 4) zr_42_4 rfl ?_
  refine ze_getfield (pc := 5) (v := .inl (V 89 6)) zr_42_5 rfl rfl ?_
  refine zq_icmp_ge (pc := 8) (t := 28) zr_42_8 (by decide) (z_toif h) (fun h => ?_) (fun h => ?_)
  · refine ze_aload_n (pc := 11) zr_42_11 rfl ?_
    refine ze_getfield (pc := 12) (v := .inr (.inr ((V 89 5).toNat))) zr_42_12 rfl rfl ?_
    refine ze_aload_n (pc := 15) zr_42_15 rfl ?_
    refine ze_getfield (pc := 16) (v := .inl (V 89 7)) zr_42_16 rfl rfl ?_
    refine z_gk h (fun k19 h => ?_)
    refine z_gk h (fun g19 h => ?_)
    refine zl_ialoadv (pc := 19) zr_42_19 k19 g19 h (fun x19 h => ?_)
    refine ze_iload_n (pc := 20) zr_42_20 rfl ?_
    have j21 : z_Ex (z_MS d) 42 Q true 29 [some (.inr (.inr 89)), some (.inl a0)] [.inl (if x19 = a0 then 1 else 0)] 0 0 V := by
      exact zq_ret4 (pc := 29) zr_42_29 rfl (by (repeat' split) <;> decide) h
    refine ze_icmp_ne (pc := 21) (t := 28) zr_42_21 (by decide) (fun hc => ?_) (fun hc => ?_)
    · rw [if_pos (show x19 = a0 from hc)] at j21
      refine ze_iconst (pc := 24) zr_42_24 (by decide) ?_
      refine ze_goto (pc := 25) (t := 29) zr_42_25 (by decide) ?_
      exact j21
    · rw [if_neg (show ¬ (x19 = a0) from hc)] at j21
      refine ze_iconst (pc := 28) zr_42_28 (by decide) ?_
      exact j21
  · refine ze_iconst (pc := 28) zr_42_28 (by decide) ?_
    exact zq_ret4 (pc := 29) zr_42_29 rfl (by decide) h
theorem zb43_89_8 {d : Nat} {Q : Int → z_M → Prop}  {V : z_M}
    (h : z_MS d 249 true [.inr (.inr 8)] V (fun z1 V1 => zI ((z_sub (V 89 8) (V 89 7)) = z1) (z_Ex (z_MS d) 43 Q true 23 [some (.inr (.inr 89)), some (.inr (.inr 8)), some (.inl (V1 89 7))] [] 0 0 V1) (Q 0 V1))) :
    z_MS (d + 1) 43 true [.inr (.inr 89), .inr (.inr 8)] V Q := by
  show z_Ex (z_MS d) 43 Q true 0 [some (.inr (.inr 89)), some (.inr (.inr 8)), none] [] 0 0 V
  refine ze_aload_n (pc := 0) zr_43_0 rfl ?_
  refine ze_getfield (pc := 1) (v := .inl (V 89 8)) zr_43_1 rfl rfl ?_
  refine ze_aload_n (pc := 4) zr_43_4 rfl ?_
  refine ze_getfield (pc := 5) (v := .inl (V 89 7)) zr_43_5 rfl rfl ?_
  refine ze_isub (pc := 8) zr_43_8 ?_
  refine ze_aload_n (pc := 9) zr_43_9 rfl ?_
  refine zq_callV1 (pc := 10) (as := [.inr (.inr 8)]) (r := [.inl (z_sub (V 89 8) (V 89 7))]) (kc2 := 0) (ks2 := 0) zr_43_10 rfl (by decide) rfl rfl rfl rfl ⟨rfl, rfl⟩ ⟨rfl, rfl, rfl⟩ h (fun z1 V1 h => ?_)
  refine zq_icmp_eq (pc := 13) (t := 18) zr_43_13 (by decide) (z_toif h) (fun h => ?_) (fun h => ?_)
  · refine ze_aload_n (pc := 18) zr_43_18 rfl ?_
    refine ze_getfield (pc := 19) (v := .inl (V1 89 7)) zr_43_19 rfl rfl ?_
    refine zq_istore_n (pc := 22) (ls2 := [some (.inr (.inr 89)), some (.inr (.inr 8)), some (.inl (V1 89 7))]) zr_43_22 rfl rfl ?_
    exact h
  · refine ze_iconst (pc := 16) zr_43_16 (by decide) ?_
    exact zq_ret4 (pc := 17) zr_43_17 rfl (by decide) h
theorem zb43_89_8_p23 {d : Nat} {Q : Int → z_M → Prop} (l2 : Int) {V : z_M}
    (h : zI (l2 < (V 89 8)) (zGu (z_kd ((V 89 5).toNat) = 101) (zGu (0 ≤ l2 ∧ l2 < z_len' V ((V 89 5).toNat)) (∀ x36 : Int, x36 = V ((V 89 5).toNat) l2.toNat → z_MS d 250 true [.inr (.inr 8), .inl (z_sub l2 (V 89 7))] V (fun z2401 V2401 => zI (x36 = z2401) (z_Ex (z_MS d) 43 Q true 23 [some (.inr (.inr 89)), some (.inr (.inr 8)), some (.inl (z_add l2 1))] [] 0 0 V2401) (Q 0 V2401))))) (Q 1 V)) :
    z_Ex (z_MS d) 43 Q true 23 [some (.inr (.inr 89)), some (.inr (.inr 8)), some (.inl l2)] [] 0 0 V := by
  refine ze_iload_n (pc := 23) zr_43_23 rfl ?_
  refine ze_aload_n (pc := 24) zr_43_24 rfl ?_
  refine ze_getfield (pc := 25) (v := .inl (V 89 8)) zr_43_25 rfl rfl ?_
  refine zq_icmp_ge (pc := 28) (t := 58) zr_43_28 (by decide) (z_toif h) (fun h => ?_) (fun h => ?_)
  · refine ze_aload_n (pc := 31) zr_43_31 rfl ?_
    refine ze_getfield (pc := 32) (v := .inr (.inr ((V 89 5).toNat))) zr_43_32 rfl rfl ?_
    refine ze_iload_n (pc := 35) zr_43_35 rfl ?_
    refine z_gk h (fun k36 h => ?_)
    refine z_gk h (fun g36 h => ?_)
    refine zl_ialoadv (pc := 36) zr_43_36 k36 g36 h (fun x36 h => ?_)
    refine ze_aload_n (pc := 37) zr_43_37 rfl ?_
    refine ze_iload_n (pc := 38) zr_43_38 rfl ?_
    refine ze_aload_n (pc := 39) zr_43_39 rfl ?_
    refine ze_getfield (pc := 40) (v := .inl (V 89 7)) zr_43_40 rfl rfl ?_
    refine ze_isub (pc := 43) zr_43_43 ?_
    refine zq_callV1 (pc := 44) (as := [.inr (.inr 8), .inl (z_sub l2 (V 89 7))]) (r := [.inl x36]) (kc2 := 0) (ks2 := 0) zr_43_44 rfl (by decide) rfl rfl rfl rfl ⟨rfl, rfl⟩ ⟨rfl, rfl, rfl⟩ h (fun z2401 V2401 h => ?_)
    refine zq_icmp_eq (pc := 47) (t := 52) zr_43_47 (by decide) (z_toif h) (fun h => ?_) (fun h => ?_)
    · refine zq_iinc (pc := 52) (ls2 := [some (.inr (.inr 89)), some (.inr (.inr 8)), some (.inl (z_add l2 1))]) zr_43_52 rfl rfl rfl ?_
      refine ze_goto (pc := 55) (t := 23) zr_43_55 (by decide) ?_
      exact h
    · refine ze_iconst (pc := 50) zr_43_50 (by decide) ?_
      exact zq_ret4 (pc := 51) zr_43_51 rfl (by decide) h
  · refine ze_iconst (pc := 58) zr_43_58 (by decide) ?_
    exact zq_ret4 (pc := 59) zr_43_59 rfl (by decide) h
theorem zb249_8 {d : Nat} {Q : Int → z_M → Prop}  {V : z_M}
    (h : z_MS d 251 true [.inr (.inr 8)] V (fun z1 V1 => Q (z_shr 5 z1) V1)) :
    z_MS (d + 1) 249 true [.inr (.inr 8)] V Q := by
  show z_Ex (z_MS d) 249 Q true 0 [some (.inr (.inr 8))] [] 0 0 V
  refine ze_aload_n (pc := 0) zr_249_0 rfl ?_
  refine ze_getfield (pc := 1) (v := .inr (.inr 22)) zr_249_1 rfl rfl ?_
  refine ze_length (pc := 4) (z := 5) zr_249_4 (by decide) rfl ?_
  refine ze_aload_n (pc := 5) zr_249_5 rfl ?_
  refine zq_callV1 (pc := 6) (as := [.inr (.inr 8)]) (r := [.inl 5]) (kc2 := 0) (ks2 := 0) zr_249_6 rfl (by decide) rfl rfl rfl rfl ⟨rfl, rfl⟩ ⟨rfl, rfl, rfl⟩ h (fun z1 V1 h => ?_)
  refine ze_ishr (pc := 9) zr_249_9 ?_
  exact zq_ret1 (pc := 10) zr_249_10 rfl h
theorem zb250_8 {d : Nat} {Q : Int → z_M → Prop} (a0 : Int) {V : z_M}
    (h : z_MS d 252 true [.inr (.inr 8)] V (fun z1 V1 => zI (z1 = 0) (False) (z_MS d 254 true [.inr (.inr 22), .inl a0] V1 (fun z2 V2 => zGu (0 ≤ z2 ∧ z2 < 65536) (Q z2 V2))))) :
    z_MS (d + 1) 250 true [.inr (.inr 8), .inl a0] V Q := by
  show z_Ex (z_MS d) 250 Q true 0 [some (.inr (.inr 8)), some (.inl a0)] [] 0 0 V
  refine ze_aload_n (pc := 0) zr_250_0 rfl ?_
  refine zq_callV1 (pc := 1) (as := [.inr (.inr 8)]) (r := []) (kc2 := 0) (ks2 := 0) zr_250_1 rfl (by decide) rfl rfl rfl rfl ⟨rfl, rfl⟩ ⟨rfl, rfl, rfl⟩ h (fun z1 V1 h => ?_)
  refine zq_if_eq (pc := 4) (t := 16) zr_250_4 (by decide) (z_toif h) (fun h => ?_) (fun h => ?_)
  · refine ze_aload_n (pc := 16) zr_250_16 rfl ?_
    refine ze_getfield (pc := 17) (v := .inr (.inr 22)) zr_250_17 rfl rfl ?_
    refine ze_iload_n (pc := 20) zr_250_20 rfl ?_
    exact h.elim
  · refine ze_aload_n (pc := 7) zr_250_7 rfl ?_
    refine ze_getfield (pc := 8) (v := .inr (.inr 22)) zr_250_8 rfl rfl ?_
    refine ze_iload_n (pc := 11) zr_250_11 rfl ?_
    refine zq_callS1 (pc := 12) (as := [.inr (.inr 22), .inl a0]) (r := []) (kc2 := 0) (ks2 := 0) zr_250_12 rfl rfl rfl rfl ⟨rfl, rfl⟩ ⟨rfl, rfl, rfl⟩ h (fun z2 V2 h => ?_)
    refine z_gk h (fun g15 h => ?_)
    exact zq_ret5 (pc := 15) zr_250_15 rfl g15 h
theorem zb251_8 {d : Nat} {Q : Int → z_M → Prop}  {V : z_M}
    (h : zGu (-128 ≤ (if (1 : Int) = 0 then 1 else V 8 1) ∧ (if (1 : Int) = 0 then 1 else V 8 1) < 128) (Q (if (1 : Int) = 0 then 1 else V 8 1) V)) :
    z_MS (d + 1) 251 true [.inr (.inr 8)] V Q := by
  show z_Ex (z_MS d) 251 Q true 0 [some (.inr (.inr 8))] [] 0 0 V
  refine ze_compact (pc := 0) zr_251_0 rfl ?_
  have j3 : z_Ex (z_MS d) 251 Q true 14 [some (.inr (.inr 8))] [.inl (if (1 : Int) = 0 then 1 else V 8 1)] 0 0 V := by
    refine z_gk h (fun g14 h => ?_)
    exact zq_ret6 (pc := 14) zr_251_14 rfl g14 h
  refine ze_if_eq (pc := 3) (t := 13) zr_251_3 (by decide) (fun hc => ?_) (fun hc => ?_)
  · rw [if_pos (show (1 : Int) = 0 from hc)] at j3
    refine ze_iconst (pc := 13) zr_251_13 (by decide) ?_
    exact j3
  · rw [if_neg (show ¬ ((1 : Int) = 0) from hc)] at j3
    refine ze_aload_n (pc := 6) zr_251_6 rfl ?_
    refine ze_getfield (pc := 7) (v := .inl (V 8 1)) zr_251_7 rfl rfl ?_
    refine ze_goto (pc := 10) (t := 14) zr_251_10 (by decide) ?_
    exact j3
theorem zb252_8 {d : Nat} {Q : Int → z_M → Prop}  {V : z_M}
    (h : Q (if (1 : Int) = 0 then 0 else (if (V 8 1) = 0 then 1 else 0)) V) :
    z_MS (d + 1) 252 true [.inr (.inr 8)] V Q := by
  show z_Ex (z_MS d) 252 Q true 0 [some (.inr (.inr 8))] [] 0 0 V
  refine ze_compact (pc := 0) zr_252_0 rfl ?_
  have j3 : z_Ex (z_MS d) 252 Q true 18 [some (.inr (.inr 8))] [.inl (if (1 : Int) = 0 then 0 else (if (V 8 1) = 0 then 1 else 0))] 0 0 V := by
    exact zq_ret4 (pc := 18) zr_252_18 rfl (by (repeat' split) <;> decide) h
  refine ze_if_eq (pc := 3) (t := 17) zr_252_3 (by decide) (fun hc => ?_) (fun hc => ?_)
  · rw [if_pos (show (1 : Int) = 0 from hc)] at j3
    refine ze_iconst (pc := 17) zr_252_17 (by decide) ?_
    exact j3
  · rw [if_neg (show ¬ ((1 : Int) = 0) from hc)] at j3
    refine ze_aload_n (pc := 6) zr_252_6 rfl ?_
    refine ze_getfield (pc := 7) (v := .inl (V 8 1)) zr_252_7 rfl rfl ?_
    refine ze_if_ne (pc := 10) (t := 17) zr_252_10 (by decide) (fun hc => ?_) (fun hc => ?_)
    · rw [if_pos (show (V 8 1) = 0 from hc)] at j3
      refine ze_iconst (pc := 13) zr_252_13 (by decide) ?_
      refine ze_goto (pc := 14) (t := 18) zr_252_14 (by decide) ?_
      exact j3
    · rw [if_neg (show ¬ ((V 8 1) = 0) from hc)] at j3
      refine ze_iconst (pc := 17) zr_252_17 (by decide) ?_
      exact j3
