/-! blocks of rows: printed by a program (blk2.py, gen99m.py) -/
theorem zb25_89_87 {d : Nat} {Q : Int → z_M → Prop}  {V : z_M}
    (h : ∀ W1, W1 = z_up V 89 5 (88 : Nat) → ∀ W2, W2 = z_up W1 89 6 (z_min (W1 87 1) 400) → ∀ W3, W3 = z_up W2 89 3 0 → ∀ W4, W4 = z_up W3 89 4 0 → ∀ W5, W5 = z_up W4 89 8 0 → ∀ W6, W6 = z_up W5 89 9 (-1) → z_MS d 40 true [.inr (.inr 89)] W6 (fun z1 V1 => z_Ex (z_MS d) 25 Q true 50 [some (.inr (.inr 89)), some (.inr (.inr 87)), some (.inl 0)] [] 0 0 V1)) :
    z_MS (d + 1) 25 true [.inr (.inr 89), .inr (.inr 87)] V Q := by
  show z_Ex (z_MS d) 25 Q true 0 [some (.inr (.inr 89)), some (.inr (.inr 87)), none] [] 0 0 V
  refine ze_aload_n (pc := 0) zr_25_0 rfl ?_
  refine ze_aload_n (pc := 1) zr_25_1 rfl ?_
  refine ze_getfield (pc := 2) (v := .inr (.inr 88)) zr_25_2 rfl rfl ?_
  refine zq_putA (pc := 5) zr_25_5 (by decide) rfl (by decide) h (fun W1 h => ?_)
  refine ze_aload_n (pc := 8) zr_25_8 rfl ?_
  refine ze_aload_n (pc := 9) zr_25_9 rfl ?_
  refine ze_getfield (pc := 10) (v := .inl (W1 87 1)) zr_25_10 rfl rfl ?_
  refine ze_aload_n (pc := 13) zr_25_13 rfl ?_
  refine ze_getfield (pc := 14) (v := .inr (.inr 88)) zr_25_14 rfl rfl ?_
  refine ze_length (pc := 17) (z := 400) zr_25_17 (by decide) rfl ?_
  refine zq_min (pc := 18) zr_25_18 (Nat.le_of_ble_eq_true rfl) ?_
  refine zq_putI (pc := 21) zr_25_21 (by decide) rfl h (fun W2 h => ?_)
  refine ze_aload_n (pc := 24) zr_25_24 rfl ?_
  refine ze_iconst (pc := 25) zr_25_25 (by decide) ?_
  refine zq_putI (pc := 26) zr_25_26 (by decide) rfl h (fun W3 h => ?_)
  refine ze_aload_n (pc := 29) zr_25_29 rfl ?_
  refine ze_iconst (pc := 30) zr_25_30 (by decide) ?_
  refine zq_putI (pc := 31) zr_25_31 (by decide) rfl h (fun W4 h => ?_)
  refine ze_aload_n (pc := 34) zr_25_34 rfl ?_
  refine ze_iconst (pc := 35) zr_25_35 (by decide) ?_
  refine zq_putI (pc := 36) zr_25_36 (by decide) rfl h (fun W5 h => ?_)
  refine ze_aload_n (pc := 39) zr_25_39 rfl ?_
  refine ze_iconst (pc := 40) zr_25_40 (by decide) ?_
  refine zq_putI (pc := 41) zr_25_41 (by decide) rfl h (fun W6 h => ?_)
  refine ze_aload_n (pc := 44) zr_25_44 rfl ?_
  refine zq_callV0 (pc := 45) (as := [.inr (.inr 89)]) (r := []) (kc2 := 0) (ks2 := 0) zr_25_45 rfl (by decide) rfl rfl rfl rfl ⟨rfl, rfl⟩ rfl h (fun z1 V1 h => ?_)
  refine ze_iconst (pc := 48) zr_25_48 (by decide) ?_
  refine zq_istore_n (pc := 49) (ls2 := [some (.inr (.inr 89)), some (.inr (.inr 87)), some (.inl 0)]) zr_25_49 rfl rfl ?_
  exact h
theorem zb25_89_87_p50 {d : Nat} {Q : Int → z_M → Prop} (o1 : Option z_V) (l2 : Int) {V : z_M}
    (h : zI (l2 < 12) (zGu (0 ≤ l2 ∧ l2 < 13) (∀ W5101, W5101 = z_up V 92 l2.toNat (V 89 3) → z_MS d 26 true [.inr (.inr 89)] W5101 (fun z5102 V5102 => zI (z5102 = 0) (Q (0 : Nat) V5102) (zGu (0 ≤ (z_add l2 1) ∧ (z_add l2 1) < 13) (∀ W5102, W5102 = z_up V5102 92 (z_add l2 1).toNat (V5102 89 3) → zI ((W5102 89 7) < (W5102 89 6)) (z_MS d 39 true [.inr (.inr 89), .inl 59] W5102 (fun z5103 V5103 => zI (z5103 = 0) (Q (0 : Nat) V5103) (z_Ex (z_MS d) 25 Q true 50 [some (.inr (.inr 89)), (cond (z_o2 o1) none o1), some (.inl (z_add l2 1))] [] 0 0 V5103))) (z_Ex (z_MS d) 25 Q true 98 [some (.inr (.inr 89)), o1, some (.inl l2)] [] 0 0 W5102)))))) (z_MS d 38 true [.inr (.inr 89)] V (fun z5101 V5101 => Q (0 : Nat) V5101))) :
    z_Ex (z_MS d) 25 Q true 50 [some (.inr (.inr 89)), o1, some (.inl l2)] [] 0 0 V := by
  refine ze_iload_n (pc := 50) zr_25_50 rfl ?_
  refine ze_bipush (pc := 51) zr_25_51 (by decide) ?_
  refine zq_icmp_ge (pc := 53) (t := 155) zr_25_53 (by decide) (z_toif h) (fun h => ?_) (fun h => ?_)
  · refine ze_aload_n (pc := 56) zr_25_56 rfl ?_
    refine ze_getfield (pc := 57) (v := .inr (.inr 92)) zr_25_57 rfl rfl ?_
    refine ze_iload_n (pc := 60) zr_25_60 rfl ?_
    refine ze_aload_n (pc := 61) zr_25_61 rfl ?_
    refine ze_getfield (pc := 62) (v := .inl (V 89 3)) zr_25_62 rfl rfl ?_
    refine z_gk h (fun g65 h => ?_)
    refine zq_iastore (pc := 65) zr_25_65 (by decide) rfl g65 rfl h (fun W5101 h => ?_)
    refine ze_aload_n (pc := 66) zr_25_66 rfl ?_
    refine zq_callV1 (pc := 67) (as := [.inr (.inr 89)]) (r := []) (kc2 := 0) (ks2 := 0) zr_25_67 rfl (by decide) rfl rfl rfl rfl ⟨rfl, rfl⟩ ⟨rfl, rfl, rfl⟩ h (fun z5102 V5102 h => ?_)
    refine zq_if_ne (pc := 70) (t := 75) zr_25_70 (by decide) (z_toif h) (fun h => ?_) (fun h => ?_)
    · refine ze_null (pc := 73) zr_25_73 ?_
      exact ze_aret (pc := 74) zr_25_74 (by decide) h
    · refine ze_aload_n (pc := 75) zr_25_75 rfl ?_
      refine ze_getfield (pc := 76) (v := .inr (.inr 92)) zr_25_76 rfl rfl ?_
      refine ze_iload_n (pc := 79) zr_25_79 rfl ?_
      refine ze_iconst (pc := 80) zr_25_80 (by decide) ?_
      refine ze_iadd (pc := 81) zr_25_81 ?_
      refine ze_aload_n (pc := 82) zr_25_82 rfl ?_
      refine ze_getfield (pc := 83) (v := .inl (V5102 89 3)) zr_25_83 rfl rfl ?_
      refine z_gk h (fun g86 h => ?_)
      refine zq_iastore (pc := 86) zr_25_86 (by decide) rfl g86 rfl h (fun W5102 h => ?_)
      refine ze_aload_n (pc := 87) zr_25_87 rfl ?_
      refine ze_getfield (pc := 88) (v := .inl (W5102 89 7)) zr_25_88 rfl rfl ?_
      refine ze_aload_n (pc := 91) zr_25_91 rfl ?_
      refine ze_getfield (pc := 92) (v := .inl (W5102 89 6)) zr_25_92 rfl rfl ?_
      refine zq_icmp_lt (pc := 95) (t := 138) zr_25_95 (by decide) (z_toif h) (fun h => ?_) (fun h => ?_)
      · refine ze_aload_n (pc := 138) zr_25_138 rfl ?_
        refine ze_bipush (pc := 139) zr_25_139 (by decide) ?_
        refine zq_callV1 (pc := 141) (as := [.inr (.inr 89), .inl 59]) (r := []) (kc2 := 0) (ks2 := 0) zr_25_141 rfl (by decide) rfl rfl rfl rfl ⟨rfl, rfl⟩ ⟨rfl, rfl, rfl⟩ h (fun z5103 V5103 h => ?_)
        refine zq_if_ne (pc := 144) (t := 149) zr_25_144 (by decide) (z_toif h) (fun h => ?_) (fun h => ?_)
        · refine ze_null (pc := 147) zr_25_147 ?_
          exact ze_aret (pc := 148) zr_25_148 (by decide) h
        · refine zq_iinc (pc := 149) (ls2 := [some (.inr (.inr 89)), (cond (z_o2 o1) none o1), some (.inl (z_add l2 1))]) zr_25_149 rfl rfl rfl ?_
          refine ze_goto (pc := 152) (t := 50) zr_25_152 (by decide) ?_
          exact h
      · exact h
  · refine ze_aload_n (pc := 155) zr_25_155 rfl ?_
    refine zq_callV1 (pc := 156) (as := [.inr (.inr 89)]) (r := []) (kc2 := 0) (ks2 := 0) zr_25_156 rfl (by decide) rfl rfl rfl rfl ⟨rfl, rfl⟩ ⟨rfl, rfl, rfl⟩ h (fun z5101 V5101 h => ?_)
    refine ze_pop (pc := 159) zr_25_159 rfl ?_
    refine ze_null (pc := 160) zr_25_160 ?_
    exact ze_aret (pc := 161) zr_25_161 (by decide) h
