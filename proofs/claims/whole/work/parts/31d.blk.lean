/-! blocks of rows: printed by a program (blk2.py) -/
theorem zb73_70_37 {d : Nat} {Q : Int → z_M → Prop}  {V : z_M}
    (h : z_MS d 74 true [.inr (.inr 38), .inr (.inr 71)] V (fun z1 V1 => z_MS d 74 true [.inr (.inr 43), .inr (.inr 76)] V1 (fun z2 V2 => z_MS d 74 true [.inr (.inr 48), .inr (.inr 81)] V2 (fun z3 V3 => zGu (0 ≤ (2 : Int) ∧ 0 ≤ (0 : Int) ∧ 0 ≤ (0 : Int) ∧ (0 : Int) + (2 : Int) ≤ 2 ∧ (0 : Int) + (2 : Int) ≤ 2) (∀ W1, W1 = z_cpy V3 46 0 79 0 2 → zGu (0 ≤ (8 : Int) ∧ 0 ≤ (0 : Int) ∧ 0 ≤ (0 : Int) ∧ (0 : Int) + (8 : Int) ≤ 8 ∧ (0 : Int) + (8 : Int) ≤ 8) (∀ W2, W2 = z_cpy W1 51 0 84 0 8 → z_Ex (z_MS d) 73 Q true 71 [some (.inr (.inr 70)), some (.inr (.inr 37)), some (.inl 0)] [] 0 0 W2)))))) :
    z_MS (d + 1) 73 true [.inr (.inr 70), .inr (.inr 37)] V Q := by
  show z_Ex (z_MS d) 73 Q true 0 [some (.inr (.inr 70)), some (.inr (.inr 37)), none] [] 0 0 V
  refine ze_aload_n (pc := 0) zr_73_0 rfl ?_
  refine ze_getfield (pc := 1) (v := .inr (.inr 38)) zr_73_1 rfl rfl ?_
  refine ze_aload_n (pc := 4) zr_73_4 rfl ?_
  refine ze_getfield (pc := 5) (v := .inr (.inr 71)) zr_73_5 rfl rfl ?_
  refine zq_callS0 (pc := 8) (as := [.inr (.inr 38), .inr (.inr 71)]) (r := []) (kc2 := 0) (ks2 := 0) zr_73_8 rfl rfl rfl rfl ⟨rfl, rfl⟩ rfl h (fun z1 V1 h => ?_)
  refine ze_aload_n (pc := 11) zr_73_11 rfl ?_
  refine ze_getfield (pc := 12) (v := .inr (.inr 43)) zr_73_12 rfl rfl ?_
  refine ze_aload_n (pc := 15) zr_73_15 rfl ?_
  refine ze_getfield (pc := 16) (v := .inr (.inr 76)) zr_73_16 rfl rfl ?_
  refine zq_callS0 (pc := 19) (as := [.inr (.inr 43), .inr (.inr 76)]) (r := []) (kc2 := 0) (ks2 := 0) zr_73_19 rfl rfl rfl rfl ⟨rfl, rfl⟩ rfl h (fun z2 V2 h => ?_)
  refine ze_aload_n (pc := 22) zr_73_22 rfl ?_
  refine ze_getfield (pc := 23) (v := .inr (.inr 48)) zr_73_23 rfl rfl ?_
  refine ze_aload_n (pc := 26) zr_73_26 rfl ?_
  refine ze_getfield (pc := 27) (v := .inr (.inr 81)) zr_73_27 rfl rfl ?_
  refine zq_callS0 (pc := 30) (as := [.inr (.inr 48), .inr (.inr 81)]) (r := []) (kc2 := 0) (ks2 := 0) zr_73_30 rfl rfl rfl rfl ⟨rfl, rfl⟩ rfl h (fun z3 V3 h => ?_)
  refine ze_aload_n (pc := 33) zr_73_33 rfl ?_
  refine ze_getfield (pc := 34) (v := .inr (.inr 46)) zr_73_34 rfl rfl ?_
  refine ze_iconst (pc := 37) zr_73_37 (by decide) ?_
  refine ze_aload_n (pc := 38) zr_73_38 rfl ?_
  refine ze_getfield (pc := 39) (v := .inr (.inr 79)) zr_73_39 rfl rfl ?_
  refine ze_iconst (pc := 42) zr_73_42 (by decide) ?_
  refine ze_aload_n (pc := 43) zr_73_43 rfl ?_
  refine ze_getfield (pc := 44) (v := .inr (.inr 79)) zr_73_44 rfl rfl ?_
  refine ze_length (pc := 47) (z := 2) zr_73_47 (by decide) rfl ?_
  refine z_gk h (fun g48 h => ?_)
  refine zq_acopy (pc := 48) zr_73_48 ⟨rfl, rfl, by decide, Nat.le_of_ble_eq_true rfl⟩ rfl rfl g48 rfl rfl rfl h (fun W1 h => ?_)
  refine ze_aload_n (pc := 51) zr_73_51 rfl ?_
  refine ze_getfield (pc := 52) (v := .inr (.inr 51)) zr_73_52 rfl rfl ?_
  refine ze_iconst (pc := 55) zr_73_55 (by decide) ?_
  refine ze_aload_n (pc := 56) zr_73_56 rfl ?_
  refine ze_getfield (pc := 57) (v := .inr (.inr 84)) zr_73_57 rfl rfl ?_
  refine ze_iconst (pc := 60) zr_73_60 (by decide) ?_
  refine ze_aload_n (pc := 61) zr_73_61 rfl ?_
  refine ze_getfield (pc := 62) (v := .inr (.inr 84)) zr_73_62 rfl rfl ?_
  refine ze_length (pc := 65) (z := 8) zr_73_65 (by decide) rfl ?_
  refine z_gk h (fun g66 h => ?_)
  refine zq_acopy (pc := 66) zr_73_66 ⟨rfl, rfl, by decide, Nat.le_of_ble_eq_true rfl⟩ rfl rfl g66 rfl rfl rfl h (fun W2 h => ?_)
  refine ze_iconst (pc := 69) zr_73_69 (by decide) ?_
  refine zq_istore_n (pc := 70) (ls2 := [some (.inr (.inr 70)), some (.inr (.inr 37)), some (.inl 0)]) zr_73_70 rfl rfl ?_
  exact h
theorem zb73_70_37_p71 {d : Nat} {Q : Int → z_M → Prop} (l2 : Int) {V : z_M}
    (h : zI (l2 < 6) (zGu (0 ≤ l2 ∧ l2 < 6) (∀ x87 : Nat, x87 = z_rr true V 47 l2.toNat → zGu (x87 = 0 ∨ (36 ≤ x87 ∧ z_kd x87 = 5)) (zGu (true = true → z_rf 80 l2.toNat = 0) (zGu (0 ≤ l2 ∧ l2 < 6) (∀ W7207, W7207 = z_up V 80 l2.toNat (x87 : Nat) → z_Ex (z_MS d) 73 Q true 71 [some (.inr (.inr 70)), some (.inr (.inr 37)), some (.inl (z_add l2 1))] [] 0 0 W7207))))) (∀ W7201, W7201 = z_up V 70 7 (V 37 7) → ∀ W7202, W7202 = z_up W7201 70 8 (W7201 37 8) → ∀ W7203, W7203 = z_up W7202 70 9 (W7202 37 9) → ∀ W7204, W7204 = z_up W7203 70 10 (W7203 37 10) → ∀ W7205, W7205 = z_up W7204 70 11 (W7204 37 11) → ∀ W7206, W7206 = z_up W7205 70 12 (W7205 37 12) → Q 0 W7206)) :
    z_Ex (z_MS d) 73 Q true 71 [some (.inr (.inr 70)), some (.inr (.inr 37)), some (.inl l2)] [] 0 0 V := by
  refine ze_iload_n (pc := 71) zr_73_71 rfl ?_
  refine ze_bipush (pc := 72) zr_73_72 (by decide) ?_
  refine zq_icmp_ge (pc := 74) (t := 95) zr_73_74 (by decide) (z_toif h) (fun h => ?_) (fun h => ?_)
  · refine ze_aload_n (pc := 77) zr_73_77 rfl ?_
    refine ze_getfield (pc := 78) (v := .inr (.inr 80)) zr_73_78 rfl rfl ?_
    refine ze_iload_n (pc := 81) zr_73_81 rfl ?_
    refine ze_aload_n (pc := 82) zr_73_82 rfl ?_
    refine ze_getfield (pc := 83) (v := .inr (.inr 47)) zr_73_83 rfl rfl ?_
    refine ze_iload_n (pc := 86) zr_73_86 rfl ?_
    refine z_gk h (fun g87 h => ?_)
    refine zl_aaload (pc := 87) zr_73_87 (by decide) rfl g87 h (fun x87 h => ?_)
    refine z_gk h (fun e88 h => ?_)
    refine z_gk h (fun x88 h => ?_)
    refine z_gk h (fun g88 h => ?_)
    refine zq_aastore (pc := 88) zr_73_88 (by decide) e88 x88 rfl g88 rfl h (fun W7207 h => ?_)
    refine zq_iinc (pc := 89) (ls2 := [some (.inr (.inr 70)), some (.inr (.inr 37)), some (.inl (z_add l2 1))]) zr_73_89 rfl rfl rfl ?_
    refine ze_goto (pc := 92) (t := 71) zr_73_92 (by decide) ?_
    exact h
  · refine ze_aload_n (pc := 95) zr_73_95 rfl ?_
    refine ze_aload_n (pc := 96) zr_73_96 rfl ?_
    refine ze_getfield (pc := 97) (v := .inl (V 37 7)) zr_73_97 rfl rfl ?_
    refine zq_putI (pc := 100) zr_73_100 (by decide) rfl h (fun W7201 h => ?_)
    refine ze_aload_n (pc := 103) zr_73_103 rfl ?_
    refine ze_aload_n (pc := 104) zr_73_104 rfl ?_
    refine ze_getfield (pc := 105) (v := .inl (W7201 37 8)) zr_73_105 rfl rfl ?_
    refine zq_putI (pc := 108) zr_73_108 (by decide) rfl h (fun W7202 h => ?_)
    refine ze_aload_n (pc := 111) zr_73_111 rfl ?_
    refine ze_aload_n (pc := 112) zr_73_112 rfl ?_
    refine ze_getfield (pc := 113) (v := .inl (W7202 37 9)) zr_73_113 rfl rfl ?_
    refine zq_putI (pc := 116) zr_73_116 (by decide) rfl h (fun W7203 h => ?_)
    refine ze_aload_n (pc := 119) zr_73_119 rfl ?_
    refine ze_aload_n (pc := 120) zr_73_120 rfl ?_
    refine ze_getfield (pc := 121) (v := .inl (W7203 37 10)) zr_73_121 rfl rfl ?_
    refine zq_putI (pc := 124) zr_73_124 (by decide) rfl h (fun W7204 h => ?_)
    refine ze_aload_n (pc := 127) zr_73_127 rfl ?_
    refine ze_aload_n (pc := 128) zr_73_128 rfl ?_
    refine ze_getfield (pc := 129) (v := .inl (W7204 37 11)) zr_73_129 rfl rfl ?_
    refine zq_putI (pc := 132) zr_73_132 (by decide) rfl h (fun W7205 h => ?_)
    refine ze_aload_n (pc := 135) zr_73_135 rfl ?_
    refine ze_aload_n (pc := 136) zr_73_136 rfl ?_
    refine ze_getfield (pc := 137) (v := .inl (W7205 37 12)) zr_73_137 rfl rfl ?_
    refine zq_putI (pc := 140) zr_73_140 (by decide) rfl h (fun W7206 h => ?_)
    exact ze_vret (pc := 143) zr_73_143 rfl h
theorem zb74_38_55 {d : Nat} {Q : Int → z_M → Prop}  {V : z_M}
    (h : z_Ex (z_MS d) 74 Q true 2 [some (.inr (.inr 38)), some (.inr (.inr 55)), some (.inl 0)] [] 0 0 V) :
    z_MS (d + 1) 74 true [.inr (.inr 38), .inr (.inr 55)] V Q := by
  show z_Ex (z_MS d) 74 Q true 0 [some (.inr (.inr 38)), some (.inr (.inr 55)), none] [] 0 0 V
  refine ze_iconst (pc := 0) zr_74_0 (by decide) ?_
  refine zq_istore_n (pc := 1) (ls2 := [some (.inr (.inr 38)), some (.inr (.inr 55)), some (.inl 0)]) zr_74_1 rfl rfl ?_
  exact h
theorem zb74_38_55_p2 {d : Nat} {Q : Int → z_M → Prop} (l2 : Int) {V : z_M}
    (h : zI (l2 < 4) (zI (l2 < 4) (zGu (0 ≤ l2 ∧ l2 < 4) (∀ x16 : Nat, x16 = z_rr true V 38 l2.toNat → zGu (0 ≤ l2 ∧ l2 < 4) (∀ x20 : Nat, x20 = z_rr true V 55 l2.toNat → zGu (0 ≤ l2 ∧ l2 < 4) (∀ x24 : Nat, x24 = z_rr true V 38 l2.toNat → zGu (101 ≤ z_kd x24) (zGu (0 ≤ l2 ∧ l2 < 4) (∀ x28 : Nat, x28 = z_rr true V 55 l2.toNat → zGu (101 ≤ z_kd x28) (zGu (z_kd x16 = 101 ∧ z_kd x20 = 101 ∧ 36 ≤ x20 ∧ z_sum [] ≤ 8) (zGu (0 ≤ (z_min (z_len' V x24) (z_len' V x28)) ∧ 0 ≤ (0 : Int) ∧ 0 ≤ (0 : Int) ∧ (0 : Int) + (z_min (z_len' V x24) (z_len' V x28)) ≤ z_len' V x16 ∧ (0 : Int) + (z_min (z_len' V x24) (z_len' V x28)) ≤ z_len' V x20) (∀ W301, W301 = z_cpy V x16 0 x20 0 (z_min (z_len' V x24) (z_len' V x28)).toNat → z_Ex (z_MS d) 74 Q true 2 [some (.inr (.inr 38)), some (.inr (.inr 55)), some (.inl (z_add l2 1))] [] 0 0 W301))))))))) (Q 0 V)) (Q 0 V)) :
    z_Ex (z_MS d) 74 Q true 2 [some (.inr (.inr 38)), some (.inr (.inr 55)), some (.inl l2)] [] 0 0 V := by
  refine ze_iload_n (pc := 2) zr_74_2 rfl ?_
  refine ze_aload_n (pc := 3) zr_74_3 rfl ?_
  refine ze_length (pc := 4) (z := 4) zr_74_4 (by decide) rfl ?_
  refine zq_icmp_ge (pc := 5) (t := 42) zr_74_5 (by decide) (z_toif h) (fun h => ?_) (fun h => ?_)
  · refine ze_iload_n (pc := 8) zr_74_8 rfl ?_
    refine ze_aload_n (pc := 9) zr_74_9 rfl ?_
    refine ze_length (pc := 10) (z := 4) zr_74_10 (by decide) rfl ?_
    refine zq_icmp_ge (pc := 11) (t := 42) zr_74_11 (by decide) (z_toif h) (fun h => ?_) (fun h => ?_)
    · refine ze_aload_n (pc := 14) zr_74_14 rfl ?_
      refine ze_iload_n (pc := 15) zr_74_15 rfl ?_
      refine z_gk h (fun g16 h => ?_)
      refine zl_aaload (pc := 16) zr_74_16 (by decide) rfl g16 h (fun x16 h => ?_)
      refine ze_iconst (pc := 17) zr_74_17 (by decide) ?_
      refine ze_aload_n (pc := 18) zr_74_18 rfl ?_
      refine ze_iload_n (pc := 19) zr_74_19 rfl ?_
      refine z_gk h (fun g20 h => ?_)
      refine zl_aaload (pc := 20) zr_74_20 (by decide) rfl g20 h (fun x20 h => ?_)
      refine ze_iconst (pc := 21) zr_74_21 (by decide) ?_
      refine ze_aload_n (pc := 22) zr_74_22 rfl ?_
      refine ze_iload_n (pc := 23) zr_74_23 rfl ?_
      refine z_gk h (fun g24 h => ?_)
      refine zl_aaload (pc := 24) zr_74_24 (by decide) rfl g24 h (fun x24 h => ?_)
      refine z_gk h (fun g25 h => ?_)
      refine ze_length (pc := 25) (z := z_len' V x24) zr_74_25 g25 rfl ?_
      refine ze_aload_n (pc := 26) zr_74_26 rfl ?_
      refine ze_iload_n (pc := 27) zr_74_27 rfl ?_
      refine z_gk h (fun g28 h => ?_)
      refine zl_aaload (pc := 28) zr_74_28 (by decide) rfl g28 h (fun x28 h => ?_)
      refine z_gk h (fun g29 h => ?_)
      refine ze_length (pc := 29) (z := z_len' V x28) zr_74_29 g29 rfl ?_
      refine zq_min (pc := 30) zr_74_30 (Nat.le_of_ble_eq_true rfl) ?_
      refine z_gk h (fun k33 h => ?_)
      refine z_gk h (fun g33 h => ?_)
      refine zq_acopyv (pc := 33) zr_74_33 k33 g33 rfl rfl rfl h (fun W301 h => ?_)
      refine zq_iinc (pc := 36) (ls2 := [some (.inr (.inr 38)), some (.inr (.inr 55)), some (.inl (z_add l2 1))]) zr_74_36 rfl rfl rfl ?_
      refine ze_goto (pc := 39) (t := 2) zr_74_39 (by decide) ?_
      exact h
    · exact ze_vret (pc := 42) zr_74_42 rfl h
  · exact ze_vret (pc := 42) zr_74_42 rfl h
theorem zb74_38_71 {d : Nat} {Q : Int → z_M → Prop}  {V : z_M}
    (h : z_Ex (z_MS d) 74 Q true 2 [some (.inr (.inr 38)), some (.inr (.inr 71)), some (.inl 0)] [] 0 0 V) :
    z_MS (d + 1) 74 true [.inr (.inr 38), .inr (.inr 71)] V Q := by
  show z_Ex (z_MS d) 74 Q true 0 [some (.inr (.inr 38)), some (.inr (.inr 71)), none] [] 0 0 V
  refine ze_iconst (pc := 0) zr_74_0 (by decide) ?_
  refine zq_istore_n (pc := 1) (ls2 := [some (.inr (.inr 38)), some (.inr (.inr 71)), some (.inl 0)]) zr_74_1 rfl rfl ?_
  exact h
theorem zb74_38_71_p2 {d : Nat} {Q : Int → z_M → Prop} (l2 : Int) {V : z_M}
    (h : zI (l2 < 4) (zI (l2 < 4) (zGu (0 ≤ l2 ∧ l2 < 4) (∀ x16 : Nat, x16 = z_rr true V 38 l2.toNat → zGu (0 ≤ l2 ∧ l2 < 4) (∀ x20 : Nat, x20 = z_rr true V 71 l2.toNat → zGu (0 ≤ l2 ∧ l2 < 4) (∀ x24 : Nat, x24 = z_rr true V 38 l2.toNat → zGu (101 ≤ z_kd x24) (zGu (0 ≤ l2 ∧ l2 < 4) (∀ x28 : Nat, x28 = z_rr true V 71 l2.toNat → zGu (101 ≤ z_kd x28) (zGu (z_kd x16 = 101 ∧ z_kd x20 = 101 ∧ 36 ≤ x20 ∧ z_sum [] ≤ 8) (zGu (0 ≤ (z_min (z_len' V x24) (z_len' V x28)) ∧ 0 ≤ (0 : Int) ∧ 0 ≤ (0 : Int) ∧ (0 : Int) + (z_min (z_len' V x24) (z_len' V x28)) ≤ z_len' V x16 ∧ (0 : Int) + (z_min (z_len' V x24) (z_len' V x28)) ≤ z_len' V x20) (∀ W301, W301 = z_cpy V x16 0 x20 0 (z_min (z_len' V x24) (z_len' V x28)).toNat → z_Ex (z_MS d) 74 Q true 2 [some (.inr (.inr 38)), some (.inr (.inr 71)), some (.inl (z_add l2 1))] [] 0 0 W301))))))))) (Q 0 V)) (Q 0 V)) :
    z_Ex (z_MS d) 74 Q true 2 [some (.inr (.inr 38)), some (.inr (.inr 71)), some (.inl l2)] [] 0 0 V := by
  refine ze_iload_n (pc := 2) zr_74_2 rfl ?_
  refine ze_aload_n (pc := 3) zr_74_3 rfl ?_
  refine ze_length (pc := 4) (z := 4) zr_74_4 (by decide) rfl ?_
  refine zq_icmp_ge (pc := 5) (t := 42) zr_74_5 (by decide) (z_toif h) (fun h => ?_) (fun h => ?_)
  · refine ze_iload_n (pc := 8) zr_74_8 rfl ?_
    refine ze_aload_n (pc := 9) zr_74_9 rfl ?_
    refine ze_length (pc := 10) (z := 4) zr_74_10 (by decide) rfl ?_
    refine zq_icmp_ge (pc := 11) (t := 42) zr_74_11 (by decide) (z_toif h) (fun h => ?_) (fun h => ?_)
    · refine ze_aload_n (pc := 14) zr_74_14 rfl ?_
      refine ze_iload_n (pc := 15) zr_74_15 rfl ?_
      refine z_gk h (fun g16 h => ?_)
      refine zl_aaload (pc := 16) zr_74_16 (by decide) rfl g16 h (fun x16 h => ?_)
      refine ze_iconst (pc := 17) zr_74_17 (by decide) ?_
      refine ze_aload_n (pc := 18) zr_74_18 rfl ?_
      refine ze_iload_n (pc := 19) zr_74_19 rfl ?_
      refine z_gk h (fun g20 h => ?_)
      refine zl_aaload (pc := 20) zr_74_20 (by decide) rfl g20 h (fun x20 h => ?_)
      refine ze_iconst (pc := 21) zr_74_21 (by decide) ?_
      refine ze_aload_n (pc := 22) zr_74_22 rfl ?_
      refine ze_iload_n (pc := 23) zr_74_23 rfl ?_
      refine z_gk h (fun g24 h => ?_)
      refine zl_aaload (pc := 24) zr_74_24 (by decide) rfl g24 h (fun x24 h => ?_)
      refine z_gk h (fun g25 h => ?_)
      refine ze_length (pc := 25) (z := z_len' V x24) zr_74_25 g25 rfl ?_
      refine ze_aload_n (pc := 26) zr_74_26 rfl ?_
      refine ze_iload_n (pc := 27) zr_74_27 rfl ?_
      refine z_gk h (fun g28 h => ?_)
      refine zl_aaload (pc := 28) zr_74_28 (by decide) rfl g28 h (fun x28 h => ?_)
      refine z_gk h (fun g29 h => ?_)
      refine ze_length (pc := 29) (z := z_len' V x28) zr_74_29 g29 rfl ?_
      refine zq_min (pc := 30) zr_74_30 (Nat.le_of_ble_eq_true rfl) ?_
      refine z_gk h (fun k33 h => ?_)
      refine z_gk h (fun g33 h => ?_)
      refine zq_acopyv (pc := 33) zr_74_33 k33 g33 rfl rfl rfl h (fun W301 h => ?_)
      refine zq_iinc (pc := 36) (ls2 := [some (.inr (.inr 38)), some (.inr (.inr 71)), some (.inl (z_add l2 1))]) zr_74_36 rfl rfl rfl ?_
      refine ze_goto (pc := 39) (t := 2) zr_74_39 (by decide) ?_
      exact h
    · exact ze_vret (pc := 42) zr_74_42 rfl h
  · exact ze_vret (pc := 42) zr_74_42 rfl h
theorem zb74_43_60 {d : Nat} {Q : Int → z_M → Prop}  {V : z_M}
    (h : z_Ex (z_MS d) 74 Q true 2 [some (.inr (.inr 43)), some (.inr (.inr 60)), some (.inl 0)] [] 0 0 V) :
    z_MS (d + 1) 74 true [.inr (.inr 43), .inr (.inr 60)] V Q := by
  show z_Ex (z_MS d) 74 Q true 0 [some (.inr (.inr 43)), some (.inr (.inr 60)), none] [] 0 0 V
  refine ze_iconst (pc := 0) zr_74_0 (by decide) ?_
  refine zq_istore_n (pc := 1) (ls2 := [some (.inr (.inr 43)), some (.inr (.inr 60)), some (.inl 0)]) zr_74_1 rfl rfl ?_
  exact h
theorem zb74_43_60_p2 {d : Nat} {Q : Int → z_M → Prop} (l2 : Int) {V : z_M}
    (h : zI (l2 < 2) (zI (l2 < 2) (zGu (0 ≤ l2 ∧ l2 < 2) (∀ x16 : Nat, x16 = z_rr true V 43 l2.toNat → zGu (0 ≤ l2 ∧ l2 < 2) (∀ x20 : Nat, x20 = z_rr true V 60 l2.toNat → zGu (0 ≤ l2 ∧ l2 < 2) (∀ x24 : Nat, x24 = z_rr true V 43 l2.toNat → zGu (101 ≤ z_kd x24) (zGu (0 ≤ l2 ∧ l2 < 2) (∀ x28 : Nat, x28 = z_rr true V 60 l2.toNat → zGu (101 ≤ z_kd x28) (zGu (z_kd x16 = 101 ∧ z_kd x20 = 101 ∧ 36 ≤ x20 ∧ z_sum [] ≤ 8) (zGu (0 ≤ (z_min (z_len' V x24) (z_len' V x28)) ∧ 0 ≤ (0 : Int) ∧ 0 ≤ (0 : Int) ∧ (0 : Int) + (z_min (z_len' V x24) (z_len' V x28)) ≤ z_len' V x16 ∧ (0 : Int) + (z_min (z_len' V x24) (z_len' V x28)) ≤ z_len' V x20) (∀ W301, W301 = z_cpy V x16 0 x20 0 (z_min (z_len' V x24) (z_len' V x28)).toNat → z_Ex (z_MS d) 74 Q true 2 [some (.inr (.inr 43)), some (.inr (.inr 60)), some (.inl (z_add l2 1))] [] 0 0 W301))))))))) (Q 0 V)) (Q 0 V)) :
    z_Ex (z_MS d) 74 Q true 2 [some (.inr (.inr 43)), some (.inr (.inr 60)), some (.inl l2)] [] 0 0 V := by
  refine ze_iload_n (pc := 2) zr_74_2 rfl ?_
  refine ze_aload_n (pc := 3) zr_74_3 rfl ?_
  refine ze_length (pc := 4) (z := 2) zr_74_4 (by decide) rfl ?_
  refine zq_icmp_ge (pc := 5) (t := 42) zr_74_5 (by decide) (z_toif h) (fun h => ?_) (fun h => ?_)
  · refine ze_iload_n (pc := 8) zr_74_8 rfl ?_
    refine ze_aload_n (pc := 9) zr_74_9 rfl ?_
    refine ze_length (pc := 10) (z := 2) zr_74_10 (by decide) rfl ?_
    refine zq_icmp_ge (pc := 11) (t := 42) zr_74_11 (by decide) (z_toif h) (fun h => ?_) (fun h => ?_)
    · refine ze_aload_n (pc := 14) zr_74_14 rfl ?_
      refine ze_iload_n (pc := 15) zr_74_15 rfl ?_
      refine z_gk h (fun g16 h => ?_)
      refine zl_aaload (pc := 16) zr_74_16 (by decide) rfl g16 h (fun x16 h => ?_)
      refine ze_iconst (pc := 17) zr_74_17 (by decide) ?_
      refine ze_aload_n (pc := 18) zr_74_18 rfl ?_
      refine ze_iload_n (pc := 19) zr_74_19 rfl ?_
      refine z_gk h (fun g20 h => ?_)
      refine zl_aaload (pc := 20) zr_74_20 (by decide) rfl g20 h (fun x20 h => ?_)
      refine ze_iconst (pc := 21) zr_74_21 (by decide) ?_
      refine ze_aload_n (pc := 22) zr_74_22 rfl ?_
      refine ze_iload_n (pc := 23) zr_74_23 rfl ?_
      refine z_gk h (fun g24 h => ?_)
      refine zl_aaload (pc := 24) zr_74_24 (by decide) rfl g24 h (fun x24 h => ?_)
      refine z_gk h (fun g25 h => ?_)
      refine ze_length (pc := 25) (z := z_len' V x24) zr_74_25 g25 rfl ?_
      refine ze_aload_n (pc := 26) zr_74_26 rfl ?_
      refine ze_iload_n (pc := 27) zr_74_27 rfl ?_
      refine z_gk h (fun g28 h => ?_)
      refine zl_aaload (pc := 28) zr_74_28 (by decide) rfl g28 h (fun x28 h => ?_)
      refine z_gk h (fun g29 h => ?_)
      refine ze_length (pc := 29) (z := z_len' V x28) zr_74_29 g29 rfl ?_
      refine zq_min (pc := 30) zr_74_30 (Nat.le_of_ble_eq_true rfl) ?_
      refine z_gk h (fun k33 h => ?_)
      refine z_gk h (fun g33 h => ?_)
      refine zq_acopyv (pc := 33) zr_74_33 k33 g33 rfl rfl rfl h (fun W301 h => ?_)
      refine zq_iinc (pc := 36) (ls2 := [some (.inr (.inr 43)), some (.inr (.inr 60)), some (.inl (z_add l2 1))]) zr_74_36 rfl rfl rfl ?_
      refine ze_goto (pc := 39) (t := 2) zr_74_39 (by decide) ?_
      exact h
    · exact ze_vret (pc := 42) zr_74_42 rfl h
  · exact ze_vret (pc := 42) zr_74_42 rfl h
theorem zb74_43_76 {d : Nat} {Q : Int → z_M → Prop}  {V : z_M}
    (h : z_Ex (z_MS d) 74 Q true 2 [some (.inr (.inr 43)), some (.inr (.inr 76)), some (.inl 0)] [] 0 0 V) :
    z_MS (d + 1) 74 true [.inr (.inr 43), .inr (.inr 76)] V Q := by
  show z_Ex (z_MS d) 74 Q true 0 [some (.inr (.inr 43)), some (.inr (.inr 76)), none] [] 0 0 V
  refine ze_iconst (pc := 0) zr_74_0 (by decide) ?_
  refine zq_istore_n (pc := 1) (ls2 := [some (.inr (.inr 43)), some (.inr (.inr 76)), some (.inl 0)]) zr_74_1 rfl rfl ?_
  exact h
theorem zb74_43_76_p2 {d : Nat} {Q : Int → z_M → Prop} (l2 : Int) {V : z_M}
    (h : zI (l2 < 2) (zI (l2 < 2) (zGu (0 ≤ l2 ∧ l2 < 2) (∀ x16 : Nat, x16 = z_rr true V 43 l2.toNat → zGu (0 ≤ l2 ∧ l2 < 2) (∀ x20 : Nat, x20 = z_rr true V 76 l2.toNat → zGu (0 ≤ l2 ∧ l2 < 2) (∀ x24 : Nat, x24 = z_rr true V 43 l2.toNat → zGu (101 ≤ z_kd x24) (zGu (0 ≤ l2 ∧ l2 < 2) (∀ x28 : Nat, x28 = z_rr true V 76 l2.toNat → zGu (101 ≤ z_kd x28) (zGu (z_kd x16 = 101 ∧ z_kd x20 = 101 ∧ 36 ≤ x20 ∧ z_sum [] ≤ 8) (zGu (0 ≤ (z_min (z_len' V x24) (z_len' V x28)) ∧ 0 ≤ (0 : Int) ∧ 0 ≤ (0 : Int) ∧ (0 : Int) + (z_min (z_len' V x24) (z_len' V x28)) ≤ z_len' V x16 ∧ (0 : Int) + (z_min (z_len' V x24) (z_len' V x28)) ≤ z_len' V x20) (∀ W301, W301 = z_cpy V x16 0 x20 0 (z_min (z_len' V x24) (z_len' V x28)).toNat → z_Ex (z_MS d) 74 Q true 2 [some (.inr (.inr 43)), some (.inr (.inr 76)), some (.inl (z_add l2 1))] [] 0 0 W301))))))))) (Q 0 V)) (Q 0 V)) :
    z_Ex (z_MS d) 74 Q true 2 [some (.inr (.inr 43)), some (.inr (.inr 76)), some (.inl l2)] [] 0 0 V := by
  refine ze_iload_n (pc := 2) zr_74_2 rfl ?_
  refine ze_aload_n (pc := 3) zr_74_3 rfl ?_
  refine ze_length (pc := 4) (z := 2) zr_74_4 (by decide) rfl ?_
  refine zq_icmp_ge (pc := 5) (t := 42) zr_74_5 (by decide) (z_toif h) (fun h => ?_) (fun h => ?_)
  · refine ze_iload_n (pc := 8) zr_74_8 rfl ?_
    refine ze_aload_n (pc := 9) zr_74_9 rfl ?_
    refine ze_length (pc := 10) (z := 2) zr_74_10 (by decide) rfl ?_
    refine zq_icmp_ge (pc := 11) (t := 42) zr_74_11 (by decide) (z_toif h) (fun h => ?_) (fun h => ?_)
    · refine ze_aload_n (pc := 14) zr_74_14 rfl ?_
      refine ze_iload_n (pc := 15) zr_74_15 rfl ?_
      refine z_gk h (fun g16 h => ?_)
      refine zl_aaload (pc := 16) zr_74_16 (by decide) rfl g16 h (fun x16 h => ?_)
      refine ze_iconst (pc := 17) zr_74_17 (by decide) ?_
      refine ze_aload_n (pc := 18) zr_74_18 rfl ?_
      refine ze_iload_n (pc := 19) zr_74_19 rfl ?_
      refine z_gk h (fun g20 h => ?_)
      refine zl_aaload (pc := 20) zr_74_20 (by decide) rfl g20 h (fun x20 h => ?_)
      refine ze_iconst (pc := 21) zr_74_21 (by decide) ?_
      refine ze_aload_n (pc := 22) zr_74_22 rfl ?_
      refine ze_iload_n (pc := 23) zr_74_23 rfl ?_
      refine z_gk h (fun g24 h => ?_)
      refine zl_aaload (pc := 24) zr_74_24 (by decide) rfl g24 h (fun x24 h => ?_)
      refine z_gk h (fun g25 h => ?_)
      refine ze_length (pc := 25) (z := z_len' V x24) zr_74_25 g25 rfl ?_
      refine ze_aload_n (pc := 26) zr_74_26 rfl ?_
      refine ze_iload_n (pc := 27) zr_74_27 rfl ?_
      refine z_gk h (fun g28 h => ?_)
      refine zl_aaload (pc := 28) zr_74_28 (by decide) rfl g28 h (fun x28 h => ?_)
      refine z_gk h (fun g29 h => ?_)
      refine ze_length (pc := 29) (z := z_len' V x28) zr_74_29 g29 rfl ?_
      refine zq_min (pc := 30) zr_74_30 (Nat.le_of_ble_eq_true rfl) ?_
      refine z_gk h (fun k33 h => ?_)
      refine z_gk h (fun g33 h => ?_)
      refine zq_acopyv (pc := 33) zr_74_33 k33 g33 rfl rfl rfl h (fun W301 h => ?_)
      refine zq_iinc (pc := 36) (ls2 := [some (.inr (.inr 43)), some (.inr (.inr 76)), some (.inl (z_add l2 1))]) zr_74_36 rfl rfl rfl ?_
      refine ze_goto (pc := 39) (t := 2) zr_74_39 (by decide) ?_
      exact h
    · exact ze_vret (pc := 42) zr_74_42 rfl h
  · exact ze_vret (pc := 42) zr_74_42 rfl h
theorem zb74_48_65 {d : Nat} {Q : Int → z_M → Prop}  {V : z_M}
    (h : z_Ex (z_MS d) 74 Q true 2 [some (.inr (.inr 48)), some (.inr (.inr 65)), some (.inl 0)] [] 0 0 V) :
    z_MS (d + 1) 74 true [.inr (.inr 48), .inr (.inr 65)] V Q := by
  show z_Ex (z_MS d) 74 Q true 0 [some (.inr (.inr 48)), some (.inr (.inr 65)), none] [] 0 0 V
  refine ze_iconst (pc := 0) zr_74_0 (by decide) ?_
  refine zq_istore_n (pc := 1) (ls2 := [some (.inr (.inr 48)), some (.inr (.inr 65)), some (.inl 0)]) zr_74_1 rfl rfl ?_
  exact h
theorem zb74_48_65_p2 {d : Nat} {Q : Int → z_M → Prop} (l2 : Int) {V : z_M}
    (h : zI (l2 < 2) (zI (l2 < 2) (zGu (0 ≤ l2 ∧ l2 < 2) (∀ x16 : Nat, x16 = z_rr true V 48 l2.toNat → zGu (0 ≤ l2 ∧ l2 < 2) (∀ x20 : Nat, x20 = z_rr true V 65 l2.toNat → zGu (0 ≤ l2 ∧ l2 < 2) (∀ x24 : Nat, x24 = z_rr true V 48 l2.toNat → zGu (101 ≤ z_kd x24) (zGu (0 ≤ l2 ∧ l2 < 2) (∀ x28 : Nat, x28 = z_rr true V 65 l2.toNat → zGu (101 ≤ z_kd x28) (zGu (z_kd x16 = 101 ∧ z_kd x20 = 101 ∧ 36 ≤ x20 ∧ z_sum [] ≤ 8) (zGu (0 ≤ (z_min (z_len' V x24) (z_len' V x28)) ∧ 0 ≤ (0 : Int) ∧ 0 ≤ (0 : Int) ∧ (0 : Int) + (z_min (z_len' V x24) (z_len' V x28)) ≤ z_len' V x16 ∧ (0 : Int) + (z_min (z_len' V x24) (z_len' V x28)) ≤ z_len' V x20) (∀ W301, W301 = z_cpy V x16 0 x20 0 (z_min (z_len' V x24) (z_len' V x28)).toNat → z_Ex (z_MS d) 74 Q true 2 [some (.inr (.inr 48)), some (.inr (.inr 65)), some (.inl (z_add l2 1))] [] 0 0 W301))))))))) (Q 0 V)) (Q 0 V)) :
    z_Ex (z_MS d) 74 Q true 2 [some (.inr (.inr 48)), some (.inr (.inr 65)), some (.inl l2)] [] 0 0 V := by
  refine ze_iload_n (pc := 2) zr_74_2 rfl ?_
  refine ze_aload_n (pc := 3) zr_74_3 rfl ?_
  refine ze_length (pc := 4) (z := 2) zr_74_4 (by decide) rfl ?_
  refine zq_icmp_ge (pc := 5) (t := 42) zr_74_5 (by decide) (z_toif h) (fun h => ?_) (fun h => ?_)
  · refine ze_iload_n (pc := 8) zr_74_8 rfl ?_
    refine ze_aload_n (pc := 9) zr_74_9 rfl ?_
    refine ze_length (pc := 10) (z := 2) zr_74_10 (by decide) rfl ?_
    refine zq_icmp_ge (pc := 11) (t := 42) zr_74_11 (by decide) (z_toif h) (fun h => ?_) (fun h => ?_)
    · refine ze_aload_n (pc := 14) zr_74_14 rfl ?_
      refine ze_iload_n (pc := 15) zr_74_15 rfl ?_
      refine z_gk h (fun g16 h => ?_)
      refine zl_aaload (pc := 16) zr_74_16 (by decide) rfl g16 h (fun x16 h => ?_)
      refine ze_iconst (pc := 17) zr_74_17 (by decide) ?_
      refine ze_aload_n (pc := 18) zr_74_18 rfl ?_
      refine ze_iload_n (pc := 19) zr_74_19 rfl ?_
      refine z_gk h (fun g20 h => ?_)
      refine zl_aaload (pc := 20) zr_74_20 (by decide) rfl g20 h (fun x20 h => ?_)
      refine ze_iconst (pc := 21) zr_74_21 (by decide) ?_
      refine ze_aload_n (pc := 22) zr_74_22 rfl ?_
      refine ze_iload_n (pc := 23) zr_74_23 rfl ?_
      refine z_gk h (fun g24 h => ?_)
      refine zl_aaload (pc := 24) zr_74_24 (by decide) rfl g24 h (fun x24 h => ?_)
      refine z_gk h (fun g25 h => ?_)
      refine ze_length (pc := 25) (z := z_len' V x24) zr_74_25 g25 rfl ?_
      refine ze_aload_n (pc := 26) zr_74_26 rfl ?_
      refine ze_iload_n (pc := 27) zr_74_27 rfl ?_
      refine z_gk h (fun g28 h => ?_)
      refine zl_aaload (pc := 28) zr_74_28 (by decide) rfl g28 h (fun x28 h => ?_)
      refine z_gk h (fun g29 h => ?_)
      refine ze_length (pc := 29) (z := z_len' V x28) zr_74_29 g29 rfl ?_
      refine zq_min (pc := 30) zr_74_30 (Nat.le_of_ble_eq_true rfl) ?_
      refine z_gk h (fun k33 h => ?_)
      refine z_gk h (fun g33 h => ?_)
      refine zq_acopyv (pc := 33) zr_74_33 k33 g33 rfl rfl rfl h (fun W301 h => ?_)
      refine zq_iinc (pc := 36) (ls2 := [some (.inr (.inr 48)), some (.inr (.inr 65)), some (.inl (z_add l2 1))]) zr_74_36 rfl rfl rfl ?_
      refine ze_goto (pc := 39) (t := 2) zr_74_39 (by decide) ?_
      exact h
    · exact ze_vret (pc := 42) zr_74_42 rfl h
  · exact ze_vret (pc := 42) zr_74_42 rfl h
theorem zb74_48_81 {d : Nat} {Q : Int → z_M → Prop}  {V : z_M}
    (h : z_Ex (z_MS d) 74 Q true 2 [some (.inr (.inr 48)), some (.inr (.inr 81)), some (.inl 0)] [] 0 0 V) :
    z_MS (d + 1) 74 true [.inr (.inr 48), .inr (.inr 81)] V Q := by
  show z_Ex (z_MS d) 74 Q true 0 [some (.inr (.inr 48)), some (.inr (.inr 81)), none] [] 0 0 V
  refine ze_iconst (pc := 0) zr_74_0 (by decide) ?_
  refine zq_istore_n (pc := 1) (ls2 := [some (.inr (.inr 48)), some (.inr (.inr 81)), some (.inl 0)]) zr_74_1 rfl rfl ?_
  exact h
theorem zb74_48_81_p2 {d : Nat} {Q : Int → z_M → Prop} (l2 : Int) {V : z_M}
    (h : zI (l2 < 2) (zI (l2 < 2) (zGu (0 ≤ l2 ∧ l2 < 2) (∀ x16 : Nat, x16 = z_rr true V 48 l2.toNat → zGu (0 ≤ l2 ∧ l2 < 2) (∀ x20 : Nat, x20 = z_rr true V 81 l2.toNat → zGu (0 ≤ l2 ∧ l2 < 2) (∀ x24 : Nat, x24 = z_rr true V 48 l2.toNat → zGu (101 ≤ z_kd x24) (zGu (0 ≤ l2 ∧ l2 < 2) (∀ x28 : Nat, x28 = z_rr true V 81 l2.toNat → zGu (101 ≤ z_kd x28) (zGu (z_kd x16 = 101 ∧ z_kd x20 = 101 ∧ 36 ≤ x20 ∧ z_sum [] ≤ 8) (zGu (0 ≤ (z_min (z_len' V x24) (z_len' V x28)) ∧ 0 ≤ (0 : Int) ∧ 0 ≤ (0 : Int) ∧ (0 : Int) + (z_min (z_len' V x24) (z_len' V x28)) ≤ z_len' V x16 ∧ (0 : Int) + (z_min (z_len' V x24) (z_len' V x28)) ≤ z_len' V x20) (∀ W301, W301 = z_cpy V x16 0 x20 0 (z_min (z_len' V x24) (z_len' V x28)).toNat → z_Ex (z_MS d) 74 Q true 2 [some (.inr (.inr 48)), some (.inr (.inr 81)), some (.inl (z_add l2 1))] [] 0 0 W301))))))))) (Q 0 V)) (Q 0 V)) :
    z_Ex (z_MS d) 74 Q true 2 [some (.inr (.inr 48)), some (.inr (.inr 81)), some (.inl l2)] [] 0 0 V := by
  refine ze_iload_n (pc := 2) zr_74_2 rfl ?_
  refine ze_aload_n (pc := 3) zr_74_3 rfl ?_
  refine ze_length (pc := 4) (z := 2) zr_74_4 (by decide) rfl ?_
  refine zq_icmp_ge (pc := 5) (t := 42) zr_74_5 (by decide) (z_toif h) (fun h => ?_) (fun h => ?_)
  · refine ze_iload_n (pc := 8) zr_74_8 rfl ?_
    refine ze_aload_n (pc := 9) zr_74_9 rfl ?_
    refine ze_length (pc := 10) (z := 2) zr_74_10 (by decide) rfl ?_
    refine zq_icmp_ge (pc := 11) (t := 42) zr_74_11 (by decide) (z_toif h) (fun h => ?_) (fun h => ?_)
    · refine ze_aload_n (pc := 14) zr_74_14 rfl ?_
      refine ze_iload_n (pc := 15) zr_74_15 rfl ?_
      refine z_gk h (fun g16 h => ?_)
      refine zl_aaload (pc := 16) zr_74_16 (by decide) rfl g16 h (fun x16 h => ?_)
      refine ze_iconst (pc := 17) zr_74_17 (by decide) ?_
      refine ze_aload_n (pc := 18) zr_74_18 rfl ?_
      refine ze_iload_n (pc := 19) zr_74_19 rfl ?_
      refine z_gk h (fun g20 h => ?_)
      refine zl_aaload (pc := 20) zr_74_20 (by decide) rfl g20 h (fun x20 h => ?_)
      refine ze_iconst (pc := 21) zr_74_21 (by decide) ?_
      refine ze_aload_n (pc := 22) zr_74_22 rfl ?_
      refine ze_iload_n (pc := 23) zr_74_23 rfl ?_
      refine z_gk h (fun g24 h => ?_)
      refine zl_aaload (pc := 24) zr_74_24 (by decide) rfl g24 h (fun x24 h => ?_)
      refine z_gk h (fun g25 h => ?_)
      refine ze_length (pc := 25) (z := z_len' V x24) zr_74_25 g25 rfl ?_
      refine ze_aload_n (pc := 26) zr_74_26 rfl ?_
      refine ze_iload_n (pc := 27) zr_74_27 rfl ?_
      refine z_gk h (fun g28 h => ?_)
      refine zl_aaload (pc := 28) zr_74_28 (by decide) rfl g28 h (fun x28 h => ?_)
      refine z_gk h (fun g29 h => ?_)
      refine ze_length (pc := 29) (z := z_len' V x28) zr_74_29 g29 rfl ?_
      refine zq_min (pc := 30) zr_74_30 (Nat.le_of_ble_eq_true rfl) ?_
      refine z_gk h (fun k33 h => ?_)
      refine z_gk h (fun g33 h => ?_)
      refine zq_acopyv (pc := 33) zr_74_33 k33 g33 rfl rfl rfl h (fun W301 h => ?_)
      refine zq_iinc (pc := 36) (ls2 := [some (.inr (.inr 48)), some (.inr (.inr 81)), some (.inl (z_add l2 1))]) zr_74_36 rfl rfl rfl ?_
      refine ze_goto (pc := 39) (t := 2) zr_74_39 (by decide) ?_
      exact h
    · exact ze_vret (pc := 42) zr_74_42 rfl h
  · exact ze_vret (pc := 42) zr_74_42 rfl h
theorem zb74_55_38 {d : Nat} {Q : Int → z_M → Prop}  {V : z_M}
    (h : z_Ex (z_MS d) 74 Q true 2 [some (.inr (.inr 55)), some (.inr (.inr 38)), some (.inl 0)] [] 0 0 V) :
    z_MS (d + 1) 74 true [.inr (.inr 55), .inr (.inr 38)] V Q := by
  show z_Ex (z_MS d) 74 Q true 0 [some (.inr (.inr 55)), some (.inr (.inr 38)), none] [] 0 0 V
  refine ze_iconst (pc := 0) zr_74_0 (by decide) ?_
  refine zq_istore_n (pc := 1) (ls2 := [some (.inr (.inr 55)), some (.inr (.inr 38)), some (.inl 0)]) zr_74_1 rfl rfl ?_
  exact h
theorem zb74_55_38_p2 {d : Nat} {Q : Int → z_M → Prop} (l2 : Int) {V : z_M}
    (h : zI (l2 < 4) (zI (l2 < 4) (zGu (0 ≤ l2 ∧ l2 < 4) (∀ x16 : Nat, x16 = z_rr true V 55 l2.toNat → zGu (0 ≤ l2 ∧ l2 < 4) (∀ x20 : Nat, x20 = z_rr true V 38 l2.toNat → zGu (0 ≤ l2 ∧ l2 < 4) (∀ x24 : Nat, x24 = z_rr true V 55 l2.toNat → zGu (101 ≤ z_kd x24) (zGu (0 ≤ l2 ∧ l2 < 4) (∀ x28 : Nat, x28 = z_rr true V 38 l2.toNat → zGu (101 ≤ z_kd x28) (zGu (z_kd x16 = 101 ∧ z_kd x20 = 101 ∧ 36 ≤ x20 ∧ z_sum [] ≤ 8) (zGu (0 ≤ (z_min (z_len' V x24) (z_len' V x28)) ∧ 0 ≤ (0 : Int) ∧ 0 ≤ (0 : Int) ∧ (0 : Int) + (z_min (z_len' V x24) (z_len' V x28)) ≤ z_len' V x16 ∧ (0 : Int) + (z_min (z_len' V x24) (z_len' V x28)) ≤ z_len' V x20) (∀ W301, W301 = z_cpy V x16 0 x20 0 (z_min (z_len' V x24) (z_len' V x28)).toNat → z_Ex (z_MS d) 74 Q true 2 [some (.inr (.inr 55)), some (.inr (.inr 38)), some (.inl (z_add l2 1))] [] 0 0 W301))))))))) (Q 0 V)) (Q 0 V)) :
    z_Ex (z_MS d) 74 Q true 2 [some (.inr (.inr 55)), some (.inr (.inr 38)), some (.inl l2)] [] 0 0 V := by
  refine ze_iload_n (pc := 2) zr_74_2 rfl ?_
  refine ze_aload_n (pc := 3) zr_74_3 rfl ?_
  refine ze_length (pc := 4) (z := 4) zr_74_4 (by decide) rfl ?_
  refine zq_icmp_ge (pc := 5) (t := 42) zr_74_5 (by decide) (z_toif h) (fun h => ?_) (fun h => ?_)
  · refine ze_iload_n (pc := 8) zr_74_8 rfl ?_
    refine ze_aload_n (pc := 9) zr_74_9 rfl ?_
    refine ze_length (pc := 10) (z := 4) zr_74_10 (by decide) rfl ?_
    refine zq_icmp_ge (pc := 11) (t := 42) zr_74_11 (by decide) (z_toif h) (fun h => ?_) (fun h => ?_)
    · refine ze_aload_n (pc := 14) zr_74_14 rfl ?_
      refine ze_iload_n (pc := 15) zr_74_15 rfl ?_
      refine z_gk h (fun g16 h => ?_)
      refine zl_aaload (pc := 16) zr_74_16 (by decide) rfl g16 h (fun x16 h => ?_)
      refine ze_iconst (pc := 17) zr_74_17 (by decide) ?_
      refine ze_aload_n (pc := 18) zr_74_18 rfl ?_
      refine ze_iload_n (pc := 19) zr_74_19 rfl ?_
      refine z_gk h (fun g20 h => ?_)
      refine zl_aaload (pc := 20) zr_74_20 (by decide) rfl g20 h (fun x20 h => ?_)
      refine ze_iconst (pc := 21) zr_74_21 (by decide) ?_
      refine ze_aload_n (pc := 22) zr_74_22 rfl ?_
      refine ze_iload_n (pc := 23) zr_74_23 rfl ?_
      refine z_gk h (fun g24 h => ?_)
      refine zl_aaload (pc := 24) zr_74_24 (by decide) rfl g24 h (fun x24 h => ?_)
      refine z_gk h (fun g25 h => ?_)
      refine ze_length (pc := 25) (z := z_len' V x24) zr_74_25 g25 rfl ?_
      refine ze_aload_n (pc := 26) zr_74_26 rfl ?_
      refine ze_iload_n (pc := 27) zr_74_27 rfl ?_
      refine z_gk h (fun g28 h => ?_)
      refine zl_aaload (pc := 28) zr_74_28 (by decide) rfl g28 h (fun x28 h => ?_)
      refine z_gk h (fun g29 h => ?_)
      refine ze_length (pc := 29) (z := z_len' V x28) zr_74_29 g29 rfl ?_
      refine zq_min (pc := 30) zr_74_30 (Nat.le_of_ble_eq_true rfl) ?_
      refine z_gk h (fun k33 h => ?_)
      refine z_gk h (fun g33 h => ?_)
      refine zq_acopyv (pc := 33) zr_74_33 k33 g33 rfl rfl rfl h (fun W301 h => ?_)
      refine zq_iinc (pc := 36) (ls2 := [some (.inr (.inr 55)), some (.inr (.inr 38)), some (.inl (z_add l2 1))]) zr_74_36 rfl rfl rfl ?_
      refine ze_goto (pc := 39) (t := 2) zr_74_39 (by decide) ?_
      exact h
    · exact ze_vret (pc := 42) zr_74_42 rfl h
  · exact ze_vret (pc := 42) zr_74_42 rfl h
theorem zb74_60_43 {d : Nat} {Q : Int → z_M → Prop}  {V : z_M}
    (h : z_Ex (z_MS d) 74 Q true 2 [some (.inr (.inr 60)), some (.inr (.inr 43)), some (.inl 0)] [] 0 0 V) :
    z_MS (d + 1) 74 true [.inr (.inr 60), .inr (.inr 43)] V Q := by
  show z_Ex (z_MS d) 74 Q true 0 [some (.inr (.inr 60)), some (.inr (.inr 43)), none] [] 0 0 V
  refine ze_iconst (pc := 0) zr_74_0 (by decide) ?_
  refine zq_istore_n (pc := 1) (ls2 := [some (.inr (.inr 60)), some (.inr (.inr 43)), some (.inl 0)]) zr_74_1 rfl rfl ?_
  exact h
theorem zb74_60_43_p2 {d : Nat} {Q : Int → z_M → Prop} (l2 : Int) {V : z_M}
    (h : zI (l2 < 2) (zI (l2 < 2) (zGu (0 ≤ l2 ∧ l2 < 2) (∀ x16 : Nat, x16 = z_rr true V 60 l2.toNat → zGu (0 ≤ l2 ∧ l2 < 2) (∀ x20 : Nat, x20 = z_rr true V 43 l2.toNat → zGu (0 ≤ l2 ∧ l2 < 2) (∀ x24 : Nat, x24 = z_rr true V 60 l2.toNat → zGu (101 ≤ z_kd x24) (zGu (0 ≤ l2 ∧ l2 < 2) (∀ x28 : Nat, x28 = z_rr true V 43 l2.toNat → zGu (101 ≤ z_kd x28) (zGu (z_kd x16 = 101 ∧ z_kd x20 = 101 ∧ 36 ≤ x20 ∧ z_sum [] ≤ 8) (zGu (0 ≤ (z_min (z_len' V x24) (z_len' V x28)) ∧ 0 ≤ (0 : Int) ∧ 0 ≤ (0 : Int) ∧ (0 : Int) + (z_min (z_len' V x24) (z_len' V x28)) ≤ z_len' V x16 ∧ (0 : Int) + (z_min (z_len' V x24) (z_len' V x28)) ≤ z_len' V x20) (∀ W301, W301 = z_cpy V x16 0 x20 0 (z_min (z_len' V x24) (z_len' V x28)).toNat → z_Ex (z_MS d) 74 Q true 2 [some (.inr (.inr 60)), some (.inr (.inr 43)), some (.inl (z_add l2 1))] [] 0 0 W301))))))))) (Q 0 V)) (Q 0 V)) :
    z_Ex (z_MS d) 74 Q true 2 [some (.inr (.inr 60)), some (.inr (.inr 43)), some (.inl l2)] [] 0 0 V := by
  refine ze_iload_n (pc := 2) zr_74_2 rfl ?_
  refine ze_aload_n (pc := 3) zr_74_3 rfl ?_
  refine ze_length (pc := 4) (z := 2) zr_74_4 (by decide) rfl ?_
  refine zq_icmp_ge (pc := 5) (t := 42) zr_74_5 (by decide) (z_toif h) (fun h => ?_) (fun h => ?_)
  · refine ze_iload_n (pc := 8) zr_74_8 rfl ?_
    refine ze_aload_n (pc := 9) zr_74_9 rfl ?_
    refine ze_length (pc := 10) (z := 2) zr_74_10 (by decide) rfl ?_
    refine zq_icmp_ge (pc := 11) (t := 42) zr_74_11 (by decide) (z_toif h) (fun h => ?_) (fun h => ?_)
    · refine ze_aload_n (pc := 14) zr_74_14 rfl ?_
      refine ze_iload_n (pc := 15) zr_74_15 rfl ?_
      refine z_gk h (fun g16 h => ?_)
      refine zl_aaload (pc := 16) zr_74_16 (by decide) rfl g16 h (fun x16 h => ?_)
      refine ze_iconst (pc := 17) zr_74_17 (by decide) ?_
      refine ze_aload_n (pc := 18) zr_74_18 rfl ?_
      refine ze_iload_n (pc := 19) zr_74_19 rfl ?_
      refine z_gk h (fun g20 h => ?_)
      refine zl_aaload (pc := 20) zr_74_20 (by decide) rfl g20 h (fun x20 h => ?_)
      refine ze_iconst (pc := 21) zr_74_21 (by decide) ?_
      refine ze_aload_n (pc := 22) zr_74_22 rfl ?_
      refine ze_iload_n (pc := 23) zr_74_23 rfl ?_
      refine z_gk h (fun g24 h => ?_)
      refine zl_aaload (pc := 24) zr_74_24 (by decide) rfl g24 h (fun x24 h => ?_)
      refine z_gk h (fun g25 h => ?_)
      refine ze_length (pc := 25) (z := z_len' V x24) zr_74_25 g25 rfl ?_
      refine ze_aload_n (pc := 26) zr_74_26 rfl ?_
      refine ze_iload_n (pc := 27) zr_74_27 rfl ?_
      refine z_gk h (fun g28 h => ?_)
      refine zl_aaload (pc := 28) zr_74_28 (by decide) rfl g28 h (fun x28 h => ?_)
      refine z_gk h (fun g29 h => ?_)
      refine ze_length (pc := 29) (z := z_len' V x28) zr_74_29 g29 rfl ?_
      refine zq_min (pc := 30) zr_74_30 (Nat.le_of_ble_eq_true rfl) ?_
      refine z_gk h (fun k33 h => ?_)
      refine z_gk h (fun g33 h => ?_)
      refine zq_acopyv (pc := 33) zr_74_33 k33 g33 rfl rfl rfl h (fun W301 h => ?_)
      refine zq_iinc (pc := 36) (ls2 := [some (.inr (.inr 60)), some (.inr (.inr 43)), some (.inl (z_add l2 1))]) zr_74_36 rfl rfl rfl ?_
      refine ze_goto (pc := 39) (t := 2) zr_74_39 (by decide) ?_
      exact h
    · exact ze_vret (pc := 42) zr_74_42 rfl h
  · exact ze_vret (pc := 42) zr_74_42 rfl h
theorem zb74_65_48 {d : Nat} {Q : Int → z_M → Prop}  {V : z_M}
    (h : z_Ex (z_MS d) 74 Q true 2 [some (.inr (.inr 65)), some (.inr (.inr 48)), some (.inl 0)] [] 0 0 V) :
    z_MS (d + 1) 74 true [.inr (.inr 65), .inr (.inr 48)] V Q := by
  show z_Ex (z_MS d) 74 Q true 0 [some (.inr (.inr 65)), some (.inr (.inr 48)), none] [] 0 0 V
  refine ze_iconst (pc := 0) zr_74_0 (by decide) ?_
  refine zq_istore_n (pc := 1) (ls2 := [some (.inr (.inr 65)), some (.inr (.inr 48)), some (.inl 0)]) zr_74_1 rfl rfl ?_
  exact h
theorem zb74_65_48_p2 {d : Nat} {Q : Int → z_M → Prop} (l2 : Int) {V : z_M}
    (h : zI (l2 < 2) (zI (l2 < 2) (zGu (0 ≤ l2 ∧ l2 < 2) (∀ x16 : Nat, x16 = z_rr true V 65 l2.toNat → zGu (0 ≤ l2 ∧ l2 < 2) (∀ x20 : Nat, x20 = z_rr true V 48 l2.toNat → zGu (0 ≤ l2 ∧ l2 < 2) (∀ x24 : Nat, x24 = z_rr true V 65 l2.toNat → zGu (101 ≤ z_kd x24) (zGu (0 ≤ l2 ∧ l2 < 2) (∀ x28 : Nat, x28 = z_rr true V 48 l2.toNat → zGu (101 ≤ z_kd x28) (zGu (z_kd x16 = 101 ∧ z_kd x20 = 101 ∧ 36 ≤ x20 ∧ z_sum [] ≤ 8) (zGu (0 ≤ (z_min (z_len' V x24) (z_len' V x28)) ∧ 0 ≤ (0 : Int) ∧ 0 ≤ (0 : Int) ∧ (0 : Int) + (z_min (z_len' V x24) (z_len' V x28)) ≤ z_len' V x16 ∧ (0 : Int) + (z_min (z_len' V x24) (z_len' V x28)) ≤ z_len' V x20) (∀ W301, W301 = z_cpy V x16 0 x20 0 (z_min (z_len' V x24) (z_len' V x28)).toNat → z_Ex (z_MS d) 74 Q true 2 [some (.inr (.inr 65)), some (.inr (.inr 48)), some (.inl (z_add l2 1))] [] 0 0 W301))))))))) (Q 0 V)) (Q 0 V)) :
    z_Ex (z_MS d) 74 Q true 2 [some (.inr (.inr 65)), some (.inr (.inr 48)), some (.inl l2)] [] 0 0 V := by
  refine ze_iload_n (pc := 2) zr_74_2 rfl ?_
  refine ze_aload_n (pc := 3) zr_74_3 rfl ?_
  refine ze_length (pc := 4) (z := 2) zr_74_4 (by decide) rfl ?_
  refine zq_icmp_ge (pc := 5) (t := 42) zr_74_5 (by decide) (z_toif h) (fun h => ?_) (fun h => ?_)
  · refine ze_iload_n (pc := 8) zr_74_8 rfl ?_
    refine ze_aload_n (pc := 9) zr_74_9 rfl ?_
    refine ze_length (pc := 10) (z := 2) zr_74_10 (by decide) rfl ?_
    refine zq_icmp_ge (pc := 11) (t := 42) zr_74_11 (by decide) (z_toif h) (fun h => ?_) (fun h => ?_)
    · refine ze_aload_n (pc := 14) zr_74_14 rfl ?_
      refine ze_iload_n (pc := 15) zr_74_15 rfl ?_
      refine z_gk h (fun g16 h => ?_)
      refine zl_aaload (pc := 16) zr_74_16 (by decide) rfl g16 h (fun x16 h => ?_)
      refine ze_iconst (pc := 17) zr_74_17 (by decide) ?_
      refine ze_aload_n (pc := 18) zr_74_18 rfl ?_
      refine ze_iload_n (pc := 19) zr_74_19 rfl ?_
      refine z_gk h (fun g20 h => ?_)
      refine zl_aaload (pc := 20) zr_74_20 (by decide) rfl g20 h (fun x20 h => ?_)
      refine ze_iconst (pc := 21) zr_74_21 (by decide) ?_
      refine ze_aload_n (pc := 22) zr_74_22 rfl ?_
      refine ze_iload_n (pc := 23) zr_74_23 rfl ?_
      refine z_gk h (fun g24 h => ?_)
      refine zl_aaload (pc := 24) zr_74_24 (by decide) rfl g24 h (fun x24 h => ?_)
      refine z_gk h (fun g25 h => ?_)
      refine ze_length (pc := 25) (z := z_len' V x24) zr_74_25 g25 rfl ?_
      refine ze_aload_n (pc := 26) zr_74_26 rfl ?_
      refine ze_iload_n (pc := 27) zr_74_27 rfl ?_
      refine z_gk h (fun g28 h => ?_)
      refine zl_aaload (pc := 28) zr_74_28 (by decide) rfl g28 h (fun x28 h => ?_)
      refine z_gk h (fun g29 h => ?_)
      refine ze_length (pc := 29) (z := z_len' V x28) zr_74_29 g29 rfl ?_
      refine zq_min (pc := 30) zr_74_30 (Nat.le_of_ble_eq_true rfl) ?_
      refine z_gk h (fun k33 h => ?_)
      refine z_gk h (fun g33 h => ?_)
      refine zq_acopyv (pc := 33) zr_74_33 k33 g33 rfl rfl rfl h (fun W301 h => ?_)
      refine zq_iinc (pc := 36) (ls2 := [some (.inr (.inr 65)), some (.inr (.inr 48)), some (.inl (z_add l2 1))]) zr_74_36 rfl rfl rfl ?_
      refine ze_goto (pc := 39) (t := 2) zr_74_39 (by decide) ?_
      exact h
    · exact ze_vret (pc := 42) zr_74_42 rfl h
  · exact ze_vret (pc := 42) zr_74_42 rfl h
theorem zb74_71_38 {d : Nat} {Q : Int → z_M → Prop}  {V : z_M}
    (h : z_Ex (z_MS d) 74 Q true 2 [some (.inr (.inr 71)), some (.inr (.inr 38)), some (.inl 0)] [] 0 0 V) :
    z_MS (d + 1) 74 true [.inr (.inr 71), .inr (.inr 38)] V Q := by
  show z_Ex (z_MS d) 74 Q true 0 [some (.inr (.inr 71)), some (.inr (.inr 38)), none] [] 0 0 V
  refine ze_iconst (pc := 0) zr_74_0 (by decide) ?_
  refine zq_istore_n (pc := 1) (ls2 := [some (.inr (.inr 71)), some (.inr (.inr 38)), some (.inl 0)]) zr_74_1 rfl rfl ?_
  exact h
theorem zb74_71_38_p2 {d : Nat} {Q : Int → z_M → Prop} (l2 : Int) {V : z_M}
    (h : zI (l2 < 4) (zI (l2 < 4) (zGu (0 ≤ l2 ∧ l2 < 4) (∀ x16 : Nat, x16 = z_rr true V 71 l2.toNat → zGu (0 ≤ l2 ∧ l2 < 4) (∀ x20 : Nat, x20 = z_rr true V 38 l2.toNat → zGu (0 ≤ l2 ∧ l2 < 4) (∀ x24 : Nat, x24 = z_rr true V 71 l2.toNat → zGu (101 ≤ z_kd x24) (zGu (0 ≤ l2 ∧ l2 < 4) (∀ x28 : Nat, x28 = z_rr true V 38 l2.toNat → zGu (101 ≤ z_kd x28) (zGu (z_kd x16 = 101 ∧ z_kd x20 = 101 ∧ 36 ≤ x20 ∧ z_sum [] ≤ 8) (zGu (0 ≤ (z_min (z_len' V x24) (z_len' V x28)) ∧ 0 ≤ (0 : Int) ∧ 0 ≤ (0 : Int) ∧ (0 : Int) + (z_min (z_len' V x24) (z_len' V x28)) ≤ z_len' V x16 ∧ (0 : Int) + (z_min (z_len' V x24) (z_len' V x28)) ≤ z_len' V x20) (∀ W301, W301 = z_cpy V x16 0 x20 0 (z_min (z_len' V x24) (z_len' V x28)).toNat → z_Ex (z_MS d) 74 Q true 2 [some (.inr (.inr 71)), some (.inr (.inr 38)), some (.inl (z_add l2 1))] [] 0 0 W301))))))))) (Q 0 V)) (Q 0 V)) :
    z_Ex (z_MS d) 74 Q true 2 [some (.inr (.inr 71)), some (.inr (.inr 38)), some (.inl l2)] [] 0 0 V := by
  refine ze_iload_n (pc := 2) zr_74_2 rfl ?_
  refine ze_aload_n (pc := 3) zr_74_3 rfl ?_
  refine ze_length (pc := 4) (z := 4) zr_74_4 (by decide) rfl ?_
  refine zq_icmp_ge (pc := 5) (t := 42) zr_74_5 (by decide) (z_toif h) (fun h => ?_) (fun h => ?_)
  · refine ze_iload_n (pc := 8) zr_74_8 rfl ?_
    refine ze_aload_n (pc := 9) zr_74_9 rfl ?_
    refine ze_length (pc := 10) (z := 4) zr_74_10 (by decide) rfl ?_
    refine zq_icmp_ge (pc := 11) (t := 42) zr_74_11 (by decide) (z_toif h) (fun h => ?_) (fun h => ?_)
    · refine ze_aload_n (pc := 14) zr_74_14 rfl ?_
      refine ze_iload_n (pc := 15) zr_74_15 rfl ?_
      refine z_gk h (fun g16 h => ?_)
      refine zl_aaload (pc := 16) zr_74_16 (by decide) rfl g16 h (fun x16 h => ?_)
      refine ze_iconst (pc := 17) zr_74_17 (by decide) ?_
      refine ze_aload_n (pc := 18) zr_74_18 rfl ?_
      refine ze_iload_n (pc := 19) zr_74_19 rfl ?_
      refine z_gk h (fun g20 h => ?_)
      refine zl_aaload (pc := 20) zr_74_20 (by decide) rfl g20 h (fun x20 h => ?_)
      refine ze_iconst (pc := 21) zr_74_21 (by decide) ?_
      refine ze_aload_n (pc := 22) zr_74_22 rfl ?_
      refine ze_iload_n (pc := 23) zr_74_23 rfl ?_
      refine z_gk h (fun g24 h => ?_)
      refine zl_aaload (pc := 24) zr_74_24 (by decide) rfl g24 h (fun x24 h => ?_)
      refine z_gk h (fun g25 h => ?_)
      refine ze_length (pc := 25) (z := z_len' V x24) zr_74_25 g25 rfl ?_
      refine ze_aload_n (pc := 26) zr_74_26 rfl ?_
      refine ze_iload_n (pc := 27) zr_74_27 rfl ?_
      refine z_gk h (fun g28 h => ?_)
      refine zl_aaload (pc := 28) zr_74_28 (by decide) rfl g28 h (fun x28 h => ?_)
      refine z_gk h (fun g29 h => ?_)
      refine ze_length (pc := 29) (z := z_len' V x28) zr_74_29 g29 rfl ?_
      refine zq_min (pc := 30) zr_74_30 (Nat.le_of_ble_eq_true rfl) ?_
      refine z_gk h (fun k33 h => ?_)
      refine z_gk h (fun g33 h => ?_)
      refine zq_acopyv (pc := 33) zr_74_33 k33 g33 rfl rfl rfl h (fun W301 h => ?_)
      refine zq_iinc (pc := 36) (ls2 := [some (.inr (.inr 71)), some (.inr (.inr 38)), some (.inl (z_add l2 1))]) zr_74_36 rfl rfl rfl ?_
      refine ze_goto (pc := 39) (t := 2) zr_74_39 (by decide) ?_
      exact h
    · exact ze_vret (pc := 42) zr_74_42 rfl h
  · exact ze_vret (pc := 42) zr_74_42 rfl h
theorem zb74_76_43 {d : Nat} {Q : Int → z_M → Prop}  {V : z_M}
    (h : z_Ex (z_MS d) 74 Q true 2 [some (.inr (.inr 76)), some (.inr (.inr 43)), some (.inl 0)] [] 0 0 V) :
    z_MS (d + 1) 74 true [.inr (.inr 76), .inr (.inr 43)] V Q := by
  show z_Ex (z_MS d) 74 Q true 0 [some (.inr (.inr 76)), some (.inr (.inr 43)), none] [] 0 0 V
  refine ze_iconst (pc := 0) zr_74_0 (by decide) ?_
  refine zq_istore_n (pc := 1) (ls2 := [some (.inr (.inr 76)), some (.inr (.inr 43)), some (.inl 0)]) zr_74_1 rfl rfl ?_
  exact h
theorem zb74_76_43_p2 {d : Nat} {Q : Int → z_M → Prop} (l2 : Int) {V : z_M}
    (h : zI (l2 < 2) (zI (l2 < 2) (zGu (0 ≤ l2 ∧ l2 < 2) (∀ x16 : Nat, x16 = z_rr true V 76 l2.toNat → zGu (0 ≤ l2 ∧ l2 < 2) (∀ x20 : Nat, x20 = z_rr true V 43 l2.toNat → zGu (0 ≤ l2 ∧ l2 < 2) (∀ x24 : Nat, x24 = z_rr true V 76 l2.toNat → zGu (101 ≤ z_kd x24) (zGu (0 ≤ l2 ∧ l2 < 2) (∀ x28 : Nat, x28 = z_rr true V 43 l2.toNat → zGu (101 ≤ z_kd x28) (zGu (z_kd x16 = 101 ∧ z_kd x20 = 101 ∧ 36 ≤ x20 ∧ z_sum [] ≤ 8) (zGu (0 ≤ (z_min (z_len' V x24) (z_len' V x28)) ∧ 0 ≤ (0 : Int) ∧ 0 ≤ (0 : Int) ∧ (0 : Int) + (z_min (z_len' V x24) (z_len' V x28)) ≤ z_len' V x16 ∧ (0 : Int) + (z_min (z_len' V x24) (z_len' V x28)) ≤ z_len' V x20) (∀ W301, W301 = z_cpy V x16 0 x20 0 (z_min (z_len' V x24) (z_len' V x28)).toNat → z_Ex (z_MS d) 74 Q true 2 [some (.inr (.inr 76)), some (.inr (.inr 43)), some (.inl (z_add l2 1))] [] 0 0 W301))))))))) (Q 0 V)) (Q 0 V)) :
    z_Ex (z_MS d) 74 Q true 2 [some (.inr (.inr 76)), some (.inr (.inr 43)), some (.inl l2)] [] 0 0 V := by
  refine ze_iload_n (pc := 2) zr_74_2 rfl ?_
  refine ze_aload_n (pc := 3) zr_74_3 rfl ?_
  refine ze_length (pc := 4) (z := 2) zr_74_4 (by decide) rfl ?_
  refine zq_icmp_ge (pc := 5) (t := 42) zr_74_5 (by decide) (z_toif h) (fun h => ?_) (fun h => ?_)
  · refine ze_iload_n (pc := 8) zr_74_8 rfl ?_
    refine ze_aload_n (pc := 9) zr_74_9 rfl ?_
    refine ze_length (pc := 10) (z := 2) zr_74_10 (by decide) rfl ?_
    refine zq_icmp_ge (pc := 11) (t := 42) zr_74_11 (by decide) (z_toif h) (fun h => ?_) (fun h => ?_)
    · refine ze_aload_n (pc := 14) zr_74_14 rfl ?_
      refine ze_iload_n (pc := 15) zr_74_15 rfl ?_
      refine z_gk h (fun g16 h => ?_)
      refine zl_aaload (pc := 16) zr_74_16 (by decide) rfl g16 h (fun x16 h => ?_)
      refine ze_iconst (pc := 17) zr_74_17 (by decide) ?_
      refine ze_aload_n (pc := 18) zr_74_18 rfl ?_
      refine ze_iload_n (pc := 19) zr_74_19 rfl ?_
      refine z_gk h (fun g20 h => ?_)
      refine zl_aaload (pc := 20) zr_74_20 (by decide) rfl g20 h (fun x20 h => ?_)
      refine ze_iconst (pc := 21) zr_74_21 (by decide) ?_
      refine ze_aload_n (pc := 22) zr_74_22 rfl ?_
      refine ze_iload_n (pc := 23) zr_74_23 rfl ?_
      refine z_gk h (fun g24 h => ?_)
      refine zl_aaload (pc := 24) zr_74_24 (by decide) rfl g24 h (fun x24 h => ?_)
      refine z_gk h (fun g25 h => ?_)
      refine ze_length (pc := 25) (z := z_len' V x24) zr_74_25 g25 rfl ?_
      refine ze_aload_n (pc := 26) zr_74_26 rfl ?_
      refine ze_iload_n (pc := 27) zr_74_27 rfl ?_
      refine z_gk h (fun g28 h => ?_)
      refine zl_aaload (pc := 28) zr_74_28 (by decide) rfl g28 h (fun x28 h => ?_)
      refine z_gk h (fun g29 h => ?_)
      refine ze_length (pc := 29) (z := z_len' V x28) zr_74_29 g29 rfl ?_
      refine zq_min (pc := 30) zr_74_30 (Nat.le_of_ble_eq_true rfl) ?_
      refine z_gk h (fun k33 h => ?_)
      refine z_gk h (fun g33 h => ?_)
      refine zq_acopyv (pc := 33) zr_74_33 k33 g33 rfl rfl rfl h (fun W301 h => ?_)
      refine zq_iinc (pc := 36) (ls2 := [some (.inr (.inr 76)), some (.inr (.inr 43)), some (.inl (z_add l2 1))]) zr_74_36 rfl rfl rfl ?_
      refine ze_goto (pc := 39) (t := 2) zr_74_39 (by decide) ?_
      exact h
    · exact ze_vret (pc := 42) zr_74_42 rfl h
  · exact ze_vret (pc := 42) zr_74_42 rfl h
theorem zb74_81_48 {d : Nat} {Q : Int → z_M → Prop}  {V : z_M}
    (h : z_Ex (z_MS d) 74 Q true 2 [some (.inr (.inr 81)), some (.inr (.inr 48)), some (.inl 0)] [] 0 0 V) :
    z_MS (d + 1) 74 true [.inr (.inr 81), .inr (.inr 48)] V Q := by
  show z_Ex (z_MS d) 74 Q true 0 [some (.inr (.inr 81)), some (.inr (.inr 48)), none] [] 0 0 V
  refine ze_iconst (pc := 0) zr_74_0 (by decide) ?_
  refine zq_istore_n (pc := 1) (ls2 := [some (.inr (.inr 81)), some (.inr (.inr 48)), some (.inl 0)]) zr_74_1 rfl rfl ?_
  exact h
theorem zb74_81_48_p2 {d : Nat} {Q : Int → z_M → Prop} (l2 : Int) {V : z_M}
    (h : zI (l2 < 2) (zI (l2 < 2) (zGu (0 ≤ l2 ∧ l2 < 2) (∀ x16 : Nat, x16 = z_rr true V 81 l2.toNat → zGu (0 ≤ l2 ∧ l2 < 2) (∀ x20 : Nat, x20 = z_rr true V 48 l2.toNat → zGu (0 ≤ l2 ∧ l2 < 2) (∀ x24 : Nat, x24 = z_rr true V 81 l2.toNat → zGu (101 ≤ z_kd x24) (zGu (0 ≤ l2 ∧ l2 < 2) (∀ x28 : Nat, x28 = z_rr true V 48 l2.toNat → zGu (101 ≤ z_kd x28) (zGu (z_kd x16 = 101 ∧ z_kd x20 = 101 ∧ 36 ≤ x20 ∧ z_sum [] ≤ 8) (zGu (0 ≤ (z_min (z_len' V x24) (z_len' V x28)) ∧ 0 ≤ (0 : Int) ∧ 0 ≤ (0 : Int) ∧ (0 : Int) + (z_min (z_len' V x24) (z_len' V x28)) ≤ z_len' V x16 ∧ (0 : Int) + (z_min (z_len' V x24) (z_len' V x28)) ≤ z_len' V x20) (∀ W301, W301 = z_cpy V x16 0 x20 0 (z_min (z_len' V x24) (z_len' V x28)).toNat → z_Ex (z_MS d) 74 Q true 2 [some (.inr (.inr 81)), some (.inr (.inr 48)), some (.inl (z_add l2 1))] [] 0 0 W301))))))))) (Q 0 V)) (Q 0 V)) :
    z_Ex (z_MS d) 74 Q true 2 [some (.inr (.inr 81)), some (.inr (.inr 48)), some (.inl l2)] [] 0 0 V := by
  refine ze_iload_n (pc := 2) zr_74_2 rfl ?_
  refine ze_aload_n (pc := 3) zr_74_3 rfl ?_
  refine ze_length (pc := 4) (z := 2) zr_74_4 (by decide) rfl ?_
  refine zq_icmp_ge (pc := 5) (t := 42) zr_74_5 (by decide) (z_toif h) (fun h => ?_) (fun h => ?_)
  · refine ze_iload_n (pc := 8) zr_74_8 rfl ?_
    refine ze_aload_n (pc := 9) zr_74_9 rfl ?_
    refine ze_length (pc := 10) (z := 2) zr_74_10 (by decide) rfl ?_
    refine zq_icmp_ge (pc := 11) (t := 42) zr_74_11 (by decide) (z_toif h) (fun h => ?_) (fun h => ?_)
    · refine ze_aload_n (pc := 14) zr_74_14 rfl ?_
      refine ze_iload_n (pc := 15) zr_74_15 rfl ?_
      refine z_gk h (fun g16 h => ?_)
      refine zl_aaload (pc := 16) zr_74_16 (by decide) rfl g16 h (fun x16 h => ?_)
      refine ze_iconst (pc := 17) zr_74_17 (by decide) ?_
      refine ze_aload_n (pc := 18) zr_74_18 rfl ?_
      refine ze_iload_n (pc := 19) zr_74_19 rfl ?_
      refine z_gk h (fun g20 h => ?_)
      refine zl_aaload (pc := 20) zr_74_20 (by decide) rfl g20 h (fun x20 h => ?_)
      refine ze_iconst (pc := 21) zr_74_21 (by decide) ?_
      refine ze_aload_n (pc := 22) zr_74_22 rfl ?_
      refine ze_iload_n (pc := 23) zr_74_23 rfl ?_
      refine z_gk h (fun g24 h => ?_)
      refine zl_aaload (pc := 24) zr_74_24 (by decide) rfl g24 h (fun x24 h => ?_)
      refine z_gk h (fun g25 h => ?_)
      refine ze_length (pc := 25) (z := z_len' V x24) zr_74_25 g25 rfl ?_
      refine ze_aload_n (pc := 26) zr_74_26 rfl ?_
      refine ze_iload_n (pc := 27) zr_74_27 rfl ?_
      refine z_gk h (fun g28 h => ?_)
      refine zl_aaload (pc := 28) zr_74_28 (by decide) rfl g28 h (fun x28 h => ?_)
      refine z_gk h (fun g29 h => ?_)
      refine ze_length (pc := 29) (z := z_len' V x28) zr_74_29 g29 rfl ?_
      refine zq_min (pc := 30) zr_74_30 (Nat.le_of_ble_eq_true rfl) ?_
      refine z_gk h (fun k33 h => ?_)
      refine z_gk h (fun g33 h => ?_)
      refine zq_acopyv (pc := 33) zr_74_33 k33 g33 rfl rfl rfl h (fun W301 h => ?_)
      refine zq_iinc (pc := 36) (ls2 := [some (.inr (.inr 81)), some (.inr (.inr 48)), some (.inl (z_add l2 1))]) zr_74_36 rfl rfl rfl ?_
      refine ze_goto (pc := 39) (t := 2) zr_74_39 (by decide) ?_
      exact h
    · exact ze_vret (pc := 42) zr_74_42 rfl h
  · exact ze_vret (pc := 42) zr_74_42 rfl h
theorem zb75_37 {d : Nat} {Q : Int → z_M → Prop} (a0 : Int) {V : z_M}
    (h : z_MS d 133 true [.inl a0, .inl 0, .inl (z_sub (V 37 7) 1)] V (fun z1 V1 => zGu (z1 = 0 ∨ z1 = 1) (Q z1 V1))) :
    z_MS (d + 1) 75 true [.inr (.inr 37), .inl a0] V Q := by
  show z_Ex (z_MS d) 75 Q true 0 [some (.inr (.inr 37)), some (.inl a0)] [] 0 0 V
  refine ze_iload_n (pc := 0) zr_75_0 rfl ?_
  refine ze_iconst (pc := 1) zr_75_1 (by decide) ?_
  refine ze_aload_n (pc := 2) zr_75_2 rfl ?_
  refine ze_getfield (pc := 3) (v := .inl (V 37 7)) zr_75_3 rfl rfl ?_
  refine ze_iconst (pc := 6) zr_75_6 (by decide) ?_
  refine ze_isub (pc := 7) zr_75_7 ?_
  refine zq_callS1 (pc := 8) (as := [.inl a0, .inl 0, .inl (z_sub (V 37 7) 1)]) (r := []) (kc2 := 0) (ks2 := 0) zr_75_8 rfl rfl rfl rfl ⟨rfl, rfl⟩ ⟨rfl, rfl, rfl⟩ h (fun z1 V1 h => ?_)
  refine z_gk h (fun g11 h => ?_)
  exact zq_ret4 (pc := 11) zr_75_11 rfl g11 h
theorem zb76_37 {d : Nat} {Q : Int → z_M → Prop} (a0 : Int) {V : z_M}
    (h : z_MS d 133 true [.inl a0, .inl 0, .inl (z_sub (V 37 8) 1)] V (fun z1 V1 => zGu (z1 = 0 ∨ z1 = 1) (Q z1 V1))) :
    z_MS (d + 1) 76 true [.inr (.inr 37), .inl a0] V Q := by
  show z_Ex (z_MS d) 76 Q true 0 [some (.inr (.inr 37)), some (.inl a0)] [] 0 0 V
  refine ze_iload_n (pc := 0) zr_76_0 rfl ?_
  refine ze_iconst (pc := 1) zr_76_1 (by decide) ?_
  refine ze_aload_n (pc := 2) zr_76_2 rfl ?_
  refine ze_getfield (pc := 3) (v := .inl (V 37 8)) zr_76_3 rfl rfl ?_
  refine ze_iconst (pc := 6) zr_76_6 (by decide) ?_
  refine ze_isub (pc := 7) zr_76_7 ?_
  refine zq_callS1 (pc := 8) (as := [.inl a0, .inl 0, .inl (z_sub (V 37 8) 1)]) (r := []) (kc2 := 0) (ks2 := 0) zr_76_8 rfl rfl rfl rfl ⟨rfl, rfl⟩ ⟨rfl, rfl, rfl⟩ h (fun z1 V1 h => ?_)
  refine z_gk h (fun g11 h => ?_)
  exact zq_ret4 (pc := 11) zr_76_11 rfl g11 h
theorem zb77_37 {d : Nat} {Q : Int → z_M → Prop} (a0 : Int) (a1 : Int) (a2 : Int) {V : z_M}
    (h : zI ((V 37 7) < 12) (zGu (0 ≤ (V 37 7) ∧ (V 37 7) < 12) (∀ W1, W1 = z_up V 39 (V 37 7).toNat a0 → zGu (0 ≤ (W1 37 7) ∧ (W1 37 7) < 12) (∀ W2, W2 = z_up W1 40 (W1 37 7).toNat a1 → zGu (0 ≤ (W2 37 7) ∧ (W2 37 7) < 12) (∀ W3, W3 = z_up W2 41 (W2 37 7).toNat a2 → zGu (0 ≤ (W3 37 7) ∧ (W3 37 7) < 12) (∀ W4, W4 = z_up W3 42 (W3 37 7).toNat 0 → ∀ W5, W5 = z_up W4 37 7 (z_add (W4 37 7) 1) → Q (z_sub (W5 37 7) 1) W5))))) (Q (-1) V)) :
    z_MS (d + 1) 77 true [.inr (.inr 37), .inl a0, .inl a1, .inl a2] V Q := by
  show z_Ex (z_MS d) 77 Q true 0 [some (.inr (.inr 37)), some (.inl a0), some (.inl a1), some (.inl a2)] [] 0 0 V
  refine ze_aload_n (pc := 0) zr_77_0 rfl ?_
  refine ze_getfield (pc := 1) (v := .inl (V 37 7)) zr_77_1 rfl rfl ?_
  refine ze_bipush (pc := 4) zr_77_4 (by decide) ?_
  refine zq_icmp_lt (pc := 6) (t := 11) zr_77_6 (by decide) (z_toif h) (fun h => ?_) (fun h => ?_)
  · refine ze_aload_n (pc := 11) zr_77_11 rfl ?_
    refine ze_getfield (pc := 12) (v := .inr (.inr 38)) zr_77_12 rfl rfl ?_
    refine ze_iconst (pc := 15) zr_77_15 (by decide) ?_
    refine zq_aaload (pc := 16) (v := .inr (.inr 39)) zr_77_16 (by decide) rfl (by decide) rfl ?_
    refine ze_aload_n (pc := 17) zr_77_17 rfl ?_
    refine ze_getfield (pc := 18) (v := .inl (V 37 7)) zr_77_18 rfl rfl ?_
    refine ze_iload_n (pc := 21) zr_77_21 rfl ?_
    refine z_gk h (fun g22 h => ?_)
    refine zq_iastore (pc := 22) zr_77_22 (by decide) rfl g22 rfl h (fun W1 h => ?_)
    refine ze_aload_n (pc := 23) zr_77_23 rfl ?_
    refine ze_getfield (pc := 24) (v := .inr (.inr 38)) zr_77_24 rfl rfl ?_
    refine ze_iconst (pc := 27) zr_77_27 (by decide) ?_
    refine zq_aaload (pc := 28) (v := .inr (.inr 40)) zr_77_28 (by decide) rfl (by decide) rfl ?_
    refine ze_aload_n (pc := 29) zr_77_29 rfl ?_
    refine ze_getfield (pc := 30) (v := .inl (W1 37 7)) zr_77_30 rfl rfl ?_
    refine ze_iload_n (pc := 33) zr_77_33 rfl ?_
    refine z_gk h (fun g34 h => ?_)
    refine zq_iastore (pc := 34) zr_77_34 (by decide) rfl g34 rfl h (fun W2 h => ?_)
    refine ze_aload_n (pc := 35) zr_77_35 rfl ?_
    refine ze_getfield (pc := 36) (v := .inr (.inr 38)) zr_77_36 rfl rfl ?_
    refine ze_iconst (pc := 39) zr_77_39 (by decide) ?_
    refine zq_aaload (pc := 40) (v := .inr (.inr 41)) zr_77_40 (by decide) rfl (by decide) rfl ?_
    refine ze_aload_n (pc := 41) zr_77_41 rfl ?_
    refine ze_getfield (pc := 42) (v := .inl (W2 37 7)) zr_77_42 rfl rfl ?_
    refine ze_iload_n (pc := 45) zr_77_45 rfl ?_
    refine z_gk h (fun g46 h => ?_)
    refine zq_iastore (pc := 46) zr_77_46 (by decide) rfl g46 rfl h (fun W3 h => ?_)
    refine ze_aload_n (pc := 47) zr_77_47 rfl ?_
    refine ze_getfield (pc := 48) (v := .inr (.inr 38)) zr_77_48 rfl rfl ?_
    refine ze_iconst (pc := 51) zr_77_51 (by decide) ?_
    refine zq_aaload (pc := 52) (v := .inr (.inr 42)) zr_77_52 (by decide) rfl (by decide) rfl ?_
    refine ze_aload_n (pc := 53) zr_77_53 rfl ?_
    refine ze_getfield (pc := 54) (v := .inl (W3 37 7)) zr_77_54 rfl rfl ?_
    refine ze_iconst (pc := 57) zr_77_57 (by decide) ?_
    refine z_gk h (fun g58 h => ?_)
    refine zq_iastore (pc := 58) zr_77_58 (by decide) rfl g58 rfl h (fun W4 h => ?_)
    refine ze_aload_n (pc := 59) zr_77_59 rfl ?_
    refine ze_dup (pc := 60) zr_77_60 rfl ?_
    refine ze_getfield (pc := 61) (v := .inl (W4 37 7)) zr_77_61 rfl rfl ?_
    refine ze_iconst (pc := 64) zr_77_64 (by decide) ?_
    refine ze_iadd (pc := 65) zr_77_65 ?_
    refine zq_putI (pc := 66) zr_77_66 (by decide) rfl h (fun W5 h => ?_)
    refine ze_aload_n (pc := 69) zr_77_69 rfl ?_
    refine ze_getfield (pc := 70) (v := .inl (W5 37 7)) zr_77_70 rfl rfl ?_
    refine ze_iconst (pc := 73) zr_77_73 (by decide) ?_
    refine ze_isub (pc := 74) zr_77_74 ?_
    exact zq_ret1 (pc := 75) zr_77_75 rfl h
  · refine ze_iconst (pc := 9) zr_77_9 (by decide) ?_
    exact zq_ret1 (pc := 10) zr_77_10 rfl h
theorem zb78_37 {d : Nat} {Q : Int → z_M → Prop} (a0 : Int) (a1 : Int) {V : z_M}
    (h : zI ((V 37 8) < 6) (zGu (0 ≤ (V 37 8) ∧ (V 37 8) < 6) (∀ W1, W1 = z_up V 44 (V 37 8).toNat a0 → zGu (0 ≤ (W1 37 8) ∧ (W1 37 8) < 6) (∀ W2, W2 = z_up W1 45 (W1 37 8).toNat a1 → ∀ W3, W3 = z_up W2 37 8 (z_add (W2 37 8) 1) → Q (z_sub (W3 37 8) 1) W3))) (Q (-1) V)) :
    z_MS (d + 1) 78 true [.inr (.inr 37), .inl a0, .inl a1] V Q := by
  show z_Ex (z_MS d) 78 Q true 0 [some (.inr (.inr 37)), some (.inl a0), some (.inl a1)] [] 0 0 V
  refine ze_aload_n (pc := 0) zr_78_0 rfl ?_
  refine ze_getfield (pc := 1) (v := .inl (V 37 8)) zr_78_1 rfl rfl ?_
  refine ze_bipush (pc := 4) zr_78_4 (by decide) ?_
  refine zq_icmp_lt (pc := 6) (t := 11) zr_78_6 (by decide) (z_toif h) (fun h => ?_) (fun h => ?_)
  · refine ze_aload_n (pc := 11) zr_78_11 rfl ?_
    refine ze_getfield (pc := 12) (v := .inr (.inr 43)) zr_78_12 rfl rfl ?_
    refine ze_iconst (pc := 15) zr_78_15 (by decide) ?_
    refine zq_aaload (pc := 16) (v := .inr (.inr 44)) zr_78_16 (by decide) rfl (by decide) rfl ?_
    refine ze_aload_n (pc := 17) zr_78_17 rfl ?_
    refine ze_getfield (pc := 18) (v := .inl (V 37 8)) zr_78_18 rfl rfl ?_
    refine ze_iload_n (pc := 21) zr_78_21 rfl ?_
    refine z_gk h (fun g22 h => ?_)
    refine zq_iastore (pc := 22) zr_78_22 (by decide) rfl g22 rfl h (fun W1 h => ?_)
    refine ze_aload_n (pc := 23) zr_78_23 rfl ?_
    refine ze_getfield (pc := 24) (v := .inr (.inr 43)) zr_78_24 rfl rfl ?_
    refine ze_iconst (pc := 27) zr_78_27 (by decide) ?_
    refine zq_aaload (pc := 28) (v := .inr (.inr 45)) zr_78_28 (by decide) rfl (by decide) rfl ?_
    refine ze_aload_n (pc := 29) zr_78_29 rfl ?_
    refine ze_getfield (pc := 30) (v := .inl (W1 37 8)) zr_78_30 rfl rfl ?_
    refine ze_iload_n (pc := 33) zr_78_33 rfl ?_
    refine z_gk h (fun g34 h => ?_)
    refine zq_iastore (pc := 34) zr_78_34 (by decide) rfl g34 rfl h (fun W2 h => ?_)
    refine ze_aload_n (pc := 35) zr_78_35 rfl ?_
    refine ze_dup (pc := 36) zr_78_36 rfl ?_
    refine ze_getfield (pc := 37) (v := .inl (W2 37 8)) zr_78_37 rfl rfl ?_
    refine ze_iconst (pc := 40) zr_78_40 (by decide) ?_
    refine ze_iadd (pc := 41) zr_78_41 ?_
    refine zq_putI (pc := 42) zr_78_42 (by decide) rfl h (fun W3 h => ?_)
    refine ze_aload_n (pc := 45) zr_78_45 rfl ?_
    refine ze_getfield (pc := 46) (v := .inl (W3 37 8)) zr_78_46 rfl rfl ?_
    refine ze_iconst (pc := 49) zr_78_49 (by decide) ?_
    refine ze_isub (pc := 50) zr_78_50 ?_
    exact zq_ret1 (pc := 51) zr_78_51 rfl h
  · refine ze_iconst (pc := 9) zr_78_9 (by decide) ?_
    exact zq_ret1 (pc := 10) zr_78_10 rfl h
theorem zb79_37_v {d : Nat} {Q : Int → z_M → Prop} (a0 : Nat) {V : z_M}
    (h : zI ((V 37 9) < 6) (zGu (a0 = 0 ∨ (36 ≤ a0 ∧ z_kd a0 = 5)) (zGu (true = true → z_rf 47 (V 37 9).toNat = 0) (zGu (0 ≤ (V 37 9) ∧ (V 37 9) < 6) (∀ W1, W1 = z_up V 47 (V 37 9).toNat (a0 : Nat) → ∀ W2, W2 = z_up W1 37 9 (z_add (W1 37 9) 1) → Q (z_sub (W2 37 9) 1) W2)))) (Q (-1) V)) :
    z_MS (d + 1) 79 true [.inr (.inr 37), .inr (.inr a0)] V Q := by
  show z_Ex (z_MS d) 79 Q true 0 [some (.inr (.inr 37)), some (.inr (.inr a0))] [] 0 0 V
  refine ze_aload_n (pc := 0) zr_79_0 rfl ?_
  refine ze_getfield (pc := 1) (v := .inl (V 37 9)) zr_79_1 rfl rfl ?_
  refine ze_bipush (pc := 4) zr_79_4 (by decide) ?_
  refine zq_icmp_lt (pc := 6) (t := 11) zr_79_6 (by decide) (z_toif h) (fun h => ?_) (fun h => ?_)
  · refine ze_aload_n (pc := 11) zr_79_11 rfl ?_
    refine ze_getfield (pc := 12) (v := .inr (.inr 47)) zr_79_12 rfl rfl ?_
    refine ze_aload_n (pc := 15) zr_79_15 rfl ?_
    refine ze_getfield (pc := 16) (v := .inl (V 37 9)) zr_79_16 rfl rfl ?_
    refine ze_aload_n (pc := 19) zr_79_19 rfl ?_
    refine z_gk h (fun e20 h => ?_)
    refine z_gk h (fun x20 h => ?_)
    refine z_gk h (fun g20 h => ?_)
    refine zq_aastore (pc := 20) zr_79_20 (by decide) e20 x20 rfl g20 rfl h (fun W1 h => ?_)
    refine ze_aload_n (pc := 21) zr_79_21 rfl ?_
    refine ze_dup (pc := 22) zr_79_22 rfl ?_
    refine ze_getfield (pc := 23) (v := .inl (W1 37 9)) zr_79_23 rfl rfl ?_
    refine ze_iconst (pc := 26) zr_79_26 (by decide) ?_
    refine ze_iadd (pc := 27) zr_79_27 ?_
    refine zq_putI (pc := 28) zr_79_28 (by decide) rfl h (fun W2 h => ?_)
    refine ze_aload_n (pc := 31) zr_79_31 rfl ?_
    refine ze_getfield (pc := 32) (v := .inl (W2 37 9)) zr_79_32 rfl rfl ?_
    refine ze_iconst (pc := 35) zr_79_35 (by decide) ?_
    refine ze_isub (pc := 36) zr_79_36 ?_
    exact zq_ret1 (pc := 37) zr_79_37 rfl h
  · refine ze_iconst (pc := 9) zr_79_9 (by decide) ?_
    exact zq_ret1 (pc := 10) zr_79_10 rfl h
theorem zb80_37 {d : Nat} {Q : Int → z_M → Prop} (a0 : Int) (a1 : Int) {V : z_M}
    (h : zI ((V 37 11) < 7) (zGu (0 ≤ (V 37 11) ∧ (V 37 11) < 7) (∀ W1, W1 = z_up V 49 (V 37 11).toNat a0 → zGu (0 ≤ (W1 37 11) ∧ (W1 37 11) < 7) (∀ W2, W2 = z_up W1 50 (W1 37 11).toNat a1 → ∀ W3, W3 = z_up W2 37 11 (z_add (W2 37 11) 1) → Q (z_sub (W3 37 11) 1) W3))) (Q (-1) V)) :
    z_MS (d + 1) 80 true [.inr (.inr 37), .inl a0, .inl a1] V Q := by
  show z_Ex (z_MS d) 80 Q true 0 [some (.inr (.inr 37)), some (.inl a0), some (.inl a1)] [] 0 0 V
  refine ze_aload_n (pc := 0) zr_80_0 rfl ?_
  refine ze_getfield (pc := 1) (v := .inl (V 37 11)) zr_80_1 rfl rfl ?_
  refine ze_bipush (pc := 4) zr_80_4 (by decide) ?_
  refine zq_icmp_lt (pc := 6) (t := 11) zr_80_6 (by decide) (z_toif h) (fun h => ?_) (fun h => ?_)
  · refine ze_aload_n (pc := 11) zr_80_11 rfl ?_
    refine ze_getfield (pc := 12) (v := .inr (.inr 48)) zr_80_12 rfl rfl ?_
    refine ze_iconst (pc := 15) zr_80_15 (by decide) ?_
    refine zq_aaload (pc := 16) (v := .inr (.inr 49)) zr_80_16 (by decide) rfl (by decide) rfl ?_
    refine ze_aload_n (pc := 17) zr_80_17 rfl ?_
    refine ze_getfield (pc := 18) (v := .inl (V 37 11)) zr_80_18 rfl rfl ?_
    refine ze_iload_n (pc := 21) zr_80_21 rfl ?_
    refine z_gk h (fun g22 h => ?_)
    refine zq_iastore (pc := 22) zr_80_22 (by decide) rfl g22 rfl h (fun W1 h => ?_)
    refine ze_aload_n (pc := 23) zr_80_23 rfl ?_
    refine ze_getfield (pc := 24) (v := .inr (.inr 48)) zr_80_24 rfl rfl ?_
    refine ze_iconst (pc := 27) zr_80_27 (by decide) ?_
    refine zq_aaload (pc := 28) (v := .inr (.inr 50)) zr_80_28 (by decide) rfl (by decide) rfl ?_
    refine ze_aload_n (pc := 29) zr_80_29 rfl ?_
    refine ze_getfield (pc := 30) (v := .inl (W1 37 11)) zr_80_30 rfl rfl ?_
    refine ze_iload_n (pc := 33) zr_80_33 rfl ?_
    refine z_gk h (fun g34 h => ?_)
    refine zq_iastore (pc := 34) zr_80_34 (by decide) rfl g34 rfl h (fun W2 h => ?_)
    refine ze_aload_n (pc := 35) zr_80_35 rfl ?_
    refine ze_dup (pc := 36) zr_80_36 rfl ?_
    refine ze_getfield (pc := 37) (v := .inl (W2 37 11)) zr_80_37 rfl rfl ?_
    refine ze_iconst (pc := 40) zr_80_40 (by decide) ?_
    refine ze_iadd (pc := 41) zr_80_41 ?_
    refine zq_putI (pc := 42) zr_80_42 (by decide) rfl h (fun W3 h => ?_)
    refine ze_aload_n (pc := 45) zr_80_45 rfl ?_
    refine ze_getfield (pc := 46) (v := .inl (W3 37 11)) zr_80_46 rfl rfl ?_
    refine ze_iconst (pc := 49) zr_80_49 (by decide) ?_
    refine ze_isub (pc := 50) zr_80_50 ?_
    exact zq_ret1 (pc := 51) zr_80_51 rfl h
  · refine ze_iconst (pc := 9) zr_80_9 (by decide) ?_
    exact zq_ret1 (pc := 10) zr_80_10 rfl h
theorem zb81_37 {d : Nat} {Q : Int → z_M → Prop} (a0 : Int) {V : z_M}
    (h : zI ((V 37 12) < 8) (zGu (0 ≤ (V 37 12) ∧ (V 37 12) < 8) (∀ W1, W1 = z_up V 51 (V 37 12).toNat a0 → ∀ W2, W2 = z_up W1 37 12 (z_add (W1 37 12) 1) → Q (W2 37 12) W2)) (Q (-1) V)) :
    z_MS (d + 1) 81 true [.inr (.inr 37), .inl a0] V Q := by
  show z_Ex (z_MS d) 81 Q true 0 [some (.inr (.inr 37)), some (.inl a0)] [] 0 0 V
  refine ze_aload_n (pc := 0) zr_81_0 rfl ?_
  refine ze_getfield (pc := 1) (v := .inl (V 37 12)) zr_81_1 rfl rfl ?_
  refine ze_bipush (pc := 4) zr_81_4 (by decide) ?_
  refine zq_icmp_lt (pc := 6) (t := 11) zr_81_6 (by decide) (z_toif h) (fun h => ?_) (fun h => ?_)
  · refine ze_aload_n (pc := 11) zr_81_11 rfl ?_
    refine ze_getfield (pc := 12) (v := .inr (.inr 51)) zr_81_12 rfl rfl ?_
    refine ze_aload_n (pc := 15) zr_81_15 rfl ?_
    refine ze_getfield (pc := 16) (v := .inl (V 37 12)) zr_81_16 rfl rfl ?_
    refine ze_iload_n (pc := 19) zr_81_19 rfl ?_
    refine z_gk h (fun g20 h => ?_)
    refine zq_iastore (pc := 20) zr_81_20 (by decide) rfl g20 rfl h (fun W1 h => ?_)
    refine ze_aload_n (pc := 21) zr_81_21 rfl ?_
    refine ze_dup (pc := 22) zr_81_22 rfl ?_
    refine ze_getfield (pc := 23) (v := .inl (W1 37 12)) zr_81_23 rfl rfl ?_
    refine ze_iconst (pc := 26) zr_81_26 (by decide) ?_
    refine ze_iadd (pc := 27) zr_81_27 ?_
    refine zq_putI (pc := 28) zr_81_28 (by decide) rfl h (fun W2 h => ?_)
    refine ze_aload_n (pc := 31) zr_81_31 rfl ?_
    refine ze_getfield (pc := 32) (v := .inl (W2 37 12)) zr_81_32 rfl rfl ?_
    exact zq_ret1 (pc := 35) zr_81_35 rfl h
  · refine ze_iconst (pc := 9) zr_81_9 (by decide) ?_
    exact zq_ret1 (pc := 10) zr_81_10 rfl h
theorem zb82_37 {d : Nat} {Q : Int → z_M → Prop} (a0 : Int) {V : z_M}
    (h : z_Ex (z_MS d) 82 Q true 8 [some (.inr (.inr 37)), some (.inl a0), some (.inl (z_add (z_max a0 0) 1))] [] 0 0 V) :
    z_MS (d + 1) 82 true [.inr (.inr 37), .inl a0] V Q := by
  show z_Ex (z_MS d) 82 Q true 0 [some (.inr (.inr 37)), some (.inl a0), none] [] 0 0 V
  refine ze_iload_n (pc := 0) zr_82_0 rfl ?_
  refine ze_iconst (pc := 1) zr_82_1 (by decide) ?_
  refine zq_max (pc := 2) zr_82_2 (Nat.le_of_ble_eq_true rfl) ?_
  refine ze_iconst (pc := 5) zr_82_5 (by decide) ?_
  refine ze_iadd (pc := 6) zr_82_6 ?_
  refine zq_istore_n (pc := 7) (ls2 := [some (.inr (.inr 37)), some (.inl a0), some (.inl (z_add (z_max a0 0) 1))]) zr_82_7 rfl rfl ?_
  exact h
theorem zb82_37_p8 {d : Nat} {Q : Int → z_M → Prop} (o1 : Option z_V) (l2 : Int) {V : z_M}
    (h : zI (l2 < (V 37 11)) (zGu (0 ≤ l2 ∧ l2 < 7) (∀ x32 : Int, x32 = V 49 l2.toNat → zGu (0 ≤ (z_sub l2 1) ∧ (z_sub l2 1) < 7) (∀ W902, W902 = z_up V 49 (z_sub l2 1).toNat x32 → zGu (0 ≤ l2 ∧ l2 < 7) (∀ x50 : Int, x50 = W902 50 l2.toNat → zGu (0 ≤ (z_sub l2 1) ∧ (z_sub l2 1) < 7) (∀ W903, W903 = z_up W902 50 (z_sub l2 1).toNat x50 → z_Ex (z_MS d) 82 Q true 8 [some (.inr (.inr 37)), (cond (z_o2 o1) none o1), some (.inl (z_add l2 1))] [] 0 0 W903))))) (∀ W901, W901 = z_up V 37 11 (z_sub (V 37 11) 1) → Q 0 W901)) :
    z_Ex (z_MS d) 82 Q true 8 [some (.inr (.inr 37)), o1, some (.inl l2)] [] 0 0 V := by
  refine ze_iload_n (pc := 8) zr_82_8 rfl ?_
  refine ze_aload_n (pc := 9) zr_82_9 rfl ?_
  refine ze_getfield (pc := 10) (v := .inl (V 37 11)) zr_82_10 rfl rfl ?_
  refine zq_icmp_ge (pc := 13) (t := 58) zr_82_13 (by decide) (z_toif h) (fun h => ?_) (fun h => ?_)
  · refine ze_aload_n (pc := 16) zr_82_16 rfl ?_
    refine ze_getfield (pc := 17) (v := .inr (.inr 48)) zr_82_17 rfl rfl ?_
    refine ze_iconst (pc := 20) zr_82_20 (by decide) ?_
    refine zq_aaload (pc := 21) (v := .inr (.inr 49)) zr_82_21 (by decide) rfl (by decide) rfl ?_
    refine ze_iload_n (pc := 22) zr_82_22 rfl ?_
    refine ze_iconst (pc := 23) zr_82_23 (by decide) ?_
    refine ze_isub (pc := 24) zr_82_24 ?_
    refine ze_aload_n (pc := 25) zr_82_25 rfl ?_
    refine ze_getfield (pc := 26) (v := .inr (.inr 48)) zr_82_26 rfl rfl ?_
    refine ze_iconst (pc := 29) zr_82_29 (by decide) ?_
    refine zq_aaload (pc := 30) (v := .inr (.inr 49)) zr_82_30 (by decide) rfl (by decide) rfl ?_
    refine ze_iload_n (pc := 31) zr_82_31 rfl ?_
    refine z_gk h (fun g32 h => ?_)
    refine zl_iaload (pc := 32) zr_82_32 rfl rfl g32 h (fun x32 h => ?_)
    refine z_gk h (fun g33 h => ?_)
    refine zq_iastore (pc := 33) zr_82_33 (by decide) rfl g33 rfl h (fun W902 h => ?_)
    refine ze_aload_n (pc := 34) zr_82_34 rfl ?_
    refine ze_getfield (pc := 35) (v := .inr (.inr 48)) zr_82_35 rfl rfl ?_
    refine ze_iconst (pc := 38) zr_82_38 (by decide) ?_
    refine zq_aaload (pc := 39) (v := .inr (.inr 50)) zr_82_39 (by decide) rfl (by decide) rfl ?_
    refine ze_iload_n (pc := 40) zr_82_40 rfl ?_
    refine ze_iconst (pc := 41) zr_82_41 (by decide) ?_
    refine ze_isub (pc := 42) zr_82_42 ?_
    refine ze_aload_n (pc := 43) zr_82_43 rfl ?_
    refine ze_getfield (pc := 44) (v := .inr (.inr 48)) zr_82_44 rfl rfl ?_
    refine ze_iconst (pc := 47) zr_82_47 (by decide) ?_
    refine zq_aaload (pc := 48) (v := .inr (.inr 50)) zr_82_48 (by decide) rfl (by decide) rfl ?_
    refine ze_iload_n (pc := 49) zr_82_49 rfl ?_
    refine z_gk h (fun g50 h => ?_)
    refine zl_iaload (pc := 50) zr_82_50 rfl rfl g50 h (fun x50 h => ?_)
    refine z_gk h (fun g51 h => ?_)
    refine zq_iastore (pc := 51) zr_82_51 (by decide) rfl g51 rfl h (fun W903 h => ?_)
    refine zq_iinc (pc := 52) (ls2 := [some (.inr (.inr 37)), (cond (z_o2 o1) none o1), some (.inl (z_add l2 1))]) zr_82_52 rfl rfl rfl ?_
    refine ze_goto (pc := 55) (t := 8) zr_82_55 (by decide) ?_
    exact h
  · refine ze_aload_n (pc := 58) zr_82_58 rfl ?_
    refine ze_dup (pc := 59) zr_82_59 rfl ?_
    refine ze_getfield (pc := 60) (v := .inl (V 37 11)) zr_82_60 rfl rfl ?_
    refine ze_iconst (pc := 63) zr_82_63 (by decide) ?_
    refine ze_isub (pc := 64) zr_82_64 ?_
    refine zq_putI (pc := 65) zr_82_65 (by decide) rfl h (fun W901 h => ?_)
    exact ze_vret (pc := 68) zr_82_68 rfl h
theorem zb83_37 {d : Nat} {Q : Int → z_M → Prop} (a0 : Int) {V : z_M}
    (h : z_Ex (z_MS d) 83 Q true 4 [some (.inr (.inr 37)), some (.inl a0), some (.inl 0), some (.inl 0)] [] 0 0 V) :
    z_MS (d + 1) 83 true [.inr (.inr 37), .inl a0] V Q := by
  show z_Ex (z_MS d) 83 Q true 0 [some (.inr (.inr 37)), some (.inl a0), none, none] [] 0 0 V
  refine ze_iconst (pc := 0) zr_83_0 (by decide) ?_
  refine zq_istore_n (pc := 1) (ls2 := [some (.inr (.inr 37)), some (.inl a0), some (.inl 0), none]) zr_83_1 rfl rfl ?_
  refine ze_iconst (pc := 2) zr_83_2 (by decide) ?_
  refine zq_istore_n (pc := 3) (ls2 := [some (.inr (.inr 37)), some (.inl a0), some (.inl 0), some (.inl 0)]) zr_83_3 rfl rfl ?_
  exact h
theorem zb83_37_p4 {d : Nat} {Q : Int → z_M → Prop} (l1 : Int) (l2 : Int) (l3 : Int) {V : z_M}
    (h : zI (l1 < l3) (Q l2 V) (zI (l3 < (V 37 7)) (zGu (0 ≤ l3 ∧ l3 < 12) (∀ x25 : Int, x25 = V 39 l3.toNat → z_Ex (z_MS d) 83 Q true 4 [some (.inr (.inr 37)), some (.inl l1), some (.inl (z_add l2 x25)), some (.inl (z_add l3 1))] [] 0 0 V)) (Q l2 V))) :
    z_Ex (z_MS d) 83 Q true 4 [some (.inr (.inr 37)), some (.inl l1), some (.inl l2), some (.inl l3)] [] 0 0 V := by
  refine ze_iload_n (pc := 4) zr_83_4 rfl ?_
  refine ze_iload_n (pc := 5) zr_83_5 rfl ?_
  refine zq_icmp_gt (pc := 6) (t := 34) zr_83_6 (by decide) (z_toif h) (fun h => ?_) (fun h => ?_)
  · refine ze_iload_n (pc := 34) zr_83_34 rfl ?_
    exact zq_ret1 (pc := 35) zr_83_35 rfl h
  · refine ze_iload_n (pc := 9) zr_83_9 rfl ?_
    refine ze_aload_n (pc := 10) zr_83_10 rfl ?_
    refine ze_getfield (pc := 11) (v := .inl (V 37 7)) zr_83_11 rfl rfl ?_
    refine zq_icmp_ge (pc := 14) (t := 34) zr_83_14 (by decide) (z_toif h) (fun h => ?_) (fun h => ?_)
    · refine ze_iload_n (pc := 17) zr_83_17 rfl ?_
      refine ze_aload_n (pc := 18) zr_83_18 rfl ?_
      refine ze_getfield (pc := 19) (v := .inr (.inr 38)) zr_83_19 rfl rfl ?_
      refine ze_iconst (pc := 22) zr_83_22 (by decide) ?_
      refine zq_aaload (pc := 23) (v := .inr (.inr 39)) zr_83_23 (by decide) rfl (by decide) rfl ?_
      refine ze_iload_n (pc := 24) zr_83_24 rfl ?_
      refine z_gk h (fun g25 h => ?_)
      refine zl_iaload (pc := 25) zr_83_25 rfl rfl g25 h (fun x25 h => ?_)
      refine ze_iadd (pc := 26) zr_83_26 ?_
      refine zq_istore_n (pc := 27) (ls2 := [some (.inr (.inr 37)), some (.inl l1), some (.inl (z_add l2 x25)), some (.inl l3)]) zr_83_27 rfl rfl ?_
      refine zq_iinc (pc := 28) (ls2 := [some (.inr (.inr 37)), some (.inl l1), some (.inl (z_add l2 x25)), some (.inl (z_add l3 1))]) zr_83_28 rfl rfl rfl ?_
      refine ze_goto (pc := 31) (t := 4) zr_83_31 (by decide) ?_
      exact h
    · refine ze_iload_n (pc := 34) zr_83_34 rfl ?_
      exact zq_ret1 (pc := 35) zr_83_35 rfl h
theorem zb84_37 {d : Nat} {Q : Int → z_M → Prop}  {V : z_M}
    (h : z_Ex (z_MS d) 84 Q true 4 [some (.inr (.inr 37)), some (.inl 0), some (.inl 0)] [] 0 0 V) :
    z_MS (d + 1) 84 true [.inr (.inr 37)] V Q := by
  show z_Ex (z_MS d) 84 Q true 0 [some (.inr (.inr 37)), none, none] [] 0 0 V
  refine ze_iconst (pc := 0) zr_84_0 (by decide) ?_
  refine zq_istore_n (pc := 1) (ls2 := [some (.inr (.inr 37)), some (.inl 0), none]) zr_84_1 rfl rfl ?_
  refine ze_iconst (pc := 2) zr_84_2 (by decide) ?_
  refine zq_istore_n (pc := 3) (ls2 := [some (.inr (.inr 37)), some (.inl 0), some (.inl 0)]) zr_84_3 rfl rfl ?_
  exact h
theorem zb84_37_p4 {d : Nat} {Q : Int → z_M → Prop} (l1 : Int) (l2 : Int) {V : z_M}
    (h : zI (l2 < (V 37 7)) (zGu (0 ≤ l2 ∧ l2 < 12) (∀ x20 : Int, x20 = V 42 l2.toNat → z_Ex (z_MS d) 84 Q true 4 [some (.inr (.inr 37)), some (.inl (z_add l1 x20)), some (.inl (z_add l2 1))] [] 0 0 V)) (Q l1 V)) :
    z_Ex (z_MS d) 84 Q true 4 [some (.inr (.inr 37)), some (.inl l1), some (.inl l2)] [] 0 0 V := by
  refine ze_iload_n (pc := 4) zr_84_4 rfl ?_
  refine ze_aload_n (pc := 5) zr_84_5 rfl ?_
  refine ze_getfield (pc := 6) (v := .inl (V 37 7)) zr_84_6 rfl rfl ?_
  refine zq_icmp_ge (pc := 9) (t := 29) zr_84_9 (by decide) (z_toif h) (fun h => ?_) (fun h => ?_)
  · refine ze_iload_n (pc := 12) zr_84_12 rfl ?_
    refine ze_aload_n (pc := 13) zr_84_13 rfl ?_
    refine ze_getfield (pc := 14) (v := .inr (.inr 38)) zr_84_14 rfl rfl ?_
    refine ze_iconst (pc := 17) zr_84_17 (by decide) ?_
    refine zq_aaload (pc := 18) (v := .inr (.inr 42)) zr_84_18 (by decide) rfl (by decide) rfl ?_
    refine ze_iload_n (pc := 19) zr_84_19 rfl ?_
    refine z_gk h (fun g20 h => ?_)
    refine zl_iaload (pc := 20) zr_84_20 rfl rfl g20 h (fun x20 h => ?_)
    refine ze_iadd (pc := 21) zr_84_21 ?_
    refine zq_istore_n (pc := 22) (ls2 := [some (.inr (.inr 37)), some (.inl (z_add l1 x20)), some (.inl l2)]) zr_84_22 rfl rfl ?_
    refine zq_iinc (pc := 23) (ls2 := [some (.inr (.inr 37)), some (.inl (z_add l1 x20)), some (.inl (z_add l2 1))]) zr_84_23 rfl rfl rfl ?_
    refine ze_goto (pc := 26) (t := 4) zr_84_26 (by decide) ?_
    exact h
  · refine ze_iload_n (pc := 29) zr_84_29 rfl ?_
    exact zq_ret1 (pc := 30) zr_84_30 rfl h
theorem zb85_37 {d : Nat} {Q : Int → z_M → Prop}  {V : z_M}
    (h : z_MS d 133 true [.inl (V 37 10), .inl 0, .inl (z_sub (V 37 9) 1)] V (fun z1 V1 => zI (z1 = 0) (Q (0 : Nat) V1) (zGu (0 ≤ (V1 37 10) ∧ (V1 37 10) < 6) (∀ x25 : Nat, x25 = z_rr true V1 47 (V1 37 10).toNat → zGu (¬ x25 = 7) (Q (x25 : Nat) V1))))) :
    z_MS (d + 1) 85 true [.inr (.inr 37)] V Q := by
  show z_Ex (z_MS d) 85 Q true 0 [some (.inr (.inr 37))] [] 0 0 V
  refine ze_aload_n (pc := 0) zr_85_0 rfl ?_
  refine ze_getfield (pc := 1) (v := .inl (V 37 10)) zr_85_1 rfl rfl ?_
  refine ze_iconst (pc := 4) zr_85_4 (by decide) ?_
  refine ze_aload_n (pc := 5) zr_85_5 rfl ?_
  refine ze_getfield (pc := 6) (v := .inl (V 37 9)) zr_85_6 rfl rfl ?_
  refine ze_iconst (pc := 9) zr_85_9 (by decide) ?_
  refine ze_isub (pc := 10) zr_85_10 ?_
  refine zq_callS1 (pc := 11) (as := [.inl (V 37 10), .inl 0, .inl (z_sub (V 37 9) 1)]) (r := []) (kc2 := 0) (ks2 := 0) zr_85_11 rfl rfl rfl rfl ⟨rfl, rfl⟩ ⟨rfl, rfl, rfl⟩ h (fun z1 V1 h => ?_)
  refine zq_if_eq (pc := 14) (t := 29) zr_85_14 (by decide) (z_toif h) (fun h => ?_) (fun h => ?_)
  · refine ze_null (pc := 29) zr_85_29 ?_
    exact ze_aret (pc := 30) zr_85_30 (by decide) h
  · refine ze_aload_n (pc := 17) zr_85_17 rfl ?_
    refine ze_getfield (pc := 18) (v := .inr (.inr 47)) zr_85_18 rfl rfl ?_
    refine ze_aload_n (pc := 21) zr_85_21 rfl ?_
    refine ze_getfield (pc := 22) (v := .inl (V1 37 10)) zr_85_22 rfl rfl ?_
    refine z_gk h (fun g25 h => ?_)
    refine zl_aaload (pc := 25) zr_85_25 (by decide) rfl g25 h (fun x25 h => ?_)
    refine ze_goto (pc := 26) (t := 30) zr_85_26 (by decide) ?_
    refine z_gk h (fun g30 h => ?_)
    exact ze_aret (pc := 30) zr_85_30 ⟨rfl, g30⟩ h
theorem zb86_37 {d : Nat} {Q : Int → z_M → Prop}  {V : z_M}
    (h : z_Ex (z_MS d) 86 Q true 4 [some (.inr (.inr 37)), some (.inl 0), some (.inl 0)] [] 0 0 V) :
    z_MS (d + 1) 86 true [.inr (.inr 37)] V Q := by
  show z_Ex (z_MS d) 86 Q true 0 [some (.inr (.inr 37)), none, none] [] 0 0 V
  refine ze_iconst (pc := 0) zr_86_0 (by decide) ?_
  refine zq_istore_n (pc := 1) (ls2 := [some (.inr (.inr 37)), some (.inl 0), none]) zr_86_1 rfl rfl ?_
  refine ze_iconst (pc := 2) zr_86_2 (by decide) ?_
  refine zq_istore_n (pc := 3) (ls2 := [some (.inr (.inr 37)), some (.inl 0), some (.inl 0)]) zr_86_3 rfl rfl ?_
  exact h
theorem zb86_37_p4 {d : Nat} {Q : Int → z_M → Prop} (l1 : Int) (l2 : Int) {V : z_M}
    (h : zI (l2 < (V 37 11)) (zGu (0 ≤ l2 ∧ l2 < 7) (∀ x21 : Int, x21 = V 49 l2.toNat → z_Ex (z_MS d) 86 Q true 4 [some (.inr (.inr 37)), some (.inl (z_or l1 (z_shl 1 x21))), some (.inl (z_add l2 1))] [] 0 0 V)) (Q l1 V)) :
    z_Ex (z_MS d) 86 Q true 4 [some (.inr (.inr 37)), some (.inl l1), some (.inl l2)] [] 0 0 V := by
  refine ze_iload_n (pc := 4) zr_86_4 rfl ?_
  refine ze_aload_n (pc := 5) zr_86_5 rfl ?_
  refine ze_getfield (pc := 6) (v := .inl (V 37 11)) zr_86_6 rfl rfl ?_
  refine zq_icmp_ge (pc := 9) (t := 31) zr_86_9 (by decide) (z_toif h) (fun h => ?_) (fun h => ?_)
  · refine ze_iload_n (pc := 12) zr_86_12 rfl ?_
    refine ze_iconst (pc := 13) zr_86_13 (by decide) ?_
    refine ze_aload_n (pc := 14) zr_86_14 rfl ?_
    refine ze_getfield (pc := 15) (v := .inr (.inr 48)) zr_86_15 rfl rfl ?_
    refine ze_iconst (pc := 18) zr_86_18 (by decide) ?_
    refine zq_aaload (pc := 19) (v := .inr (.inr 49)) zr_86_19 (by decide) rfl (by decide) rfl ?_
    refine ze_iload_n (pc := 20) zr_86_20 rfl ?_
    refine z_gk h (fun g21 h => ?_)
    refine zl_iaload (pc := 21) zr_86_21 rfl rfl g21 h (fun x21 h => ?_)
    refine ze_ishl (pc := 22) zr_86_22 ?_
    refine ze_ior (pc := 23) zr_86_23 ?_
    refine zq_istore_n (pc := 24) (ls2 := [some (.inr (.inr 37)), some (.inl (z_or l1 (z_shl 1 x21))), some (.inl l2)]) zr_86_24 rfl rfl ?_
    refine zq_iinc (pc := 25) (ls2 := [some (.inr (.inr 37)), some (.inl (z_or l1 (z_shl 1 x21))), some (.inl (z_add l2 1))]) zr_86_25 rfl rfl rfl ?_
    refine ze_goto (pc := 28) (t := 4) zr_86_28 (by decide) ?_
    exact h
  · refine ze_iload_n (pc := 31) zr_86_31 rfl ?_
    exact zq_ret1 (pc := 32) zr_86_32 rfl h
theorem zb87_37_124 {d : Nat} {Q : Int → z_M → Prop}  {V : z_M}
    (h : zI (7 < (V 37 7)) (Q 0 V) (z_Ex (z_MS d) 87 Q true 12 [some (.inr (.inr 37)), some (.inr (.inr 124)), some (.inl 0), none] [] 0 0 V)) :
    z_MS (d + 1) 87 true [.inr (.inr 37), .inr (.inr 124)] V Q := by
  show z_Ex (z_MS d) 87 Q true 0 [some (.inr (.inr 37)), some (.inr (.inr 124)), none, none] [] 0 0 V
  refine ze_aload_n (pc := 0) zr_87_0 rfl ?_
  refine ze_length (pc := 1) (z := 7) zr_87_1 (by decide) rfl ?_
  refine ze_aload_n (pc := 2) zr_87_2 rfl ?_
  refine ze_getfield (pc := 3) (v := .inl (V 37 7)) zr_87_3 rfl rfl ?_
  refine zq_icmp_ge (pc := 6) (t := 10) zr_87_6 (by decide) (z_toif h) (fun h => ?_) (fun h => ?_)
  · exact ze_vret (pc := 9) zr_87_9 rfl h
  · refine ze_iconst (pc := 10) zr_87_10 (by decide) ?_
    refine zq_istore_n (pc := 11) (ls2 := [some (.inr (.inr 37)), some (.inr (.inr 124)), some (.inl 0), none]) zr_87_11 rfl rfl ?_
    exact h
theorem zb87_37_124_p12 {d : Nat} {Q : Int → z_M → Prop} (l2 : Int) (o3 : Option z_V) {V : z_M}
    (h : zI (3 < l2) (z_Ex (z_MS d) 87 Q true 86 [some (.inr (.inr 37)), some (.inr (.inr 124)), some (.inl 0), o3] [] 0 0 V) (zGu (0 ≤ l2 ∧ l2 < 4) (∀ x22 : Nat, x22 = z_rr true V 38 l2.toNat → zGu (z_kd x22 = 101 ∧ z_kd 52 = 101 ∧ 36 ≤ 52 ∧ z_sum [] ≤ 8) (zGu (0 ≤ (V 37 7) ∧ 0 ≤ (0 : Int) ∧ 0 ≤ (0 : Int) ∧ (0 : Int) + (V 37 7) ≤ z_len' V x22 ∧ (0 : Int) + (V 37 7) ≤ 12) (∀ W1301, W1301 = z_cpy V x22 0 52 0 (V 37 7).toNat → z_Ex (z_MS d) 87 Q true 38 [some (.inr (.inr 37)), some (.inr (.inr 124)), some (.inl l2), some (.inl 0)] [] 0 0 W1301))))) :
    z_Ex (z_MS d) 87 Q true 12 [some (.inr (.inr 37)), some (.inr (.inr 124)), some (.inl l2), o3] [] 0 0 V := by
  refine ze_iload_n (pc := 12) zr_87_12 rfl ?_
  refine ze_iconst (pc := 13) zr_87_13 (by decide) ?_
  refine zq_icmp_gt (pc := 14) (t := 84) zr_87_14 (by decide) (z_toif h) (fun h => ?_) (fun h => ?_)
  · refine ze_iconst (pc := 84) zr_87_84 (by decide) ?_
    refine zq_istore_n (pc := 85) (ls2 := [some (.inr (.inr 37)), some (.inr (.inr 124)), some (.inl 0), o3]) zr_87_85 rfl rfl ?_
    exact h
  · refine ze_aload_n (pc := 17) zr_87_17 rfl ?_
    refine ze_getfield (pc := 18) (v := .inr (.inr 38)) zr_87_18 rfl rfl ?_
    refine ze_iload_n (pc := 21) zr_87_21 rfl ?_
    refine z_gk h (fun g22 h => ?_)
    refine zl_aaload (pc := 22) zr_87_22 (by decide) rfl g22 h (fun x22 h => ?_)
    refine ze_iconst (pc := 23) zr_87_23 (by decide) ?_
    refine ze_aload_n (pc := 24) zr_87_24 rfl ?_
    refine ze_getfield (pc := 25) (v := .inr (.inr 52)) zr_87_25 rfl rfl ?_
    refine ze_iconst (pc := 28) zr_87_28 (by decide) ?_
    refine ze_aload_n (pc := 29) zr_87_29 rfl ?_
    refine ze_getfield (pc := 30) (v := .inl (V 37 7)) zr_87_30 rfl rfl ?_
    refine z_gk h (fun k33 h => ?_)
    refine z_gk h (fun g33 h => ?_)
    refine zq_acopyv (pc := 33) zr_87_33 k33 g33 rfl rfl rfl h (fun W1301 h => ?_)
    refine ze_iconst (pc := 36) zr_87_36 (by decide) ?_
    refine zq_istore_n (pc := 37) (ls2 := [some (.inr (.inr 37)), some (.inr (.inr 124)), some (.inl l2), some (.inl 0)]) zr_87_37 rfl rfl ?_
    exact h
theorem zb87_37_124_p38 {d : Nat} {Q : Int → z_M → Prop} (l2 : Int) (l3 : Int) {V : z_M}
    (h : zI (l3 < (V 37 7)) (zGu (0 ≤ l3 ∧ l3 < 7) (∀ x49 : Int, x49 = V 124 l3.toNat → z_MS d 75 true [.inr (.inr 37), .inl x49] V (fun z3901 V3901 => zI (z3901 = 0) (z_Ex (z_MS d) 87 Q true 38 [some (.inr (.inr 37)), some (.inr (.inr 124)), some (.inl l2), some (.inl (z_add l3 1))] [] 0 0 V3901) (zGu (0 ≤ l2 ∧ l2 < 4) (∀ x61 : Nat, x61 = z_rr true V3901 38 l2.toNat → zGu (0 ≤ l3 ∧ l3 < 7) (∀ x69 : Int, x69 = V3901 124 l3.toNat → zGu (0 ≤ x69 ∧ x69 < 12) (∀ x70 : Int, x70 = V3901 52 x69.toNat → zGu (z_kd x61 = 101 ∧ 36 ≤ x61) (zGu (0 ≤ l3 ∧ l3 < z_len' V3901 x61) (∀ W3901, W3901 = z_up V3901 x61 l3.toNat x70 → z_Ex (z_MS d) 87 Q true 38 [some (.inr (.inr 37)), some (.inr (.inr 124)), some (.inl l2), some (.inl (z_add l3 1))] [] 0 0 W3901))))))))) (z_Ex (z_MS d) 87 Q true 12 [some (.inr (.inr 37)), some (.inr (.inr 124)), some (.inl (z_add l2 1)), some (.inl l3)] [] 0 0 V)) :
    z_Ex (z_MS d) 87 Q true 38 [some (.inr (.inr 37)), some (.inr (.inr 124)), some (.inl l2), some (.inl l3)] [] 0 0 V := by
  refine ze_iload_n (pc := 38) zr_87_38 rfl ?_
  refine ze_aload_n (pc := 39) zr_87_39 rfl ?_
  refine ze_getfield (pc := 40) (v := .inl (V 37 7)) zr_87_40 rfl rfl ?_
  refine zq_icmp_ge (pc := 43) (t := 78) zr_87_43 (by decide) (z_toif h) (fun h => ?_) (fun h => ?_)
  · refine ze_aload_n (pc := 46) zr_87_46 rfl ?_
    refine ze_aload_n (pc := 47) zr_87_47 rfl ?_
    refine ze_iload_n (pc := 48) zr_87_48 rfl ?_
    refine z_gk h (fun g49 h => ?_)
    refine zl_iaload (pc := 49) zr_87_49 rfl rfl g49 h (fun x49 h => ?_)
    refine zq_callV1 (pc := 50) (as := [.inr (.inr 37), .inl x49]) (r := []) (kc2 := 0) (ks2 := 0) zr_87_50 rfl (by decide) rfl rfl rfl rfl ⟨rfl, rfl⟩ ⟨rfl, rfl, rfl⟩ h (fun z3901 V3901 h => ?_)
    refine zq_if_eq (pc := 53) (t := 72) zr_87_53 (by decide) (z_toif h) (fun h => ?_) (fun h => ?_)
    · refine zq_iinc (pc := 72) (ls2 := [some (.inr (.inr 37)), some (.inr (.inr 124)), some (.inl l2), some (.inl (z_add l3 1))]) zr_87_72 rfl rfl rfl ?_
      refine ze_goto (pc := 75) (t := 38) zr_87_75 (by decide) ?_
      exact h
    · refine ze_aload_n (pc := 56) zr_87_56 rfl ?_
      refine ze_getfield (pc := 57) (v := .inr (.inr 38)) zr_87_57 rfl rfl ?_
      refine ze_iload_n (pc := 60) zr_87_60 rfl ?_
      refine z_gk h (fun g61 h => ?_)
      refine zl_aaload (pc := 61) zr_87_61 (by decide) rfl g61 h (fun x61 h => ?_)
      refine ze_iload_n (pc := 62) zr_87_62 rfl ?_
      refine ze_aload_n (pc := 63) zr_87_63 rfl ?_
      refine ze_getfield (pc := 64) (v := .inr (.inr 52)) zr_87_64 rfl rfl ?_
      refine ze_aload_n (pc := 67) zr_87_67 rfl ?_
      refine ze_iload_n (pc := 68) zr_87_68 rfl ?_
      refine z_gk h (fun g69 h => ?_)
      refine zl_iaload (pc := 69) zr_87_69 rfl rfl g69 h (fun x69 h => ?_)
      refine z_gk h (fun g70 h => ?_)
      refine zl_iaload (pc := 70) zr_87_70 rfl rfl g70 h (fun x70 h => ?_)
      refine z_gk h (fun k71 h => ?_)
      refine z_gk h (fun g71 h => ?_)
      refine zq_iastorev (pc := 71) zr_87_71 k71 g71 rfl h (fun W3901 h => ?_)
      refine zq_iinc (pc := 72) (ls2 := [some (.inr (.inr 37)), some (.inr (.inr 124)), some (.inl l2), some (.inl (z_add l3 1))]) zr_87_72 rfl rfl rfl ?_
      refine ze_goto (pc := 75) (t := 38) zr_87_75 (by decide) ?_
      exact h
  · refine zq_iinc (pc := 78) (ls2 := [some (.inr (.inr 37)), some (.inr (.inr 124)), some (.inl (z_add l2 1)), some (.inl l3)]) zr_87_78 rfl rfl rfl ?_
    refine ze_goto (pc := 81) (t := 12) zr_87_81 (by decide) ?_
    exact h
theorem zb87_37_124_p86 {d : Nat} {Q : Int → z_M → Prop} (l2 : Int) (o3 : Option z_V) {V : z_M}
    (h : zI (l2 < (V 37 11)) (zGu (0 ≤ l2 ∧ l2 < 7) (∀ x110 : Int, x110 = V 50 l2.toNat → z_MS d 88 true [.inr (.inr 37), .inr (.inr 124), .inl x110] V (fun z8701 V8701 => zGu (0 ≤ l2 ∧ l2 < 7) (∀ W8701, W8701 = z_up V8701 50 l2.toNat z8701 → z_Ex (z_MS d) 87 Q true 86 [some (.inr (.inr 37)), some (.inr (.inr 124)), some (.inl (z_add l2 1)), o3] [] 0 0 W8701)))) (Q 0 V)) :
    z_Ex (z_MS d) 87 Q true 86 [some (.inr (.inr 37)), some (.inr (.inr 124)), some (.inl l2), o3] [] 0 0 V := by
  refine ze_iload_n (pc := 86) zr_87_86 rfl ?_
  refine ze_aload_n (pc := 87) zr_87_87 rfl ?_
  refine ze_getfield (pc := 88) (v := .inl (V 37 11)) zr_87_88 rfl rfl ?_
  refine zq_icmp_ge (pc := 91) (t := 121) zr_87_91 (by decide) (z_toif h) (fun h => ?_) (fun h => ?_)
  · refine ze_aload_n (pc := 94) zr_87_94 rfl ?_
    refine ze_getfield (pc := 95) (v := .inr (.inr 48)) zr_87_95 rfl rfl ?_
    refine ze_iconst (pc := 98) zr_87_98 (by decide) ?_
    refine zq_aaload (pc := 99) (v := .inr (.inr 50)) zr_87_99 (by decide) rfl (by decide) rfl ?_
    refine ze_iload_n (pc := 100) zr_87_100 rfl ?_
    refine ze_aload_n (pc := 101) zr_87_101 rfl ?_
    refine ze_aload_n (pc := 102) zr_87_102 rfl ?_
    refine ze_aload_n (pc := 103) zr_87_103 rfl ?_
    refine ze_getfield (pc := 104) (v := .inr (.inr 48)) zr_87_104 rfl rfl ?_
    refine ze_iconst (pc := 107) zr_87_107 (by decide) ?_
    refine zq_aaload (pc := 108) (v := .inr (.inr 50)) zr_87_108 (by decide) rfl (by decide) rfl ?_
    refine ze_iload_n (pc := 109) zr_87_109 rfl ?_
    refine z_gk h (fun g110 h => ?_)
    refine zl_iaload (pc := 110) zr_87_110 rfl rfl g110 h (fun x110 h => ?_)
    refine zq_callV1 (pc := 111) (as := [.inr (.inr 37), .inr (.inr 124), .inl x110]) (r := [.inl l2, .inr (.inr 50)]) (kc2 := 0) (ks2 := 0) zr_87_111 rfl (by decide) rfl rfl rfl rfl ⟨rfl, rfl⟩ ⟨rfl, rfl, rfl⟩ h (fun z8701 V8701 h => ?_)
    refine z_gk h (fun g114 h => ?_)
    refine zq_iastore (pc := 114) zr_87_114 (by decide) rfl g114 rfl h (fun W8701 h => ?_)
    refine zq_iinc (pc := 115) (ls2 := [some (.inr (.inr 37)), some (.inr (.inr 124)), some (.inl (z_add l2 1)), o3]) zr_87_115 rfl rfl rfl ?_
    refine ze_goto (pc := 118) (t := 86) zr_87_118 (by decide) ?_
    exact h
  · exact ze_vret (pc := 121) zr_87_121 rfl h
