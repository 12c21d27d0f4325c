/-! blocks of rows: printed by a program (blk2.py) -/
theorem zb207_141 {d : Nat} {Q : Int → z_M → Prop} (a0 : Int) (a1 : Int) (a2 : Int) {V : z_M}
    (h : z_Ex (z_MS d) 207 Q true 3 [some (.inr (.inr 141)), some (.inl a0), some (.inl a1), some (.inl a2), some (.inl 0), none, none, none] [] 0 0 V) :
    z_MS (d + 1) 207 true [.inr (.inr 141), .inl a0, .inl a1, .inl a2] V Q := by
  show z_Ex (z_MS d) 207 Q true 0 [some (.inr (.inr 141)), some (.inl a0), some (.inl a1), some (.inl a2), none, none, none, none] [] 0 0 V
  refine ze_iconst (pc := 0) zr_207_0 (by decide) ?_
  refine zq_istore (pc := 1) (ls2 := [some (.inr (.inr 141)), some (.inl a0), some (.inl a1), some (.inl a2), some (.inl 0), none, none, none]) zr_207_1 rfl rfl ?_
  exact h
theorem zb207_141_p3 {d : Nat} {Q : Int → z_M → Prop} (l1 : Int) (l2 : Int) (l3 : Int) (l4 : Int) {V : z_M}
    (h : zI (l4 < 13) (zGu (0 ≤ l4 ∧ l4 < 13) (∀ W401, W401 = z_up V 159 l4.toNat (if l4 = l2 then 0 else -1) → z_Ex (z_MS d) 207 Q true 3 [some (.inr (.inr 141)), some (.inl l1), some (.inl l2), some (.inl l3), some (.inl (z_add l4 1)), none, none, none] [] 0 0 W401)) (z_Ex (z_MS d) 207 Q true 37 [some (.inr (.inr 141)), some (.inl l1), some (.inl l2), some (.inl l3), some (.inl 0), none, none, none] [] 0 0 V)) :
    z_Ex (z_MS d) 207 Q true 3 [some (.inr (.inr 141)), some (.inl l1), some (.inl l2), some (.inl l3), some (.inl l4), none, none, none] [] 0 0 V := by
  refine ze_iload (pc := 3) zr_207_3 rfl ?_
  refine ze_bipush (pc := 5) zr_207_5 (by decide) ?_
  refine zq_icmp_ge (pc := 7) (t := 34) zr_207_7 (by decide) (z_toif h) (fun h => ?_) (fun h => ?_)
  · refine ze_aload_n (pc := 10) zr_207_10 rfl ?_
    refine ze_getfield (pc := 11) (v := .inr (.inr 159)) zr_207_11 rfl rfl ?_
    refine ze_iload (pc := 14) zr_207_14 rfl ?_
    refine ze_iload (pc := 16) zr_207_16 rfl ?_
    refine ze_iload_n (pc := 18) zr_207_18 rfl ?_
    have j19 : z_Ex (z_MS d) 207 Q true 27 [some (.inr (.inr 141)), some (.inl l1), some (.inl l2), some (.inl l3), some (.inl l4), none, none, none] [.inl (if l4 = l2 then 0 else -1), .inl l4, .inr (.inr 159)] 0 0 V := by
      refine z_gk h (fun g27 h => ?_)
      refine zq_iastore (pc := 27) zr_207_27 (by decide) rfl g27 rfl h (fun W401 h => ?_)
      refine zq_iinc (pc := 28) (ls2 := [some (.inr (.inr 141)), some (.inl l1), some (.inl l2), some (.inl l3), some (.inl (z_add l4 1)), none, none, none]) zr_207_28 rfl rfl rfl ?_
      refine ze_goto (pc := 31) (t := 3) zr_207_31 (by decide) ?_
      exact h
    refine ze_icmp_ne (pc := 19) (t := 26) zr_207_19 (by decide) (fun hc => ?_) (fun hc => ?_)
    · rw [if_pos (show l4 = l2 from hc)] at j19
      refine ze_iconst (pc := 22) zr_207_22 (by decide) ?_
      refine ze_goto (pc := 23) (t := 27) zr_207_23 (by decide) ?_
      exact j19
    · rw [if_neg (show ¬ (l4 = l2) from hc)] at j19
      refine ze_iconst (pc := 26) zr_207_26 (by decide) ?_
      exact j19
  · refine ze_iconst (pc := 34) zr_207_34 (by decide) ?_
    refine zq_istore (pc := 35) (ls2 := [some (.inr (.inr 141)), some (.inl l1), some (.inl l2), some (.inl l3), some (.inl 0), none, none, none]) zr_207_35 rfl rfl ?_
    exact h
theorem zb207_141_p37 {d : Nat} {Q : Int → z_M → Prop} (l1 : Int) (o2 : Option z_V) (l3 : Int) (l4 : Int) (o5 : Option z_V) (o6 : Option z_V) (o7 : Option z_V) {V : z_M}
    (h : zI (l4 < 13) (z_Ex (z_MS d) 207 Q true 47 [some (.inr (.inr 141)), some (.inl l1), o2, some (.inl l3), some (.inl l4), some (.inl 0), o6, o7] [] 0 0 V) (Q 0 V)) :
    z_Ex (z_MS d) 207 Q true 37 [some (.inr (.inr 141)), some (.inl l1), o2, some (.inl l3), some (.inl l4), o5, o6, o7] [] 0 0 V := by
  refine ze_iload (pc := 37) zr_207_37 rfl ?_
  refine ze_bipush (pc := 39) zr_207_39 (by decide) ?_
  refine zq_icmp_ge (pc := 41) (t := 179) zr_207_41 (by decide) (z_toif h) (fun h => ?_) (fun h => ?_)
  · refine ze_iconst (pc := 44) zr_207_44 (by decide) ?_
    refine zq_istore (pc := 45) (ls2 := [some (.inr (.inr 141)), some (.inl l1), o2, some (.inl l3), some (.inl l4), some (.inl 0), o6, o7]) zr_207_45 rfl rfl ?_
    exact h
  · exact ze_vret (pc := 179) zr_207_179 rfl h
theorem zb207_141_p47 {d : Nat} {Q : Int → z_M → Prop} (l1 : Int) (o2 : Option z_V) (l3 : Int) (l4 : Int) (l5 : Int) (o6 : Option z_V) (o7 : Option z_V) {V : z_M}
    (h : z_MS d 154 true [.inr (.inr 141)] V (fun z4801 V4801 => zI (z4801 < l5) (z_Ex (z_MS d) 207 Q true 37 [some (.inr (.inr 141)), some (.inl l1), o2, some (.inl l3), some (.inl (z_add l4 1)), some (.inl l5), o6, o7] [] 0 0 V4801) (z_Ex (z_MS d) 207 Q true 59 [some (.inr (.inr 141)), some (.inl l1), o2, some (.inl l3), some (.inl l4), some (.inl l5), some (.inl 0), o7] [] 0 0 V4801))) :
    z_Ex (z_MS d) 207 Q true 47 [some (.inr (.inr 141)), some (.inl l1), o2, some (.inl l3), some (.inl l4), some (.inl l5), o6, o7] [] 0 0 V := by
  refine ze_iload (pc := 47) zr_207_47 rfl ?_
  refine ze_aload_n (pc := 49) zr_207_49 rfl ?_
  refine zq_callV1 (pc := 50) (as := [.inr (.inr 141)]) (r := [.inl l5]) (kc2 := 0) (ks2 := 0) zr_207_50 rfl (by decide) rfl rfl rfl rfl ⟨rfl, rfl⟩ ⟨rfl, rfl, rfl⟩ h (fun z4801 V4801 h => ?_)
  refine zq_icmp_gt (pc := 53) (t := 173) zr_207_53 (by decide) (z_toif h) (fun h => ?_) (fun h => ?_)
  · refine zq_iinc (pc := 173) (ls2 := [some (.inr (.inr 141)), some (.inl l1), o2, some (.inl l3), some (.inl (z_add l4 1)), some (.inl l5), o6, o7]) zr_207_173 rfl rfl rfl ?_
    refine ze_goto (pc := 176) (t := 37) zr_207_176 (by decide) ?_
    exact h
  · refine ze_iconst (pc := 56) zr_207_56 (by decide) ?_
    refine zq_istore (pc := 57) (ls2 := [some (.inr (.inr 141)), some (.inl l1), o2, some (.inl l3), some (.inl l4), some (.inl l5), some (.inl 0), o7]) zr_207_57 rfl rfl ?_
    exact h
theorem zb207_141_p59 {d : Nat} {Q : Int → z_M → Prop} (l1 : Int) (o2 : Option z_V) (l3 : Int) (l4 : Int) (l5 : Int) (l6 : Int) (o7 : Option z_V) {V : z_M}
    (h : z_MS d 154 true [.inr (.inr 141)] V (fun z6001 V6001 => zI (z6001 < l6) (z_Ex (z_MS d) 207 Q true 47 [some (.inr (.inr 141)), some (.inl l1), o2, some (.inl l3), some (.inl l4), some (.inl (z_add l5 1)), some (.inl l6), o7] [] 0 0 V6001) (zGu (0 ≤ l5 ∧ l5 < 13) (∀ x74 : Int, x74 = V6001 159 l5.toNat → zI (x74 = l4) (zI (l6 = 0) (z_Ex (z_MS d) 207 Q true 110 [some (.inr (.inr 141)), some (.inl l1), o2, some (.inl l3), some (.inl l4), some (.inl l5), some (.inl l6), o7] [.inl 1] 0 0 V6001) (z_MS d 146 true [.inl l3, .inl (if l6 = 0 then 0 else z_sub l6 1)] V6001 (fun z6002 V6002 => z_Ex (z_MS d) 207 Q true 110 [some (.inr (.inr 141)), some (.inl l1), o2, some (.inl l3), some (.inl l4), some (.inl l5), some (.inl l6), o7] [.inl (if z6002 = 0 then 0 else 1)] 0 0 V6002))) (z_Ex (z_MS d) 207 Q true 47 [some (.inr (.inr 141)), some (.inl l1), o2, some (.inl l3), some (.inl l4), some (.inl (z_add l5 1)), some (.inl l6), o7] [] 0 0 V6001))))) :
    z_Ex (z_MS d) 207 Q true 59 [some (.inr (.inr 141)), some (.inl l1), o2, some (.inl l3), some (.inl l4), some (.inl l5), some (.inl l6), o7] [] 0 0 V := by
  refine ze_iload (pc := 59) zr_207_59 rfl ?_
  refine ze_aload_n (pc := 61) zr_207_61 rfl ?_
  refine zq_callV1 (pc := 62) (as := [.inr (.inr 141)]) (r := [.inl l6]) (kc2 := 0) (ks2 := 0) zr_207_62 rfl (by decide) rfl rfl rfl rfl ⟨rfl, rfl⟩ ⟨rfl, rfl, rfl⟩ h (fun z6001 V6001 h => ?_)
  refine zq_icmp_gt (pc := 65) (t := 167) zr_207_65 (by decide) (z_toif h) (fun h => ?_) (fun h => ?_)
  · refine zq_iinc (pc := 167) (ls2 := [some (.inr (.inr 141)), some (.inl l1), o2, some (.inl l3), some (.inl l4), some (.inl (z_add l5 1)), some (.inl l6), o7]) zr_207_167 rfl rfl rfl ?_
    refine ze_goto (pc := 170) (t := 47) zr_207_170 (by decide) ?_
    exact h
  · refine ze_aload_n (pc := 68) zr_207_68 rfl ?_
    refine ze_getfield (pc := 69) (v := .inr (.inr 159)) zr_207_69 rfl rfl ?_
    refine ze_iload (pc := 72) zr_207_72 rfl ?_
    refine z_gk h (fun g74 h => ?_)
    refine zl_iaload (pc := 74) zr_207_74 rfl rfl g74 h (fun x74 h => ?_)
    refine ze_iload (pc := 75) zr_207_75 rfl ?_
    refine zq_icmp_ne (pc := 77) (t := 167) zr_207_77 (by decide) (z_toif h) (fun h => ?_) (fun h => ?_)
    · refine ze_iload (pc := 80) zr_207_80 rfl ?_
      refine zq_if_eq (pc := 82) (t := 105) zr_207_82 (by decide) (z_toif h) (fun h => ?_) (fun h => ?_)
      · refine ze_iconst (pc := 105) zr_207_105 (by decide) ?_
        refine ze_goto (pc := 106) (t := 110) zr_207_106 (by decide) ?_
        exact h
      · refine ze_iload_n (pc := 85) zr_207_85 rfl ?_
        refine ze_iload (pc := 86) zr_207_86 rfl ?_
        have j88 : z_Ex (z_MS d) 207 Q true 99 [some (.inr (.inr 141)), some (.inl l1), o2, some (.inl l3), some (.inl l4), some (.inl l5), some (.inl l6), o7] [.inl (if l6 = 0 then 0 else z_sub l6 1), .inl l3] 0 0 V6001 := by
          refine zq_callS1 (pc := 99) (as := [.inl l3, .inl (if l6 = 0 then 0 else z_sub l6 1)]) (r := []) (kc2 := 0) (ks2 := 0) zr_207_99 rfl rfl rfl rfl ⟨rfl, rfl⟩ ⟨rfl, rfl, rfl⟩ h (fun z6002 V6002 h => ?_)
          have j102 : z_Ex (z_MS d) 207 Q true 110 [some (.inr (.inr 141)), some (.inl l1), o2, some (.inl l3), some (.inl l4), some (.inl l5), some (.inl l6), o7] [.inl (if z6002 = 0 then 0 else 1)] 0 0 V6002 := by
            exact h
          refine ze_if_eq (pc := 102) (t := 109) zr_207_102 (by decide) (fun hc => ?_) (fun hc => ?_)
          · rw [if_pos (show z6002 = 0 from hc)] at j102
            refine ze_iconst (pc := 109) zr_207_109 (by decide) ?_
            exact j102
          · rw [if_neg (show ¬ (z6002 = 0) from hc)] at j102
            refine ze_iconst (pc := 105) zr_207_105 (by decide) ?_
            refine ze_goto (pc := 106) (t := 110) zr_207_106 (by decide) ?_
            exact j102
        refine ze_if_ne (pc := 88) (t := 95) zr_207_88 (by decide) (fun hc => ?_) (fun hc => ?_)
        · rw [if_pos (show l6 = 0 from hc)] at j88
          refine ze_iconst (pc := 91) zr_207_91 (by decide) ?_
          refine ze_goto (pc := 92) (t := 99) zr_207_92 (by decide) ?_
          exact j88
        · rw [if_neg (show ¬ (l6 = 0) from hc)] at j88
          refine ze_iload (pc := 95) zr_207_95 rfl ?_
          refine ze_iconst (pc := 97) zr_207_97 (by decide) ?_
          refine ze_isub (pc := 98) zr_207_98 ?_
          exact j88
    · refine zq_iinc (pc := 167) (ls2 := [some (.inr (.inr 141)), some (.inl l1), o2, some (.inl l3), some (.inl l4), some (.inl (z_add l5 1)), some (.inl l6), o7]) zr_207_167 rfl rfl rfl ?_
      refine ze_goto (pc := 170) (t := 47) zr_207_170 (by decide) ?_
      exact h
theorem zb207_141_p110 {d : Nat} {Q : Int → z_M → Prop} (l1 : Int) (o2 : Option z_V) (l3 : Int) (l4 : Int) (l5 : Int) (l6 : Int) (o7 : Option z_V) (s0 : Int) {V : z_M}
    (h : zGu (0 ≤ l6 ∧ l6 < 13) (∀ x124 : Int, x124 = V 159 l6.toNat → zI (x124 = (-1)) (zI (s0 = 0) (z_Ex (z_MS d) 207 Q true 153 [some (.inr (.inr 141)), some (.inl l1), o2, some (.inl l3), some (.inl l4), some (.inl l5), some (.inl l6), some (.inl s0)] [.inl l6, .inr (.inr 159)] 0 0 V) (z_MS d 206 true [.inr (.inr 141), .inl l1, .inl l5, .inl l6] V (fun z11101 V11101 => zI (z11101 = 0) (z_Ex (z_MS d) 207 Q true 153 [some (.inr (.inr 141)), some (.inl l1), o2, some (.inl l3), some (.inl l4), some (.inl l5), some (.inl l6), some (.inl s0)] [.inl l6, .inr (.inr 159)] 0 0 V11101) (z_Ex (z_MS d) 207 Q true 160 [some (.inr (.inr 141)), some (.inl l1), o2, some (.inl l3), some (.inl l4), some (.inl l5), some (.inl l6), some (.inl s0)] [.inl (z_add l4 1), .inl l6, .inr (.inr 159)] 0 0 V11101)))) (z_Ex (z_MS d) 207 Q true 153 [some (.inr (.inr 141)), some (.inl l1), o2, some (.inl l3), some (.inl l4), some (.inl l5), some (.inl l6), some (.inl s0)] [.inl l6, .inr (.inr 159)] 0 0 V))) :
    z_Ex (z_MS d) 207 Q true 110 [some (.inr (.inr 141)), some (.inl l1), o2, some (.inl l3), some (.inl l4), some (.inl l5), some (.inl l6), o7] [.inl s0] 0 0 V := by
  refine zq_istore (pc := 110) (ls2 := [some (.inr (.inr 141)), some (.inl l1), o2, some (.inl l3), some (.inl l4), some (.inl l5), some (.inl l6), some (.inl s0)]) zr_207_110 rfl rfl ?_
  refine ze_aload_n (pc := 112) zr_207_112 rfl ?_
  refine ze_getfield (pc := 113) (v := .inr (.inr 159)) zr_207_113 rfl rfl ?_
  refine ze_iload (pc := 116) zr_207_116 rfl ?_
  refine ze_aload_n (pc := 118) zr_207_118 rfl ?_
  refine ze_getfield (pc := 119) (v := .inr (.inr 159)) zr_207_119 rfl rfl ?_
  refine ze_iload (pc := 122) zr_207_122 rfl ?_
  refine z_gk h (fun g124 h => ?_)
  refine zl_iaload (pc := 124) zr_207_124 rfl rfl g124 h (fun x124 h => ?_)
  refine ze_iconst (pc := 125) zr_207_125 (by decide) ?_
  refine zq_icmp_ne (pc := 126) (t := 153) zr_207_126 (by decide) (z_toif h) (fun h => ?_) (fun h => ?_)
  · refine ze_iload (pc := 129) zr_207_129 rfl ?_
    refine zq_if_eq (pc := 131) (t := 153) zr_207_131 (by decide) (z_toif h) (fun h => ?_) (fun h => ?_)
    · exact h
    · refine ze_aload_n (pc := 134) zr_207_134 rfl ?_
      refine ze_iload_n (pc := 135) zr_207_135 rfl ?_
      refine ze_iload (pc := 136) zr_207_136 rfl ?_
      refine ze_iload (pc := 138) zr_207_138 rfl ?_
      refine zq_callV1 (pc := 140) (as := [.inr (.inr 141), .inl l1, .inl l5, .inl l6]) (r := [.inl l6, .inr (.inr 159)]) (kc2 := 0) (ks2 := 0) zr_207_140 rfl (by decide) rfl rfl rfl rfl ⟨rfl, rfl⟩ ⟨rfl, rfl, rfl⟩ h (fun z11101 V11101 h => ?_)
      refine zq_if_eq (pc := 143) (t := 153) zr_207_143 (by decide) (z_toif h) (fun h => ?_) (fun h => ?_)
      · exact h
      · refine ze_iload (pc := 146) zr_207_146 rfl ?_
        refine ze_iconst (pc := 148) zr_207_148 (by decide) ?_
        refine ze_iadd (pc := 149) zr_207_149 ?_
        refine ze_goto (pc := 150) (t := 160) zr_207_150 (by decide) ?_
        exact h
  · exact h
theorem zb207_141_p153 {d : Nat} {Q : Int → z_M → Prop} (l1 : Int) (o2 : Option z_V) (l3 : Int) (l4 : Int) (l5 : Int) (l6 : Int) (o7 : Option z_V) (s1 : Int) {V : z_M}
    (h : zGu (0 ≤ l6 ∧ l6 < 13) (∀ x159 : Int, x159 = V 159 l6.toNat → z_Ex (z_MS d) 207 Q true 160 [some (.inr (.inr 141)), some (.inl l1), o2, some (.inl l3), some (.inl l4), some (.inl l5), some (.inl l6), o7] [.inl x159, .inl s1, .inr (.inr 159)] 0 0 V)) :
    z_Ex (z_MS d) 207 Q true 153 [some (.inr (.inr 141)), some (.inl l1), o2, some (.inl l3), some (.inl l4), some (.inl l5), some (.inl l6), o7] [.inl s1, .inr (.inr 159)] 0 0 V := by
  refine ze_aload_n (pc := 153) zr_207_153 rfl ?_
  refine ze_getfield (pc := 154) (v := .inr (.inr 159)) zr_207_154 rfl rfl ?_
  refine ze_iload (pc := 157) zr_207_157 rfl ?_
  refine z_gk h (fun g159 h => ?_)
  refine zl_iaload (pc := 159) zr_207_159 rfl rfl g159 h (fun x159 h => ?_)
  exact h
theorem zb207_141_p160 {d : Nat} {Q : Int → z_M → Prop} (l1 : Int) (o2 : Option z_V) (l3 : Int) (l4 : Int) (l5 : Int) (l6 : Int) (o7 : Option z_V) (s1 : Int) (s2 : Int) {V : z_M}
    (h : zGu (0 ≤ s1 ∧ s1 < 13) (∀ W16101, W16101 = z_up V 159 s1.toNat s2 → z_Ex (z_MS d) 207 Q true 59 [some (.inr (.inr 141)), some (.inl l1), o2, some (.inl l3), some (.inl l4), some (.inl l5), some (.inl (z_add l6 1)), o7] [] 0 0 W16101)) :
    z_Ex (z_MS d) 207 Q true 160 [some (.inr (.inr 141)), some (.inl l1), o2, some (.inl l3), some (.inl l4), some (.inl l5), some (.inl l6), o7] [.inl s2, .inl s1, .inr (.inr 159)] 0 0 V := by
  refine z_gk h (fun g160 h => ?_)
  refine zq_iastore (pc := 160) zr_207_160 (by decide) rfl g160 rfl h (fun W16101 h => ?_)
  refine zq_iinc (pc := 161) (ls2 := [some (.inr (.inr 141)), some (.inl l1), o2, some (.inl l3), some (.inl l4), some (.inl l5), some (.inl (z_add l6 1)), o7]) zr_207_161 rfl rfl rfl ?_
  refine ze_goto (pc := 164) (t := 59) zr_207_164 (by decide) ?_
  exact h
theorem zb208_141 {d : Nat} {Q : Int → z_M → Prop} (a0 : Int) {V : z_M}
    (h : zGu (0 ≤ a0 ∧ a0 < 6) (∀ x5 : Int, x5 = V 157 a0.toNat → Q (z_and x5 (z_xor (V 141 36) (-1))) V)) :
    z_MS (d + 1) 208 true [.inr (.inr 141), .inl a0] V Q := by
  show z_Ex (z_MS d) 208 Q true 0 [some (.inr (.inr 141)), some (.inl a0)] [] 0 0 V
  refine ze_aload_n (pc := 0) zr_208_0 rfl ?_
  refine ze_getfield (pc := 1) (v := .inr (.inr 157)) zr_208_1 rfl rfl ?_
  refine ze_iload_n (pc := 4) zr_208_4 rfl ?_
  refine z_gk h (fun g5 h => ?_)
  refine zl_iaload (pc := 5) zr_208_5 rfl rfl g5 h (fun x5 h => ?_)
  refine ze_aload_n (pc := 6) zr_208_6 rfl ?_
  refine ze_getfield (pc := 7) (v := .inl (V 141 36)) zr_208_7 rfl rfl ?_
  refine ze_iconst (pc := 10) zr_208_10 (by decide) ?_
  refine ze_ixor (pc := 11) zr_208_11 ?_
  refine ze_iand (pc := 12) zr_208_12 ?_
  exact zq_ret1 (pc := 13) zr_208_13 rfl h
theorem zb209_141 {d : Nat} {Q : Int → z_M → Prop} (a0 : Int) (a1 : Int) {V : z_M}
    (h : z_MS d 207 true [.inr (.inr 141), .inl a0, .inl 0, .inl a1] V (fun z1 V1 => z_MS d 154 true [.inr (.inr 141)] V1 (fun z2 V2 => zGu (0 ≤ z2 ∧ z2 < 13) (∀ x15 : Int, x15 = V2 159 z2.toNat → Q (if x15 = (-1) then 0 else 1) V2)))) :
    z_MS (d + 1) 209 true [.inr (.inr 141), .inl a0, .inl a1] V Q := by
  show z_Ex (z_MS d) 209 Q true 0 [some (.inr (.inr 141)), some (.inl a0), some (.inl a1)] [] 0 0 V
  refine ze_aload_n (pc := 0) zr_209_0 rfl ?_
  refine ze_iload_n (pc := 1) zr_209_1 rfl ?_
  refine ze_iconst (pc := 2) zr_209_2 (by decide) ?_
  refine ze_iload_n (pc := 3) zr_209_3 rfl ?_
  refine zq_callV0 (pc := 4) (as := [.inr (.inr 141), .inl a0, .inl 0, .inl a1]) (r := []) (kc2 := 0) (ks2 := 0) zr_209_4 rfl (by decide) rfl rfl rfl rfl ⟨rfl, rfl⟩ rfl h (fun z1 V1 h => ?_)
  refine ze_aload_n (pc := 7) zr_209_7 rfl ?_
  refine ze_getfield (pc := 8) (v := .inr (.inr 159)) zr_209_8 rfl rfl ?_
  refine ze_aload_n (pc := 11) zr_209_11 rfl ?_
  refine zq_callV1 (pc := 12) (as := [.inr (.inr 141)]) (r := [.inr (.inr 159)]) (kc2 := 0) (ks2 := 0) zr_209_12 rfl (by decide) rfl rfl rfl rfl ⟨rfl, rfl⟩ ⟨rfl, rfl, rfl⟩ h (fun z2 V2 h => ?_)
  refine z_gk h (fun g15 h => ?_)
  refine zl_iaload (pc := 15) zr_209_15 rfl rfl g15 h (fun x15 h => ?_)
  refine ze_iconst (pc := 16) zr_209_16 (by decide) ?_
  have j17 : z_Ex (z_MS d) 209 Q true 25 [some (.inr (.inr 141)), some (.inl a0), some (.inl a1)] [.inl (if x15 = (-1) then 0 else 1)] 0 0 V2 := by
    exact zq_ret4 (pc := 25) zr_209_25 rfl (by (repeat' split) <;> decide) h
  refine ze_icmp_eq (pc := 17) (t := 24) zr_209_17 (by decide) (fun hc => ?_) (fun hc => ?_)
  · rw [if_pos (show x15 = (-1) from hc)] at j17
    refine ze_iconst (pc := 24) zr_209_24 (by decide) ?_
    exact j17
  · rw [if_neg (show ¬ (x15 = (-1)) from hc)] at j17
    refine ze_iconst (pc := 20) zr_209_20 (by decide) ?_
    refine ze_goto (pc := 21) (t := 25) zr_209_21 (by decide) ?_
    exact j17
theorem zb210_141 {d : Nat} {Q : Int → z_M → Prop} (a0 : Int) {V : z_M}
    (h : ∀ W1, W1 = z_up V 141 0 0 → z_MS d 156 true [.inr (.inr 141), .inl a0] W1 (fun z1 V1 => zI (z1 = 0) (Q (-1) V1) (z_MS d 201 true [.inr (.inr 141)] V1 (fun z2 V2 => z_MS d 208 true [.inr (.inr 141), .inl a0] V2 (fun z3 V3 => z_MS d 207 true [.inr (.inr 141), .inl a0, .inl 0, .inl z3] V3 (fun z4 V4 => z_Ex (z_MS d) 210 Q true 34 [some (.inr (.inr 141)), some (.inl a0), some (.inl 0), some (.inl 0)] [] 0 0 V4)))))) :
    z_MS (d + 1) 210 true [.inr (.inr 141), .inl a0] V Q := by
  show z_Ex (z_MS d) 210 Q true 0 [some (.inr (.inr 141)), some (.inl a0), none, none] [] 0 0 V
  refine ze_aload_n (pc := 0) zr_210_0 rfl ?_
  refine ze_iconst (pc := 1) zr_210_1 (by decide) ?_
  refine zq_putI (pc := 2) zr_210_2 (by decide) rfl h (fun W1 h => ?_)
  refine ze_aload_n (pc := 5) zr_210_5 rfl ?_
  refine ze_iload_n (pc := 6) zr_210_6 rfl ?_
  refine zq_callV1 (pc := 7) (as := [.inr (.inr 141), .inl a0]) (r := []) (kc2 := 0) (ks2 := 0) zr_210_7 rfl (by decide) rfl rfl rfl rfl ⟨rfl, rfl⟩ ⟨rfl, rfl, rfl⟩ h (fun z1 V1 h => ?_)
  refine zq_if_ne (pc := 10) (t := 15) zr_210_10 (by decide) (z_toif h) (fun h => ?_) (fun h => ?_)
  · refine ze_iconst (pc := 13) zr_210_13 (by decide) ?_
    exact zq_ret1 (pc := 14) zr_210_14 rfl h
  · refine ze_aload_n (pc := 15) zr_210_15 rfl ?_
    refine zq_callV0 (pc := 16) (as := [.inr (.inr 141)]) (r := []) (kc2 := 0) (ks2 := 0) zr_210_16 rfl (by decide) rfl rfl rfl rfl ⟨rfl, rfl⟩ rfl h (fun z2 V2 h => ?_)
    refine ze_aload_n (pc := 19) zr_210_19 rfl ?_
    refine ze_iload_n (pc := 20) zr_210_20 rfl ?_
    refine ze_iconst (pc := 21) zr_210_21 (by decide) ?_
    refine ze_aload_n (pc := 22) zr_210_22 rfl ?_
    refine ze_iload_n (pc := 23) zr_210_23 rfl ?_
    refine zq_callV1 (pc := 24) (as := [.inr (.inr 141), .inl a0]) (r := [.inl 0, .inl a0, .inr (.inr 141)]) (kc2 := 0) (ks2 := 0) zr_210_24 rfl (by decide) rfl rfl rfl rfl ⟨rfl, rfl⟩ ⟨rfl, rfl, rfl⟩ h (fun z3 V3 h => ?_)
    refine zq_callV0 (pc := 27) (as := [.inr (.inr 141), .inl a0, .inl 0, .inl z3]) (r := []) (kc2 := 0) (ks2 := 0) zr_210_27 rfl (by decide) rfl rfl rfl rfl ⟨rfl, rfl⟩ rfl h (fun z4 V4 h => ?_)
    refine ze_iconst (pc := 30) zr_210_30 (by decide) ?_
    refine zq_istore_n (pc := 31) (ls2 := [some (.inr (.inr 141)), some (.inl a0), some (.inl 0), none]) zr_210_31 rfl rfl ?_
    refine ze_iconst (pc := 32) zr_210_32 (by decide) ?_
    refine zq_istore_n (pc := 33) (ls2 := [some (.inr (.inr 141)), some (.inl a0), some (.inl 0), some (.inl 0)]) zr_210_33 rfl rfl ?_
    exact h
theorem zb210_141_p34 {d : Nat} {Q : Int → z_M → Prop} (o1 : Option z_V) (l2 : Int) (l3 : Int) {V : z_M}
    (h : z_MS d 154 true [.inr (.inr 141)] V (fun z3501 V3501 => zI (l3 < z3501) (zGu (0 ≤ (z_add l3 1) ∧ (z_add l3 1) < 13) (∀ x50 : Int, x50 = V3501 159 (z_add l3 1).toNat → z_Ex (z_MS d) 210 Q true 34 [some (.inr (.inr 141)), (cond (z_o2 o1) none o1), some (.inl (z_or l2 (if x50 = (-1) then 0 else z_shl 1 l3))), some (.inl (z_add l3 1))] [] 0 0 V3501)) (Q l2 V3501))) :
    z_Ex (z_MS d) 210 Q true 34 [some (.inr (.inr 141)), o1, some (.inl l2), some (.inl l3)] [] 0 0 V := by
  refine ze_iload_n (pc := 34) zr_210_34 rfl ?_
  refine ze_aload_n (pc := 35) zr_210_35 rfl ?_
  refine zq_callV1 (pc := 36) (as := [.inr (.inr 141)]) (r := [.inl l3]) (kc2 := 0) (ks2 := 0) zr_210_36 rfl (by decide) rfl rfl rfl rfl ⟨rfl, rfl⟩ ⟨rfl, rfl, rfl⟩ h (fun z3501 V3501 h => ?_)
  refine zq_icmp_ge (pc := 39) (t := 70) zr_210_39 (by decide) (z_toif h) (fun h => ?_) (fun h => ?_)
  · refine ze_iload_n (pc := 42) zr_210_42 rfl ?_
    refine ze_aload_n (pc := 43) zr_210_43 rfl ?_
    refine ze_getfield (pc := 44) (v := .inr (.inr 159)) zr_210_44 rfl rfl ?_
    refine ze_iload_n (pc := 47) zr_210_47 rfl ?_
    refine ze_iconst (pc := 48) zr_210_48 (by decide) ?_
    refine ze_iadd (pc := 49) zr_210_49 ?_
    refine z_gk h (fun g50 h => ?_)
    refine zl_iaload (pc := 50) zr_210_50 rfl rfl g50 h (fun x50 h => ?_)
    refine ze_iconst (pc := 51) zr_210_51 (by decide) ?_
    have j52 : z_Ex (z_MS d) 210 Q true 62 [some (.inr (.inr 141)), o1, some (.inl l2), some (.inl l3)] [.inl (if x50 = (-1) then 0 else z_shl 1 l3), .inl l2] 0 0 V3501 := by
      refine ze_ior (pc := 62) zr_210_62 ?_
      refine zq_istore_n (pc := 63) (ls2 := [some (.inr (.inr 141)), (cond (z_o2 o1) none o1), some (.inl (z_or l2 (if x50 = (-1) then 0 else z_shl 1 l3))), some (.inl l3)]) zr_210_63 rfl rfl ?_
      refine zq_iinc (pc := 64) (ls2 := [some (.inr (.inr 141)), (cond (z_o2 o1) none o1), some (.inl (z_or l2 (if x50 = (-1) then 0 else z_shl 1 l3))), some (.inl (z_add l3 1))]) zr_210_64 rfl rfl rfl ?_
      refine ze_goto (pc := 67) (t := 34) zr_210_67 (by decide) ?_
      exact h
    refine ze_icmp_eq (pc := 52) (t := 61) zr_210_52 (by decide) (fun hc => ?_) (fun hc => ?_)
    · rw [if_pos (show x50 = (-1) from hc)] at j52
      refine ze_iconst (pc := 61) zr_210_61 (by decide) ?_
      exact j52
    · rw [if_neg (show ¬ (x50 = (-1)) from hc)] at j52
      refine ze_iconst (pc := 55) zr_210_55 (by decide) ?_
      refine ze_iload_n (pc := 56) zr_210_56 rfl ?_
      refine ze_ishl (pc := 57) zr_210_57 ?_
      refine ze_goto (pc := 58) (t := 62) zr_210_58 (by decide) ?_
      exact j52
  · refine ze_iload_n (pc := 70) zr_210_70 rfl ?_
    exact zq_ret1 (pc := 71) zr_210_71 rfl h
theorem zb211_141 {d : Nat} {Q : Int → z_M → Prop} (a0 : Int) (a1 : Int) {V : z_M}
    (h : z_MS d 208 true [.inr (.inr 141), .inl a0] V (fun z1 V1 => z_Ex (z_MS d) 211 Q true 9 [some (.inr (.inr 141)), some (.inl a0), some (.inl a1), some (.inl z1), some (.inl 0), none, none, none] [] 0 0 V1)) :
    z_MS (d + 1) 211 true [.inr (.inr 141), .inl a0, .inl a1] V Q := by
  show z_Ex (z_MS d) 211 Q true 0 [some (.inr (.inr 141)), some (.inl a0), some (.inl a1), none, none, none, none, none] [] 0 0 V
  refine ze_aload_n (pc := 0) zr_211_0 rfl ?_
  refine ze_iload_n (pc := 1) zr_211_1 rfl ?_
  refine zq_callV1 (pc := 2) (as := [.inr (.inr 141), .inl a0]) (r := []) (kc2 := 0) (ks2 := 0) zr_211_2 rfl (by decide) rfl rfl rfl rfl ⟨rfl, rfl⟩ ⟨rfl, rfl, rfl⟩ h (fun z1 V1 h => ?_)
  refine zq_istore_n (pc := 5) (ls2 := [some (.inr (.inr 141)), some (.inl a0), some (.inl a1), some (.inl z1), none, none, none, none]) zr_211_5 rfl rfl ?_
  refine ze_iconst (pc := 6) zr_211_6 (by decide) ?_
  refine zq_istore (pc := 7) (ls2 := [some (.inr (.inr 141)), some (.inl a0), some (.inl a1), some (.inl z1), some (.inl 0), none, none, none]) zr_211_7 rfl rfl ?_
  exact h
theorem zb211_141_p9 {d : Nat} {Q : Int → z_M → Prop} (l1 : Int) (l2 : Int) (l3 : Int) (l4 : Int) (o5 : Option z_V) {V : z_M}
    (h : z_MS d 154 true [.inr (.inr 141)] V (fun z1001 V1001 => zI (z1001 < l4) (zGu (0 ≤ (z_add l2 1) ∧ (z_add l2 1) < 169) (∀ x75 : Int, x75 = V1001 161 (z_add l2 1).toNat → z_Ex (z_MS d) 211 Q true 84 [some (.inr (.inr 141)), some (.inl l1), some (.inl l2), some (.inl l3), some (.inl x75), some (.inl 0), some (.inl 1), none] [] 0 0 V1001)) (z_MS d 207 true [.inr (.inr 141), .inl l1, .inl l4, .inl l3] V1001 (fun z1002 V1002 => z_Ex (z_MS d) 211 Q true 29 [some (.inr (.inr 141)), some (.inl l1), some (.inl l2), some (.inl l3), some (.inl l4), some (.inl 0), none, none] [] 0 0 V1002)))) :
    z_Ex (z_MS d) 211 Q true 9 [some (.inr (.inr 141)), some (.inl l1), some (.inl l2), some (.inl l3), some (.inl l4), o5, none, none] [] 0 0 V := by
  refine ze_iload (pc := 9) zr_211_9 rfl ?_
  refine ze_aload_n (pc := 11) zr_211_11 rfl ?_
  refine zq_callV1 (pc := 12) (as := [.inr (.inr 141)]) (r := [.inl l4]) (kc2 := 0) (ks2 := 0) zr_211_12 rfl (by decide) rfl rfl rfl rfl ⟨rfl, rfl⟩ ⟨rfl, rfl, rfl⟩ h (fun z1001 V1001 h => ?_)
  refine zq_icmp_gt (pc := 15) (t := 68) zr_211_15 (by decide) (z_toif h) (fun h => ?_) (fun h => ?_)
  · refine ze_aload_n (pc := 68) zr_211_68 rfl ?_
    refine ze_getfield (pc := 69) (v := .inr (.inr 161)) zr_211_69 rfl rfl ?_
    refine ze_iload_n (pc := 72) zr_211_72 rfl ?_
    refine ze_iconst (pc := 73) zr_211_73 (by decide) ?_
    refine ze_iadd (pc := 74) zr_211_74 ?_
    refine z_gk h (fun g75 h => ?_)
    refine zl_iaload (pc := 75) zr_211_75 rfl rfl g75 h (fun x75 h => ?_)
    refine zq_istore (pc := 76) (ls2 := [some (.inr (.inr 141)), some (.inl l1), some (.inl l2), some (.inl l3), some (.inl x75), o5, none, none]) zr_211_76 rfl rfl ?_
    refine ze_iconst (pc := 78) zr_211_78 (by decide) ?_
    refine zq_istore (pc := 79) (ls2 := [some (.inr (.inr 141)), some (.inl l1), some (.inl l2), some (.inl l3), some (.inl x75), some (.inl 0), none, none]) zr_211_79 rfl rfl ?_
    refine ze_iconst (pc := 81) zr_211_81 (by decide) ?_
    refine zq_istore (pc := 82) (ls2 := [some (.inr (.inr 141)), some (.inl l1), some (.inl l2), some (.inl l3), some (.inl x75), some (.inl 0), some (.inl 1), none]) zr_211_82 rfl rfl ?_
    exact h
  · refine ze_aload_n (pc := 18) zr_211_18 rfl ?_
    refine ze_iload_n (pc := 19) zr_211_19 rfl ?_
    refine ze_iload (pc := 20) zr_211_20 rfl ?_
    refine ze_iload_n (pc := 22) zr_211_22 rfl ?_
    refine zq_callV0 (pc := 23) (as := [.inr (.inr 141), .inl l1, .inl l4, .inl l3]) (r := []) (kc2 := 0) (ks2 := 0) zr_211_23 rfl (by decide) rfl rfl rfl rfl ⟨rfl, rfl⟩ rfl h (fun z1002 V1002 h => ?_)
    refine ze_iconst (pc := 26) zr_211_26 (by decide) ?_
    refine zq_istore (pc := 27) (ls2 := [some (.inr (.inr 141)), some (.inl l1), some (.inl l2), some (.inl l3), some (.inl l4), some (.inl 0), none, none]) zr_211_27 rfl rfl ?_
    exact h
theorem zb211_141_p29 {d : Nat} {Q : Int → z_M → Prop} (l1 : Int) (l2 : Int) (l3 : Int) (l4 : Int) (l5 : Int) {V : z_M}
    (h : zI (l5 < 13) (zGu (0 ≤ l5 ∧ l5 < 13) (∀ x54 : Int, x54 = V 159 l5.toNat → zGu (0 ≤ (z_add (z_mul 13 l4) l5) ∧ (z_add (z_mul 13 l4) l5) < 169) (∀ W3001, W3001 = z_up V 161 (z_add (z_mul 13 l4) l5).toNat x54 → z_Ex (z_MS d) 211 Q true 29 [some (.inr (.inr 141)), some (.inl l1), some (.inl l2), some (.inl l3), some (.inl l4), some (.inl (z_add l5 1)), none, none] [] 0 0 W3001))) (z_Ex (z_MS d) 211 Q true 9 [some (.inr (.inr 141)), some (.inl l1), some (.inl l2), some (.inl l3), some (.inl (z_add l4 1)), some (.inl l5), none, none] [] 0 0 V)) :
    z_Ex (z_MS d) 211 Q true 29 [some (.inr (.inr 141)), some (.inl l1), some (.inl l2), some (.inl l3), some (.inl l4), some (.inl l5), none, none] [] 0 0 V := by
  refine ze_iload (pc := 29) zr_211_29 rfl ?_
  refine ze_bipush (pc := 31) zr_211_31 (by decide) ?_
  refine zq_icmp_ge (pc := 33) (t := 62) zr_211_33 (by decide) (z_toif h) (fun h => ?_) (fun h => ?_)
  · refine ze_aload_n (pc := 36) zr_211_36 rfl ?_
    refine ze_getfield (pc := 37) (v := .inr (.inr 161)) zr_211_37 rfl rfl ?_
    refine ze_bipush (pc := 40) zr_211_40 (by decide) ?_
    refine ze_iload (pc := 42) zr_211_42 rfl ?_
    refine ze_imul (pc := 44) zr_211_44 ?_
    refine ze_iload (pc := 45) zr_211_45 rfl ?_
    refine ze_iadd (pc := 47) zr_211_47 ?_
    refine ze_aload_n (pc := 48) zr_211_48 rfl ?_
    refine ze_getfield (pc := 49) (v := .inr (.inr 159)) zr_211_49 rfl rfl ?_
    refine ze_iload (pc := 52) zr_211_52 rfl ?_
    refine z_gk h (fun g54 h => ?_)
    refine zl_iaload (pc := 54) zr_211_54 rfl rfl g54 h (fun x54 h => ?_)
    refine z_gk h (fun g55 h => ?_)
    refine zq_iastore (pc := 55) zr_211_55 (by decide) rfl g55 rfl h (fun W3001 h => ?_)
    refine zq_iinc (pc := 56) (ls2 := [some (.inr (.inr 141)), some (.inl l1), some (.inl l2), some (.inl l3), some (.inl l4), some (.inl (z_add l5 1)), none, none]) zr_211_56 rfl rfl rfl ?_
    refine ze_goto (pc := 59) (t := 29) zr_211_59 (by decide) ?_
    exact h
  · refine zq_iinc (pc := 62) (ls2 := [some (.inr (.inr 141)), some (.inl l1), some (.inl l2), some (.inl l3), some (.inl (z_add l4 1)), some (.inl l5), none, none]) zr_211_62 rfl rfl rfl ?_
    refine ze_goto (pc := 65) (t := 9) zr_211_65 (by decide) ?_
    exact h
theorem zb211_141_p84 {d : Nat} {Q : Int → z_M → Prop} (o1 : Option z_V) (l2 : Int) (o3 : Option z_V) (l4 : Int) (l5 : Int) (l6 : Int) (o7 : Option z_V) {V : z_M}
    (h : zI (l4 < l6) (Q l4 V) (z_Ex (z_MS d) 211 Q true 94 [some (.inr (.inr 141)), o1, some (.inl l2), o3, some (.inl l4), some (.inl l5), some (.inl l6), some (.inl 0)] [] 0 0 V)) :
    z_Ex (z_MS d) 211 Q true 84 [some (.inr (.inr 141)), o1, some (.inl l2), o3, some (.inl l4), some (.inl l5), some (.inl l6), o7] [] 0 0 V := by
  refine ze_iload (pc := 84) zr_211_84 rfl ?_
  refine ze_iload (pc := 86) zr_211_86 rfl ?_
  refine zq_icmp_gt (pc := 88) (t := 162) zr_211_88 (by decide) (z_toif h) (fun h => ?_) (fun h => ?_)
  · refine ze_iload (pc := 162) zr_211_162 rfl ?_
    exact zq_ret1 (pc := 164) zr_211_164 rfl h
  · refine ze_iconst (pc := 91) zr_211_91 (by decide) ?_
    refine zq_istore (pc := 92) (ls2 := [some (.inr (.inr 141)), o1, some (.inl l2), o3, some (.inl l4), some (.inl l5), some (.inl l6), some (.inl 0)]) zr_211_92 rfl rfl ?_
    exact h
theorem zb211_141_p94 {d : Nat} {Q : Int → z_M → Prop} (o1 : Option z_V) (l2 : Int) (o3 : Option z_V) (l4 : Int) (l5 : Int) (l6 : Int) (l7 : Int) {V : z_M}
    (h : zGu (0 ≤ (z_add (z_mul 13 l5) l7) ∧ (z_add (z_mul 13 l5) l7) < 169) (∀ x106 : Int, x106 = V 161 (z_add (z_mul 13 l5) l7).toNat → zI (x106 = 1) (zGu (0 ≤ (z_add (z_add (z_mul 13 l7) l2) 1) ∧ (z_add (z_add (z_mul 13 l7) l2) 1) < 169) (∀ x124 : Int, x124 = V 161 (z_add (z_add (z_mul 13 l7) l2) 1).toNat → zI (x124 = (z_sub l4 l6)) (zGu (0 ≤ (z_sub l6 1) ∧ (z_sub l6 1) < 14) (∀ W9501, W9501 = z_up V 160 (z_sub l6 1).toNat (z_sub l7 1) → z_Ex (z_MS d) 211 Q true 84 [some (.inr (.inr 141)), o1, some (.inl l2), o3, some (.inl l4), some (.inl l7), some (.inl (z_add l6 1)), some (.inl l7)] [] 0 0 W9501)) (z_Ex (z_MS d) 211 Q true 94 [some (.inr (.inr 141)), o1, some (.inl l2), o3, some (.inl l4), some (.inl l5), some (.inl l6), some (.inl (z_add l7 1))] [] 0 0 V))) (z_Ex (z_MS d) 211 Q true 94 [some (.inr (.inr 141)), o1, some (.inl l2), o3, some (.inl l4), some (.inl l5), some (.inl l6), some (.inl (z_add l7 1))] [] 0 0 V))) :
    z_Ex (z_MS d) 211 Q true 94 [some (.inr (.inr 141)), o1, some (.inl l2), o3, some (.inl l4), some (.inl l5), some (.inl l6), some (.inl l7)] [] 0 0 V := by
  refine ze_aload_n (pc := 94) zr_211_94 rfl ?_
  refine ze_getfield (pc := 95) (v := .inr (.inr 161)) zr_211_95 rfl rfl ?_
  refine ze_bipush (pc := 98) zr_211_98 (by decide) ?_
  refine ze_iload (pc := 100) zr_211_100 rfl ?_
  refine ze_imul (pc := 102) zr_211_102 ?_
  refine ze_iload (pc := 103) zr_211_103 rfl ?_
  refine ze_iadd (pc := 105) zr_211_105 ?_
  refine z_gk h (fun g106 h => ?_)
  refine zl_iaload (pc := 106) zr_211_106 rfl rfl g106 h (fun x106 h => ?_)
  refine ze_iconst (pc := 107) zr_211_107 (by decide) ?_
  refine zq_icmp_ne (pc := 108) (t := 133) zr_211_108 (by decide) (z_toif h) (fun h => ?_) (fun h => ?_)
  · refine ze_aload_n (pc := 111) zr_211_111 rfl ?_
    refine ze_getfield (pc := 112) (v := .inr (.inr 161)) zr_211_112 rfl rfl ?_
    refine ze_bipush (pc := 115) zr_211_115 (by decide) ?_
    refine ze_iload (pc := 117) zr_211_117 rfl ?_
    refine ze_imul (pc := 119) zr_211_119 ?_
    refine ze_iload_n (pc := 120) zr_211_120 rfl ?_
    refine ze_iadd (pc := 121) zr_211_121 ?_
    refine ze_iconst (pc := 122) zr_211_122 (by decide) ?_
    refine ze_iadd (pc := 123) zr_211_123 ?_
    refine z_gk h (fun g124 h => ?_)
    refine zl_iaload (pc := 124) zr_211_124 rfl rfl g124 h (fun x124 h => ?_)
    refine ze_iload (pc := 125) zr_211_125 rfl ?_
    refine ze_iload (pc := 127) zr_211_127 rfl ?_
    refine ze_isub (pc := 129) zr_211_129 ?_
    refine zq_icmp_eq (pc := 130) (t := 139) zr_211_130 (by decide) (z_toif h) (fun h => ?_) (fun h => ?_)
    · refine ze_aload_n (pc := 139) zr_211_139 rfl ?_
      refine ze_getfield (pc := 140) (v := .inr (.inr 160)) zr_211_140 rfl rfl ?_
      refine ze_iload (pc := 143) zr_211_143 rfl ?_
      refine ze_iconst (pc := 145) zr_211_145 (by decide) ?_
      refine ze_isub (pc := 146) zr_211_146 ?_
      refine ze_iload (pc := 147) zr_211_147 rfl ?_
      refine ze_iconst (pc := 149) zr_211_149 (by decide) ?_
      refine ze_isub (pc := 150) zr_211_150 ?_
      refine z_gk h (fun g151 h => ?_)
      refine zq_iastore (pc := 151) zr_211_151 (by decide) rfl g151 rfl h (fun W9501 h => ?_)
      refine ze_iload (pc := 152) zr_211_152 rfl ?_
      refine zq_istore (pc := 154) (ls2 := [some (.inr (.inr 141)), o1, some (.inl l2), o3, some (.inl l4), some (.inl l7), some (.inl l6), some (.inl l7)]) zr_211_154 rfl rfl ?_
      refine zq_iinc (pc := 156) (ls2 := [some (.inr (.inr 141)), o1, some (.inl l2), o3, some (.inl l4), some (.inl l7), some (.inl (z_add l6 1)), some (.inl l7)]) zr_211_156 rfl rfl rfl ?_
      refine ze_goto (pc := 159) (t := 84) zr_211_159 (by decide) ?_
      exact h
    · refine zq_iinc (pc := 133) (ls2 := [some (.inr (.inr 141)), o1, some (.inl l2), o3, some (.inl l4), some (.inl l5), some (.inl l6), some (.inl (z_add l7 1))]) zr_211_133 rfl rfl rfl ?_
      refine ze_goto (pc := 136) (t := 94) zr_211_136 (by decide) ?_
      exact h
  · refine zq_iinc (pc := 133) (ls2 := [some (.inr (.inr 141)), o1, some (.inl l2), o3, some (.inl l4), some (.inl l5), some (.inl l6), some (.inl (z_add l7 1))]) zr_211_133 rfl rfl rfl ?_
    refine ze_goto (pc := 136) (t := 94) zr_211_136 (by decide) ?_
    exact h
theorem zb212_141 {d : Nat} {Q : Int → z_M → Prop} (a0 : Int) (a1 : Int) (a2 : Int) {V : z_M}
    (h : ∀ W1, W1 = z_up V 141 0 0 → z_MS d 156 true [.inr (.inr 141), .inl a0] W1 (fun z1 V1 => zI (z1 = 0) (Q (-1) V1) (z_MS d 155 true [.inr (.inr 141), .inl a1] V1 (fun z2 V2 => zI (z2 = 0) (Q (-1) V2) (z_MS d 201 true [.inr (.inr 141)] V2 (fun z3 V3 => z_MS d 211 true [.inr (.inr 141), .inl a0, .inl a1] V3 (fun z4 V4 => zI (a2 = (-1)) (Q z4 V4) (z_MS d 145 true [.inr (.inl a2), .inr (.inl 0), .inr (.inl (z_lsub z4 1))] V4 (fun z5 V5 => zI (z5 = 0) (Q (-1) V5) (zGu (0 ≤ a2 ∧ a2 < 14) (∀ x64 : Int, x64 = V5 160 a2.toNat → Q x64 V5))))))))))) :
    z_MS (d + 1) 212 true [.inr (.inr 141), .inl a0, .inl a1, .inl a2] V Q := by
  show z_Ex (z_MS d) 212 Q true 0 [some (.inr (.inr 141)), some (.inl a0), some (.inl a1), some (.inl a2), none] [] 0 0 V
  refine ze_aload_n (pc := 0) zr_212_0 rfl ?_
  refine ze_iconst (pc := 1) zr_212_1 (by decide) ?_
  refine zq_putI (pc := 2) zr_212_2 (by decide) rfl h (fun W1 h => ?_)
  refine ze_aload_n (pc := 5) zr_212_5 rfl ?_
  refine ze_iload_n (pc := 6) zr_212_6 rfl ?_
  refine zq_callV1 (pc := 7) (as := [.inr (.inr 141), .inl a0]) (r := []) (kc2 := 0) (ks2 := 0) zr_212_7 rfl (by decide) rfl rfl rfl rfl ⟨rfl, rfl⟩ ⟨rfl, rfl, rfl⟩ h (fun z1 V1 h => ?_)
  refine zq_if_eq (pc := 10) (t := 21) zr_212_10 (by decide) (z_toif h) (fun h => ?_) (fun h => ?_)
  · refine ze_iconst (pc := 21) zr_212_21 (by decide) ?_
    exact zq_ret1 (pc := 22) zr_212_22 rfl h
  · refine ze_aload_n (pc := 13) zr_212_13 rfl ?_
    refine ze_iload_n (pc := 14) zr_212_14 rfl ?_
    refine zq_callV1 (pc := 15) (as := [.inr (.inr 141), .inl a1]) (r := []) (kc2 := 0) (ks2 := 0) zr_212_15 rfl (by decide) rfl rfl rfl rfl ⟨rfl, rfl⟩ ⟨rfl, rfl, rfl⟩ h (fun z2 V2 h => ?_)
    refine zq_if_ne (pc := 18) (t := 23) zr_212_18 (by decide) (z_toif h) (fun h => ?_) (fun h => ?_)
    · refine ze_iconst (pc := 21) zr_212_21 (by decide) ?_
      exact zq_ret1 (pc := 22) zr_212_22 rfl h
    · refine ze_aload_n (pc := 23) zr_212_23 rfl ?_
      refine zq_callV0 (pc := 24) (as := [.inr (.inr 141)]) (r := []) (kc2 := 0) (ks2 := 0) zr_212_24 rfl (by decide) rfl rfl rfl rfl ⟨rfl, rfl⟩ rfl h (fun z3 V3 h => ?_)
      refine ze_aload_n (pc := 27) zr_212_27 rfl ?_
      refine ze_iload_n (pc := 28) zr_212_28 rfl ?_
      refine ze_iload_n (pc := 29) zr_212_29 rfl ?_
      refine zq_callV1 (pc := 30) (as := [.inr (.inr 141), .inl a0, .inl a1]) (r := []) (kc2 := 0) (ks2 := 0) zr_212_30 rfl (by decide) rfl rfl rfl rfl ⟨rfl, rfl⟩ ⟨rfl, rfl, rfl⟩ h (fun z4 V4 h => ?_)
      refine zq_istore (pc := 33) (ls2 := [some (.inr (.inr 141)), some (.inl a0), some (.inl a1), some (.inl a2), some (.inl z4)]) zr_212_33 rfl rfl ?_
      refine ze_iload_n (pc := 35) zr_212_35 rfl ?_
      refine ze_iconst (pc := 36) zr_212_36 (by decide) ?_
      refine zq_icmp_ne (pc := 37) (t := 45) zr_212_37 (by decide) (z_toif h) (fun h => ?_) (fun h => ?_)
      · refine ze_iload (pc := 40) zr_212_40 rfl ?_
        refine ze_goto (pc := 42) (t := 69) zr_212_42 (by decide) ?_
        exact zq_ret1 (pc := 69) zr_212_69 rfl h
      · refine ze_iload_n (pc := 45) zr_212_45 rfl ?_
        refine ze_i2l (pc := 46) zr_212_46 ?_
        refine ze_lconst (pc := 47) zr_212_47 ?_
        refine ze_iload (pc := 48) zr_212_48 rfl ?_
        refine ze_i2l (pc := 50) zr_212_50 ?_
        refine ze_lconst (pc := 51) zr_212_51 ?_
        refine ze_lsub (pc := 52) zr_212_52 ?_
        refine zq_callS1 (pc := 53) (as := [.inr (.inl a2), .inr (.inl 0), .inr (.inl (z_lsub z4 1))]) (r := []) (kc2 := 0) (ks2 := 0) zr_212_53 rfl rfl rfl rfl ⟨rfl, rfl⟩ ⟨rfl, rfl, rfl⟩ h (fun z5 V5 h => ?_)
        refine zq_if_eq (pc := 56) (t := 68) zr_212_56 (by decide) (z_toif h) (fun h => ?_) (fun h => ?_)
        · refine ze_iconst (pc := 68) zr_212_68 (by decide) ?_
          exact zq_ret1 (pc := 69) zr_212_69 rfl h
        · refine ze_aload_n (pc := 59) zr_212_59 rfl ?_
          refine ze_getfield (pc := 60) (v := .inr (.inr 160)) zr_212_60 rfl rfl ?_
          refine ze_iload_n (pc := 63) zr_212_63 rfl ?_
          refine z_gk h (fun g64 h => ?_)
          refine zl_iaload (pc := 64) zr_212_64 rfl rfl g64 h (fun x64 h => ?_)
          refine ze_goto (pc := 65) (t := 69) zr_212_65 (by decide) ?_
          exact zq_ret1 (pc := 69) zr_212_69 rfl h
theorem zb213_141 {d : Nat} {Q : Int → z_M → Prop} (a0 : Int) (a1 : Int) (a2 : Int) (a3 : Int) {V : z_M}
    (h : ∀ W1, W1 = z_up V 141 40 0 → ∀ W2, W2 = z_up W1 141 41 (-1) → ∀ W3, W3 = z_up W2 141 42 0 → z_Ex (z_MS d) 213 Q true 18 [some (.inr (.inr 141)), some (.inl a0), some (.inl a1), some (.inl a2), some (.inl a3), some (.inl 0), none, none] [] 0 0 W3) :
    z_MS (d + 1) 213 true [.inr (.inr 141), .inl a0, .inl a1, .inl a2, .inl a3] V Q := by
  show z_Ex (z_MS d) 213 Q true 0 [some (.inr (.inr 141)), some (.inl a0), some (.inl a1), some (.inl a2), some (.inl a3), none, none, none] [] 0 0 V
  refine ze_aload_n (pc := 0) zr_213_0 rfl ?_
  refine ze_iconst (pc := 1) zr_213_1 (by decide) ?_
  refine zq_putI (pc := 2) zr_213_2 (by decide) rfl h (fun W1 h => ?_)
  refine ze_aload_n (pc := 5) zr_213_5 rfl ?_
  refine ze_iconst (pc := 6) zr_213_6 (by decide) ?_
  refine zq_putI (pc := 7) zr_213_7 (by decide) rfl h (fun W2 h => ?_)
  refine ze_aload_n (pc := 10) zr_213_10 rfl ?_
  refine ze_iconst (pc := 11) zr_213_11 (by decide) ?_
  refine zq_putI (pc := 12) zr_213_12 (by decide) rfl h (fun W3 h => ?_)
  refine ze_iconst (pc := 15) zr_213_15 (by decide) ?_
  refine zq_istore (pc := 16) (ls2 := [some (.inr (.inr 141)), some (.inl a0), some (.inl a1), some (.inl a2), some (.inl a3), some (.inl 0), none, none]) zr_213_16 rfl rfl ?_
  exact h
theorem zb213_141_p18 {d : Nat} {Q : Int → z_M → Prop} (l1 : Int) (l2 : Int) (l3 : Int) (l4 : Int) (l5 : Int) (o6 : Option z_V) (o7 : Option z_V) {V : z_M}
    (h : zI (l2 < l5) (Q 0 V) (zI ((z_and l5 (z_xor l2 (-1))) = 0) (zI (l3 = 2) (zGu (0 ≤ l1 ∧ l1 < 6) (∀ x43 : Int, x43 = V 157 l1.toNat → z_Ex (z_MS d) 213 Q true 67 [some (.inr (.inr 141)), some (.inl l1), some (.inl l2), some (.inl l3), some (.inl l4), some (.inl l5), o6, o7] [.inl (z_and x43 (z_or (z_xor (V 141 36) (-1)) l5))] 0 0 V)) (z_MS d 208 true [.inr (.inr 141), .inl l1] V (fun z1901 V1901 => z_Ex (z_MS d) 213 Q true 67 [some (.inr (.inr 141)), some (.inl l1), some (.inl l2), some (.inl l3), some (.inl l4), some (.inl l5), o6, o7] [.inl (z_and z1901 (z_xor l5 (-1)))] 0 0 V1901))) (z_Ex (z_MS d) 213 Q true 18 [some (.inr (.inr 141)), some (.inl l1), some (.inl l2), some (.inl l3), some (.inl l4), some (.inl (z_add l5 1)), o6, o7] [] 0 0 V))) :
    z_Ex (z_MS d) 213 Q true 18 [some (.inr (.inr 141)), some (.inl l1), some (.inl l2), some (.inl l3), some (.inl l4), some (.inl l5), o6, o7] [] 0 0 V := by
  refine ze_iload (pc := 18) zr_213_18 rfl ?_
  refine ze_iload_n (pc := 20) zr_213_20 rfl ?_
  refine zq_icmp_gt (pc := 21) (t := 184) zr_213_21 (by decide) (z_toif h) (fun h => ?_) (fun h => ?_)
  · exact ze_vret (pc := 184) zr_213_184 rfl h
  · refine ze_iload (pc := 24) zr_213_24 rfl ?_
    refine ze_iload_n (pc := 26) zr_213_26 rfl ?_
    refine ze_iconst (pc := 27) zr_213_27 (by decide) ?_
    refine ze_ixor (pc := 28) zr_213_28 ?_
    refine ze_iand (pc := 29) zr_213_29 ?_
    refine zq_if_ne (pc := 30) (t := 178) zr_213_30 (by decide) (z_toif h) (fun h => ?_) (fun h => ?_)
    · refine ze_iload_n (pc := 33) zr_213_33 rfl ?_
      refine ze_iconst (pc := 34) zr_213_34 (by decide) ?_
      refine zq_icmp_ne (pc := 35) (t := 57) zr_213_35 (by decide) (z_toif h) (fun h => ?_) (fun h => ?_)
      · refine ze_aload_n (pc := 38) zr_213_38 rfl ?_
        refine ze_getfield (pc := 39) (v := .inr (.inr 157)) zr_213_39 rfl rfl ?_
        refine ze_iload_n (pc := 42) zr_213_42 rfl ?_
        refine z_gk h (fun g43 h => ?_)
        refine zl_iaload (pc := 43) zr_213_43 rfl rfl g43 h (fun x43 h => ?_)
        refine ze_aload_n (pc := 44) zr_213_44 rfl ?_
        refine ze_getfield (pc := 45) (v := .inl (V 141 36)) zr_213_45 rfl rfl ?_
        refine ze_iconst (pc := 48) zr_213_48 (by decide) ?_
        refine ze_ixor (pc := 49) zr_213_49 ?_
        refine ze_iload (pc := 50) zr_213_50 rfl ?_
        refine ze_ior (pc := 52) zr_213_52 ?_
        refine ze_iand (pc := 53) zr_213_53 ?_
        refine ze_goto (pc := 54) (t := 67) zr_213_54 (by decide) ?_
        exact h
      · refine ze_aload_n (pc := 57) zr_213_57 rfl ?_
        refine ze_iload_n (pc := 58) zr_213_58 rfl ?_
        refine zq_callV1 (pc := 59) (as := [.inr (.inr 141), .inl l1]) (r := []) (kc2 := 0) (ks2 := 0) zr_213_59 rfl (by decide) rfl rfl rfl rfl ⟨rfl, rfl⟩ ⟨rfl, rfl, rfl⟩ h (fun z1901 V1901 h => ?_)
        refine ze_iload (pc := 62) zr_213_62 rfl ?_
        refine ze_iconst (pc := 64) zr_213_64 (by decide) ?_
        refine ze_ixor (pc := 65) zr_213_65 ?_
        refine ze_iand (pc := 66) zr_213_66 ?_
        exact h
    · refine zq_iinc (pc := 178) (ls2 := [some (.inr (.inr 141)), some (.inl l1), some (.inl l2), some (.inl l3), some (.inl l4), some (.inl (z_add l5 1)), o6, o7]) zr_213_178 rfl rfl rfl ?_
      refine ze_goto (pc := 181) (t := 18) zr_213_181 (by decide) ?_
      exact h
theorem zb213_141_p67 {d : Nat} {Q : Int → z_M → Prop} (l1 : Int) (l2 : Int) (l3 : Int) (l4 : Int) (l5 : Int) (o6 : Option z_V) (o7 : Option z_V) (s0 : Int) {V : z_M}
    (h : z_MS d 209 true [.inr (.inr 141), .inl l1, .inl s0] V (fun z6801 V6801 => z_Ex (z_MS d) 213 Q true 86 [some (.inr (.inr 141)), some (.inl l1), some (.inl l2), some (.inl l3), some (.inl l4), some (.inl l5), some (.inl s0), o7] [.inl (if l3 = 1 then 0 else 1), .inl z6801] 0 0 V6801)) :
    z_Ex (z_MS d) 213 Q true 67 [some (.inr (.inr 141)), some (.inl l1), some (.inl l2), some (.inl l3), some (.inl l4), some (.inl l5), o6, o7] [.inl s0] 0 0 V := by
  refine zq_istore (pc := 67) (ls2 := [some (.inr (.inr 141)), some (.inl l1), some (.inl l2), some (.inl l3), some (.inl l4), some (.inl l5), some (.inl s0), o7]) zr_213_67 rfl rfl ?_
  refine ze_aload_n (pc := 69) zr_213_69 rfl ?_
  refine ze_iload_n (pc := 70) zr_213_70 rfl ?_
  refine ze_iload (pc := 71) zr_213_71 rfl ?_
  refine zq_callV1 (pc := 73) (as := [.inr (.inr 141), .inl l1, .inl s0]) (r := []) (kc2 := 0) (ks2 := 0) zr_213_73 rfl (by decide) rfl rfl rfl rfl ⟨rfl, rfl⟩ ⟨rfl, rfl, rfl⟩ h (fun z6801 V6801 h => ?_)
  refine ze_iload_n (pc := 76) zr_213_76 rfl ?_
  refine ze_iconst (pc := 77) zr_213_77 (by decide) ?_
  have j78 : z_Ex (z_MS d) 213 Q true 86 [some (.inr (.inr 141)), some (.inl l1), some (.inl l2), some (.inl l3), some (.inl l4), some (.inl l5), some (.inl s0), o7] [.inl (if l3 = 1 then 0 else 1), .inl z6801] 0 0 V6801 := by
    exact h
  refine ze_icmp_eq (pc := 78) (t := 85) zr_213_78 (by decide) (fun hc => ?_) (fun hc => ?_)
  · rw [if_pos (show l3 = 1 from hc)] at j78
    refine ze_iconst (pc := 85) zr_213_85 (by decide) ?_
    exact j78
  · rw [if_neg (show ¬ (l3 = 1) from hc)] at j78
    refine ze_iconst (pc := 81) zr_213_81 (by decide) ?_
    refine ze_goto (pc := 82) (t := 86) zr_213_82 (by decide) ?_
    exact j78
theorem zb213_141_p86 {d : Nat} {Q : Int → z_M → Prop} (l1 : Int) (l2 : Int) (l3 : Int) (l4 : Int) (l5 : Int) (o6 : Option z_V) (o7 : Option z_V) (s0 : Int) (s1 : Int) {V : z_M}
    (h : zI (s0 = s1) (zI ((V 141 41) = (-1)) (z_Ex (z_MS d) 213 Q true 117 [some (.inr (.inr 141)), some (.inl l1), some (.inl l2), some (.inl l3), some (.inl l4), some (.inl l5), o6, o7] [.inl 1] 0 0 V) (z_MS d 147 true [.inl l5] V (fun z8701 V8701 => z_MS d 147 true [.inl (V8701 141 41)] V8701 (fun z8702 V8702 => z_Ex (z_MS d) 213 Q true 117 [some (.inr (.inr 141)), some (.inl l1), some (.inl l2), some (.inl l3), some (.inl l4), some (.inl l5), o6, o7] [.inl (z_mul l4 (z_sub z8701 z8702))] 0 0 V8702)))) (z_Ex (z_MS d) 213 Q true 18 [some (.inr (.inr 141)), some (.inl l1), some (.inl l2), some (.inl l3), some (.inl l4), some (.inl (z_add l5 1)), o6, o7] [] 0 0 V)) :
    z_Ex (z_MS d) 213 Q true 86 [some (.inr (.inr 141)), some (.inl l1), some (.inl l2), some (.inl l3), some (.inl l4), some (.inl l5), o6, o7] [.inl s1, .inl s0] 0 0 V := by
  refine zq_icmp_ne (pc := 86) (t := 178) zr_213_86 (by decide) (z_toif h) (fun h => ?_) (fun h => ?_)
  · refine ze_aload_n (pc := 89) zr_213_89 rfl ?_
    refine ze_getfield (pc := 90) (v := .inl (V 141 41)) zr_213_90 rfl rfl ?_
    refine ze_iconst (pc := 93) zr_213_93 (by decide) ?_
    refine zq_icmp_ne (pc := 94) (t := 101) zr_213_94 (by decide) (z_toif h) (fun h => ?_) (fun h => ?_)
    · refine ze_iconst (pc := 97) zr_213_97 (by decide) ?_
      refine ze_goto (pc := 98) (t := 117) zr_213_98 (by decide) ?_
      exact h
    · refine ze_iload (pc := 101) zr_213_101 rfl ?_
      refine ze_iload (pc := 103) zr_213_103 rfl ?_
      refine zq_callS1 (pc := 105) (as := [.inl l5]) (r := [.inl l4]) (kc2 := 0) (ks2 := 0) zr_213_105 rfl rfl rfl rfl ⟨rfl, rfl⟩ ⟨rfl, rfl, rfl⟩ h (fun z8701 V8701 h => ?_)
      refine ze_aload_n (pc := 108) zr_213_108 rfl ?_
      refine ze_getfield (pc := 109) (v := .inl (V8701 141 41)) zr_213_109 rfl rfl ?_
      refine zq_callS1 (pc := 112) (as := [.inl (V8701 141 41)]) (r := [.inl z8701, .inl l4]) (kc2 := 0) (ks2 := 0) zr_213_112 rfl rfl rfl rfl ⟨rfl, rfl⟩ ⟨rfl, rfl, rfl⟩ h (fun z8702 V8702 h => ?_)
      refine ze_isub (pc := 115) zr_213_115 ?_
      refine ze_imul (pc := 116) zr_213_116 ?_
      exact h
  · refine zq_iinc (pc := 178) (ls2 := [some (.inr (.inr 141)), some (.inl l1), some (.inl l2), some (.inl l3), some (.inl l4), some (.inl (z_add l5 1)), o6, o7]) zr_213_178 rfl rfl rfl ?_
    refine ze_goto (pc := 181) (t := 18) zr_213_181 (by decide) ?_
    exact h
theorem zb213_141_p117 {d : Nat} {Q : Int → z_M → Prop} (l1 : Int) (l2 : Int) (l3 : Int) (l4 : Int) (l5 : Int) (o6 : Option z_V) (o7 : Option z_V) (s0 : Int) {V : z_M}
    (h : ∀ W11801, W11801 = z_up V 141 40 (z_add (V 141 40) 1) → z_Ex (z_MS d) 213 Q true 157 [some (.inr (.inr 141)), some (.inl l1), some (.inl l2), some (.inl l3), some (.inl l4), some (.inl l5), (cond (z_o2 o6) none o6), some (.inl s0)] [.inl (if 0 < s0 then 1 else (if s0 = 0 then z_add (W11801 141 42) 1 else W11801 141 42)), .inr (.inr 141)] 0 0 W11801) :
    z_Ex (z_MS d) 213 Q true 117 [some (.inr (.inr 141)), some (.inl l1), some (.inl l2), some (.inl l3), some (.inl l4), some (.inl l5), o6, o7] [.inl s0] 0 0 V := by
  refine zq_istore (pc := 117) (ls2 := [some (.inr (.inr 141)), some (.inl l1), some (.inl l2), some (.inl l3), some (.inl l4), some (.inl l5), (cond (z_o2 o6) none o6), some (.inl s0)]) zr_213_117 rfl rfl ?_
  refine ze_aload_n (pc := 119) zr_213_119 rfl ?_
  refine ze_dup (pc := 120) zr_213_120 rfl ?_
  refine ze_getfield (pc := 121) (v := .inl (V 141 40)) zr_213_121 rfl rfl ?_
  refine ze_iconst (pc := 124) zr_213_124 (by decide) ?_
  refine ze_iadd (pc := 125) zr_213_125 ?_
  refine zq_putI (pc := 126) zr_213_126 (by decide) rfl h (fun W11801 h => ?_)
  refine ze_aload_n (pc := 129) zr_213_129 rfl ?_
  refine ze_iload (pc := 130) zr_213_130 rfl ?_
  have j132 : z_Ex (z_MS d) 213 Q true 157 [some (.inr (.inr 141)), some (.inl l1), some (.inl l2), some (.inl l3), some (.inl l4), some (.inl l5), (cond (z_o2 o6) none o6), some (.inl s0)] [.inl (if 0 < s0 then 1 else (if s0 = 0 then z_add (W11801 141 42) 1 else W11801 141 42)), .inr (.inr 141)] 0 0 W11801 := by
    exact h
  refine ze_if_le (pc := 132) (t := 139) zr_213_132 (by decide) (fun hc => ?_) (fun hc => ?_)
  · rw [if_pos (show 0 < s0 from hc)] at j132
    refine ze_iconst (pc := 135) zr_213_135 (by decide) ?_
    refine ze_goto (pc := 136) (t := 157) zr_213_136 (by decide) ?_
    exact j132
  · rw [if_neg (show ¬ (0 < s0) from hc)] at j132
    refine ze_iload (pc := 139) zr_213_139 rfl ?_
    refine ze_if_ne (pc := 141) (t := 153) zr_213_141 (by decide) (fun hc => ?_) (fun hc => ?_)
    · rw [if_pos (show s0 = 0 from hc)] at j132
      refine ze_aload_n (pc := 144) zr_213_144 rfl ?_
      refine ze_getfield (pc := 145) (v := .inl (W11801 141 42)) zr_213_145 rfl rfl ?_
      refine ze_iconst (pc := 148) zr_213_148 (by decide) ?_
      refine ze_iadd (pc := 149) zr_213_149 ?_
      refine ze_goto (pc := 150) (t := 157) zr_213_150 (by decide) ?_
      exact j132
    · rw [if_neg (show ¬ (s0 = 0) from hc)] at j132
      refine ze_aload_n (pc := 153) zr_213_153 rfl ?_
      refine ze_getfield (pc := 154) (v := .inl (W11801 141 42)) zr_213_154 rfl rfl ?_
      exact j132
theorem zb213_141_p157 {d : Nat} {Q : Int → z_M → Prop} (l1 : Int) (l2 : Int) (l3 : Int) (l4 : Int) (l5 : Int) (o6 : Option z_V) (l7 : Int) (s1 : Int) {V : z_M}
    (h : ∀ W15801, W15801 = z_up V 141 42 s1 → ∀ W15802, W15802 = z_up W15801 141 41 (if 0 < l7 then l5 else W15801 141 41) → z_Ex (z_MS d) 213 Q true 18 [some (.inr (.inr 141)), some (.inl l1), some (.inl l2), some (.inl l3), some (.inl l4), some (.inl (z_add l5 1)), o6, some (.inl l7)] [] 0 0 W15802) :
    z_Ex (z_MS d) 213 Q true 157 [some (.inr (.inr 141)), some (.inl l1), some (.inl l2), some (.inl l3), some (.inl l4), some (.inl l5), o6, some (.inl l7)] [.inl s1, .inr (.inr 141)] 0 0 V := by
  refine zq_putI (pc := 157) zr_213_157 (by decide) rfl h (fun W15801 h => ?_)
  refine ze_aload_n (pc := 160) zr_213_160 rfl ?_
  refine ze_iload (pc := 161) zr_213_161 rfl ?_
  have j163 : z_Ex (z_MS d) 213 Q true 175 [some (.inr (.inr 141)), some (.inl l1), some (.inl l2), some (.inl l3), some (.inl l4), some (.inl l5), o6, some (.inl l7)] [.inl (if 0 < l7 then l5 else W15801 141 41), .inr (.inr 141)] 0 0 W15801 := by
    refine zq_putI (pc := 175) zr_213_175 (by decide) rfl h (fun W15802 h => ?_)
    refine zq_iinc (pc := 178) (ls2 := [some (.inr (.inr 141)), some (.inl l1), some (.inl l2), some (.inl l3), some (.inl l4), some (.inl (z_add l5 1)), o6, some (.inl l7)]) zr_213_178 rfl rfl rfl ?_
    refine ze_goto (pc := 181) (t := 18) zr_213_181 (by decide) ?_
    exact h
  refine ze_if_le (pc := 163) (t := 171) zr_213_163 (by decide) (fun hc => ?_) (fun hc => ?_)
  · rw [if_pos (show 0 < l7 from hc)] at j163
    refine ze_iload (pc := 166) zr_213_166 rfl ?_
    refine ze_goto (pc := 168) (t := 175) zr_213_168 (by decide) ?_
    exact j163
  · rw [if_neg (show ¬ (0 < l7) from hc)] at j163
    refine ze_aload_n (pc := 171) zr_213_171 rfl ?_
    refine ze_getfield (pc := 172) (v := .inl (W15801 141 41)) zr_213_172 rfl rfl ?_
    exact j163
theorem zb214_141 {d : Nat} {Q : Int → z_M → Prop}  {V : z_M}
    (h : z_MS d 154 true [.inr (.inr 141)] V (fun z1 V1 => z_MS d 154 true [.inr (.inr 141)] V1 (fun z2 V2 => Q (z_and (z_and (z_sub (z_shl 1 z1) 1) (z_xor (V1 141 36) (-1))) (z_xor (z_shl 1 (z_sub z2 1)) (-1))) V2))) :
    z_MS (d + 1) 214 true [.inr (.inr 141)] V Q := by
  show z_Ex (z_MS d) 214 Q true 0 [some (.inr (.inr 141))] [] 0 0 V
  refine ze_iconst (pc := 0) zr_214_0 (by decide) ?_
  refine ze_aload_n (pc := 1) zr_214_1 rfl ?_
  refine zq_callV1 (pc := 2) (as := [.inr (.inr 141)]) (r := [.inl 1]) (kc2 := 0) (ks2 := 0) zr_214_2 rfl (by decide) rfl rfl rfl rfl ⟨rfl, rfl⟩ ⟨rfl, rfl, rfl⟩ h (fun z1 V1 h => ?_)
  refine ze_ishl (pc := 5) zr_214_5 ?_
  refine ze_iconst (pc := 6) zr_214_6 (by decide) ?_
  refine ze_isub (pc := 7) zr_214_7 ?_
  refine ze_aload_n (pc := 8) zr_214_8 rfl ?_
  refine ze_getfield (pc := 9) (v := .inl (V1 141 36)) zr_214_9 rfl rfl ?_
  refine ze_iconst (pc := 12) zr_214_12 (by decide) ?_
  refine ze_ixor (pc := 13) zr_214_13 ?_
  refine ze_iand (pc := 14) zr_214_14 ?_
  refine ze_iconst (pc := 15) zr_214_15 (by decide) ?_
  refine ze_aload_n (pc := 16) zr_214_16 rfl ?_
  refine zq_callV1 (pc := 17) (as := [.inr (.inr 141)]) (r := [.inl 1, .inl (z_and (z_sub (z_shl 1 z1) 1) (z_xor (V1 141 36) (-1)))]) (kc2 := 0) (ks2 := 0) zr_214_17 rfl (by decide) rfl rfl rfl rfl ⟨rfl, rfl⟩ ⟨rfl, rfl, rfl⟩ h (fun z2 V2 h => ?_)
  refine ze_iconst (pc := 20) zr_214_20 (by decide) ?_
  refine ze_isub (pc := 21) zr_214_21 ?_
  refine ze_ishl (pc := 22) zr_214_22 ?_
  refine ze_iconst (pc := 23) zr_214_23 (by decide) ?_
  refine ze_ixor (pc := 24) zr_214_24 ?_
  refine ze_iand (pc := 25) zr_214_25 ?_
  exact zq_ret1 (pc := 26) zr_214_26 rfl h
theorem zb215_141 {d : Nat} {Q : Int → z_M → Prop} (a0 : Int) {V : z_M}
    (h : zI (a0 = 3) (Q (V 141 40) V) (zI (a0 = 2) (Q (V 141 42) V) (zI ((V 141 41) = (-1)) (Q (-1) V) (zI (a0 = 0) (z_MS d 147 true [.inl (V 141 41)] V (fun z1 V1 => Q z1 V1)) (Q (V 141 41) V))))) :
    z_MS (d + 1) 215 true [.inr (.inr 141), .inl a0] V Q := by
  show z_Ex (z_MS d) 215 Q true 0 [some (.inr (.inr 141)), some (.inl a0)] [] 0 0 V
  refine ze_iload_n (pc := 0) zr_215_0 rfl ?_
  refine ze_iconst (pc := 1) zr_215_1 (by decide) ?_
  refine zq_icmp_ne (pc := 2) (t := 12) zr_215_2 (by decide) (z_toif h) (fun h => ?_) (fun h => ?_)
  · refine ze_aload_n (pc := 5) zr_215_5 rfl ?_
    refine ze_getfield (pc := 6) (v := .inl (V 141 40)) zr_215_6 rfl rfl ?_
    refine ze_goto (pc := 9) (t := 54) zr_215_9 (by decide) ?_
    exact zq_ret1 (pc := 54) zr_215_54 rfl h
  · refine ze_iload_n (pc := 12) zr_215_12 rfl ?_
    refine ze_iconst (pc := 13) zr_215_13 (by decide) ?_
    refine zq_icmp_ne (pc := 14) (t := 24) zr_215_14 (by decide) (z_toif h) (fun h => ?_) (fun h => ?_)
    · refine ze_aload_n (pc := 17) zr_215_17 rfl ?_
      refine ze_getfield (pc := 18) (v := .inl (V 141 42)) zr_215_18 rfl rfl ?_
      refine ze_goto (pc := 21) (t := 54) zr_215_21 (by decide) ?_
      exact zq_ret1 (pc := 54) zr_215_54 rfl h
    · refine ze_aload_n (pc := 24) zr_215_24 rfl ?_
      refine ze_getfield (pc := 25) (v := .inl (V 141 41)) zr_215_25 rfl rfl ?_
      refine ze_iconst (pc := 28) zr_215_28 (by decide) ?_
      refine zq_icmp_ne (pc := 29) (t := 36) zr_215_29 (by decide) (z_toif h) (fun h => ?_) (fun h => ?_)
      · refine ze_iconst (pc := 32) zr_215_32 (by decide) ?_
        refine ze_goto (pc := 33) (t := 54) zr_215_33 (by decide) ?_
        exact zq_ret1 (pc := 54) zr_215_54 rfl h
      · refine ze_iload_n (pc := 36) zr_215_36 rfl ?_
        refine zq_if_ne (pc := 37) (t := 50) zr_215_37 (by decide) (z_toif h) (fun h => ?_) (fun h => ?_)
        · refine ze_aload_n (pc := 40) zr_215_40 rfl ?_
          refine ze_getfield (pc := 41) (v := .inl (V 141 41)) zr_215_41 rfl rfl ?_
          refine zq_callS1 (pc := 44) (as := [.inl (V 141 41)]) (r := []) (kc2 := 0) (ks2 := 0) zr_215_44 rfl rfl rfl rfl ⟨rfl, rfl⟩ ⟨rfl, rfl, rfl⟩ h (fun z1 V1 h => ?_)
          refine ze_goto (pc := 47) (t := 54) zr_215_47 (by decide) ?_
          exact zq_ret1 (pc := 54) zr_215_54 rfl h
        · refine ze_aload_n (pc := 50) zr_215_50 rfl ?_
          refine ze_getfield (pc := 51) (v := .inl (V 141 41)) zr_215_51 rfl rfl ?_
          exact zq_ret1 (pc := 54) zr_215_54 rfl h
theorem zb216_141 {d : Nat} {Q : Int → z_M → Prop} (a0 : Int) (a1 : Int) {V : z_M}
    (h : ∀ W1, W1 = z_up V 141 0 0 → z_MS d 156 true [.inr (.inr 141), .inl a0] W1 (fun z1 V1 => zI (z1 = 0) (Q (-1) V1) (z_MS d 154 true [.inr (.inr 141)] V1 (fun z2 V2 => zI (z2 = 0) (Q (-1) V2) (z_MS d 145 true [.inr (.inl a1), .inr (.inl 0), .inr (.inl 3)] V2 (fun z3 V3 => zI (z3 = 0) (Q (-1) V3) (z_MS d 201 true [.inr (.inr 141)] V3 (fun z4 V4 => z_MS d 214 true [.inr (.inr 141)] V4 (fun z5 V5 => z_MS d 213 true [.inr (.inr 141), .inl a0, .inl z5, .inl 0, .inl 1] V5 (fun z6 V6 => z_MS d 215 true [.inr (.inr 141), .inl a1] V6 (fun z7 V7 => Q z7 V7))))))))))) :
    z_MS (d + 1) 216 true [.inr (.inr 141), .inl a0, .inl a1] V Q := by
  show z_Ex (z_MS d) 216 Q true 0 [some (.inr (.inr 141)), some (.inl a0), some (.inl a1)] [] 0 0 V
  refine ze_aload_n (pc := 0) zr_216_0 rfl ?_
  refine ze_iconst (pc := 1) zr_216_1 (by decide) ?_
  refine zq_putI (pc := 2) zr_216_2 (by decide) rfl h (fun W1 h => ?_)
  refine ze_aload_n (pc := 5) zr_216_5 rfl ?_
  refine ze_iload_n (pc := 6) zr_216_6 rfl ?_
  refine zq_callV1 (pc := 7) (as := [.inr (.inr 141), .inl a0]) (r := []) (kc2 := 0) (ks2 := 0) zr_216_7 rfl (by decide) rfl rfl rfl rfl ⟨rfl, rfl⟩ ⟨rfl, rfl, rfl⟩ h (fun z1 V1 h => ?_)
  refine zq_if_eq (pc := 10) (t := 32) zr_216_10 (by decide) (z_toif h) (fun h => ?_) (fun h => ?_)
  · refine ze_iconst (pc := 32) zr_216_32 (by decide) ?_
    exact zq_ret1 (pc := 33) zr_216_33 rfl h
  · refine ze_aload_n (pc := 13) zr_216_13 rfl ?_
    refine zq_callV1 (pc := 14) (as := [.inr (.inr 141)]) (r := []) (kc2 := 0) (ks2 := 0) zr_216_14 rfl (by decide) rfl rfl rfl rfl ⟨rfl, rfl⟩ ⟨rfl, rfl, rfl⟩ h (fun z2 V2 h => ?_)
    refine zq_if_eq (pc := 17) (t := 32) zr_216_17 (by decide) (z_toif h) (fun h => ?_) (fun h => ?_)
    · refine ze_iconst (pc := 32) zr_216_32 (by decide) ?_
      exact zq_ret1 (pc := 33) zr_216_33 rfl h
    · refine ze_iload_n (pc := 20) zr_216_20 rfl ?_
      refine ze_i2l (pc := 21) zr_216_21 ?_
      refine ze_lconst (pc := 22) zr_216_22 ?_
      refine ze_ldc2 (pc := 23) (z := 3) zr_216_23 (by decide) rfl ?_
      refine zq_callS1 (pc := 26) (as := [.inr (.inl a1), .inr (.inl 0), .inr (.inl 3)]) (r := []) (kc2 := 0) (ks2 := 0) zr_216_26 rfl rfl rfl rfl ⟨rfl, rfl⟩ ⟨rfl, rfl, rfl⟩ h (fun z3 V3 h => ?_)
      refine zq_if_ne (pc := 29) (t := 34) zr_216_29 (by decide) (z_toif h) (fun h => ?_) (fun h => ?_)
      · refine ze_iconst (pc := 32) zr_216_32 (by decide) ?_
        exact zq_ret1 (pc := 33) zr_216_33 rfl h
      · refine ze_aload_n (pc := 34) zr_216_34 rfl ?_
        refine zq_callV0 (pc := 35) (as := [.inr (.inr 141)]) (r := []) (kc2 := 0) (ks2 := 0) zr_216_35 rfl (by decide) rfl rfl rfl rfl ⟨rfl, rfl⟩ rfl h (fun z4 V4 h => ?_)
        refine ze_aload_n (pc := 38) zr_216_38 rfl ?_
        refine ze_iload_n (pc := 39) zr_216_39 rfl ?_
        refine ze_aload_n (pc := 40) zr_216_40 rfl ?_
        refine zq_callV1 (pc := 41) (as := [.inr (.inr 141)]) (r := [.inl a0, .inr (.inr 141)]) (kc2 := 0) (ks2 := 0) zr_216_41 rfl (by decide) rfl rfl rfl rfl ⟨rfl, rfl⟩ ⟨rfl, rfl, rfl⟩ h (fun z5 V5 h => ?_)
        refine ze_iconst (pc := 44) zr_216_44 (by decide) ?_
        refine ze_iconst (pc := 45) zr_216_45 (by decide) ?_
        refine zq_callV0 (pc := 46) (as := [.inr (.inr 141), .inl a0, .inl z5, .inl 0, .inl 1]) (r := []) (kc2 := 0) (ks2 := 0) zr_216_46 rfl (by decide) rfl rfl rfl rfl ⟨rfl, rfl⟩ rfl h (fun z6 V6 h => ?_)
        refine ze_aload_n (pc := 49) zr_216_49 rfl ?_
        refine ze_iload_n (pc := 50) zr_216_50 rfl ?_
        refine zq_callV1 (pc := 51) (as := [.inr (.inr 141), .inl a1]) (r := []) (kc2 := 0) (ks2 := 0) zr_216_51 rfl (by decide) rfl rfl rfl rfl ⟨rfl, rfl⟩ ⟨rfl, rfl, rfl⟩ h (fun z7 V7 h => ?_)
        exact zq_ret1 (pc := 54) zr_216_54 rfl h
theorem zb217_141 {d : Nat} {Q : Int → z_M → Prop} (a0 : Int) (a1 : Int) {V : z_M}
    (h : ∀ W1, W1 = z_up V 141 0 0 → z_MS d 156 true [.inr (.inr 141), .inl a0] W1 (fun z1 V1 => zI (z1 = 0) (Q (-1) V1) (z_MS d 154 true [.inr (.inr 141)] V1 (fun z2 V2 => zI (z2 = 0) (Q (-1) V2) (z_MS d 145 true [.inr (.inl a1), .inr (.inl 0), .inr (.inl 2)] V2 (fun z3 V3 => zI (z3 = 0) (Q (-1) V3) (z_MS d 201 true [.inr (.inr 141)] V3 (fun z4 V4 => z_MS d 214 true [.inr (.inr 141)] V4 (fun z5 V5 => z_MS d 213 true [.inr (.inr 141), .inl a0, .inl z5, .inl 1, .inl (-1)] V5 (fun z6 V6 => z_MS d 215 true [.inr (.inr 141), .inl a1] V6 (fun z7 V7 => Q z7 V7))))))))))) :
    z_MS (d + 1) 217 true [.inr (.inr 141), .inl a0, .inl a1] V Q := by
  show z_Ex (z_MS d) 217 Q true 0 [some (.inr (.inr 141)), some (.inl a0), some (.inl a1)] [] 0 0 V
  refine ze_aload_n (pc := 0) zr_217_0 rfl ?_
  refine ze_iconst (pc := 1) zr_217_1 (by decide) ?_
  refine zq_putI (pc := 2) zr_217_2 (by decide) rfl h (fun W1 h => ?_)
  refine ze_aload_n (pc := 5) zr_217_5 rfl ?_
  refine ze_iload_n (pc := 6) zr_217_6 rfl ?_
  refine zq_callV1 (pc := 7) (as := [.inr (.inr 141), .inl a0]) (r := []) (kc2 := 0) (ks2 := 0) zr_217_7 rfl (by decide) rfl rfl rfl rfl ⟨rfl, rfl⟩ ⟨rfl, rfl, rfl⟩ h (fun z1 V1 h => ?_)
  refine zq_if_eq (pc := 10) (t := 32) zr_217_10 (by decide) (z_toif h) (fun h => ?_) (fun h => ?_)
  · refine ze_iconst (pc := 32) zr_217_32 (by decide) ?_
    exact zq_ret1 (pc := 33) zr_217_33 rfl h
  · refine ze_aload_n (pc := 13) zr_217_13 rfl ?_
    refine zq_callV1 (pc := 14) (as := [.inr (.inr 141)]) (r := []) (kc2 := 0) (ks2 := 0) zr_217_14 rfl (by decide) rfl rfl rfl rfl ⟨rfl, rfl⟩ ⟨rfl, rfl, rfl⟩ h (fun z2 V2 h => ?_)
    refine zq_if_eq (pc := 17) (t := 32) zr_217_17 (by decide) (z_toif h) (fun h => ?_) (fun h => ?_)
    · refine ze_iconst (pc := 32) zr_217_32 (by decide) ?_
      exact zq_ret1 (pc := 33) zr_217_33 rfl h
    · refine ze_iload_n (pc := 20) zr_217_20 rfl ?_
      refine ze_i2l (pc := 21) zr_217_21 ?_
      refine ze_lconst (pc := 22) zr_217_22 ?_
      refine ze_ldc2 (pc := 23) (z := 2) zr_217_23 (by decide) rfl ?_
      refine zq_callS1 (pc := 26) (as := [.inr (.inl a1), .inr (.inl 0), .inr (.inl 2)]) (r := []) (kc2 := 0) (ks2 := 0) zr_217_26 rfl rfl rfl rfl ⟨rfl, rfl⟩ ⟨rfl, rfl, rfl⟩ h (fun z3 V3 h => ?_)
      refine zq_if_ne (pc := 29) (t := 34) zr_217_29 (by decide) (z_toif h) (fun h => ?_) (fun h => ?_)
      · refine ze_iconst (pc := 32) zr_217_32 (by decide) ?_
        exact zq_ret1 (pc := 33) zr_217_33 rfl h
      · refine ze_aload_n (pc := 34) zr_217_34 rfl ?_
        refine zq_callV0 (pc := 35) (as := [.inr (.inr 141)]) (r := []) (kc2 := 0) (ks2 := 0) zr_217_35 rfl (by decide) rfl rfl rfl rfl ⟨rfl, rfl⟩ rfl h (fun z4 V4 h => ?_)
        refine ze_aload_n (pc := 38) zr_217_38 rfl ?_
        refine ze_iload_n (pc := 39) zr_217_39 rfl ?_
        refine ze_aload_n (pc := 40) zr_217_40 rfl ?_
        refine zq_callV1 (pc := 41) (as := [.inr (.inr 141)]) (r := [.inl a0, .inr (.inr 141)]) (kc2 := 0) (ks2 := 0) zr_217_41 rfl (by decide) rfl rfl rfl rfl ⟨rfl, rfl⟩ ⟨rfl, rfl, rfl⟩ h (fun z5 V5 h => ?_)
        refine ze_iconst (pc := 44) zr_217_44 (by decide) ?_
        refine ze_iconst (pc := 45) zr_217_45 (by decide) ?_
        refine zq_callV0 (pc := 46) (as := [.inr (.inr 141), .inl a0, .inl z5, .inl 1, .inl (-1)]) (r := []) (kc2 := 0) (ks2 := 0) zr_217_46 rfl (by decide) rfl rfl rfl rfl ⟨rfl, rfl⟩ rfl h (fun z6 V6 h => ?_)
        refine ze_aload_n (pc := 49) zr_217_49 rfl ?_
        refine ze_iload_n (pc := 50) zr_217_50 rfl ?_
        refine zq_callV1 (pc := 51) (as := [.inr (.inr 141), .inl a1]) (r := []) (kc2 := 0) (ks2 := 0) zr_217_51 rfl (by decide) rfl rfl rfl rfl ⟨rfl, rfl⟩ ⟨rfl, rfl, rfl⟩ h (fun z7 V7 h => ?_)
        exact zq_ret1 (pc := 54) zr_217_54 rfl h
theorem zb218_141 {d : Nat} {Q : Int → z_M → Prop} (a0 : Int) (a1 : Int) {V : z_M}
    (h : ∀ W1, W1 = z_up V 141 0 0 → z_MS d 156 true [.inr (.inr 141), .inl a0] W1 (fun z1 V1 => zI (z1 = 0) (Q (-1) V1) (z_MS d 154 true [.inr (.inr 141)] V1 (fun z2 V2 => zI (z2 = 0) (Q (-1) V2) (z_MS d 145 true [.inr (.inl a1), .inr (.inl 0), .inr (.inl 2)] V2 (fun z3 V3 => zI (z3 = 0) (Q (-1) V3) (z_MS d 201 true [.inr (.inr 141)] V3 (fun z4 V4 => z_MS d 213 true [.inr (.inr 141), .inl a0, .inl (V4 141 36), .inl 2, .inl (-1)] V4 (fun z5 V5 => z_MS d 215 true [.inr (.inr 141), .inl a1] V5 (fun z6 V6 => Q z6 V6)))))))))) :
    z_MS (d + 1) 218 true [.inr (.inr 141), .inl a0, .inl a1] V Q := by
  show z_Ex (z_MS d) 218 Q true 0 [some (.inr (.inr 141)), some (.inl a0), some (.inl a1)] [] 0 0 V
  refine ze_aload_n (pc := 0) zr_218_0 rfl ?_
  refine ze_iconst (pc := 1) zr_218_1 (by decide) ?_
  refine zq_putI (pc := 2) zr_218_2 (by decide) rfl h (fun W1 h => ?_)
  refine ze_aload_n (pc := 5) zr_218_5 rfl ?_
  refine ze_iload_n (pc := 6) zr_218_6 rfl ?_
  refine zq_callV1 (pc := 7) (as := [.inr (.inr 141), .inl a0]) (r := []) (kc2 := 0) (ks2 := 0) zr_218_7 rfl (by decide) rfl rfl rfl rfl ⟨rfl, rfl⟩ ⟨rfl, rfl, rfl⟩ h (fun z1 V1 h => ?_)
  refine zq_if_eq (pc := 10) (t := 32) zr_218_10 (by decide) (z_toif h) (fun h => ?_) (fun h => ?_)
  · refine ze_iconst (pc := 32) zr_218_32 (by decide) ?_
    exact zq_ret1 (pc := 33) zr_218_33 rfl h
  · refine ze_aload_n (pc := 13) zr_218_13 rfl ?_
    refine zq_callV1 (pc := 14) (as := [.inr (.inr 141)]) (r := []) (kc2 := 0) (ks2 := 0) zr_218_14 rfl (by decide) rfl rfl rfl rfl ⟨rfl, rfl⟩ ⟨rfl, rfl, rfl⟩ h (fun z2 V2 h => ?_)
    refine zq_if_eq (pc := 17) (t := 32) zr_218_17 (by decide) (z_toif h) (fun h => ?_) (fun h => ?_)
    · refine ze_iconst (pc := 32) zr_218_32 (by decide) ?_
      exact zq_ret1 (pc := 33) zr_218_33 rfl h
    · refine ze_iload_n (pc := 20) zr_218_20 rfl ?_
      refine ze_i2l (pc := 21) zr_218_21 ?_
      refine ze_lconst (pc := 22) zr_218_22 ?_
      refine ze_ldc2 (pc := 23) (z := 2) zr_218_23 (by decide) rfl ?_
      refine zq_callS1 (pc := 26) (as := [.inr (.inl a1), .inr (.inl 0), .inr (.inl 2)]) (r := []) (kc2 := 0) (ks2 := 0) zr_218_26 rfl rfl rfl rfl ⟨rfl, rfl⟩ ⟨rfl, rfl, rfl⟩ h (fun z3 V3 h => ?_)
      refine zq_if_ne (pc := 29) (t := 34) zr_218_29 (by decide) (z_toif h) (fun h => ?_) (fun h => ?_)
      · refine ze_iconst (pc := 32) zr_218_32 (by decide) ?_
        exact zq_ret1 (pc := 33) zr_218_33 rfl h
      · refine ze_aload_n (pc := 34) zr_218_34 rfl ?_
        refine zq_callV0 (pc := 35) (as := [.inr (.inr 141)]) (r := []) (kc2 := 0) (ks2 := 0) zr_218_35 rfl (by decide) rfl rfl rfl rfl ⟨rfl, rfl⟩ rfl h (fun z4 V4 h => ?_)
        refine ze_aload_n (pc := 38) zr_218_38 rfl ?_
        refine ze_iload_n (pc := 39) zr_218_39 rfl ?_
        refine ze_aload_n (pc := 40) zr_218_40 rfl ?_
        refine ze_getfield (pc := 41) (v := .inl (V4 141 36)) zr_218_41 rfl rfl ?_
        refine ze_iconst (pc := 44) zr_218_44 (by decide) ?_
        refine ze_iconst (pc := 45) zr_218_45 (by decide) ?_
        refine zq_callV0 (pc := 46) (as := [.inr (.inr 141), .inl a0, .inl (V4 141 36), .inl 2, .inl (-1)]) (r := []) (kc2 := 0) (ks2 := 0) zr_218_46 rfl (by decide) rfl rfl rfl rfl ⟨rfl, rfl⟩ rfl h (fun z5 V5 h => ?_)
        refine ze_aload_n (pc := 49) zr_218_49 rfl ?_
        refine ze_iload_n (pc := 50) zr_218_50 rfl ?_
        refine zq_callV1 (pc := 51) (as := [.inr (.inr 141), .inl a1]) (r := []) (kc2 := 0) (ks2 := 0) zr_218_51 rfl (by decide) rfl rfl rfl rfl ⟨rfl, rfl⟩ ⟨rfl, rfl, rfl⟩ h (fun z6 V6 h => ?_)
        exact zq_ret1 (pc := 54) zr_218_54 rfl h
theorem zb219_141 {d : Nat} {Q : Int → z_M → Prop} (a0 : Int) (a1 : Int) {V : z_M}
    (h : ∀ W1, W1 = z_up V 141 0 0 → z_MS d 156 true [.inr (.inr 141), .inl a0] W1 (fun z1 V1 => zI (z1 = 0) (z_MS d 149 true [.inr (.inr 141), .inl (-2)] V1 (fun z2 V2 => Q z2 V2)) (z_MS d 155 true [.inr (.inr 141), .inl a1] V1 (fun z3 V3 => zI (z3 = 0) (z_MS d 149 true [.inr (.inr 141), .inl (-2)] V3 (fun z6 V6 => Q z6 V6)) (zI ((V3 143 4) = 7) (z_MS d 149 true [.inr (.inr 141), .inl (-5)] V3 (fun z5 V5 => Q z5 V5)) (zGu (0 ≤ (z_add 68 (z_mul 2 (V3 143 4))) ∧ (z_add 68 (z_mul 2 (V3 143 4))) < 5490) (∀ W2, W2 = z_up V3 143 (z_add 68 (z_mul 2 (V3 143 4))).toNat a0 → zGu (0 ≤ (z_add (z_add 68 (z_mul 2 (V3 143 4))) 1) ∧ (z_add (z_add 68 (z_mul 2 (V3 143 4))) 1) < 5490) (∀ W3, W3 = z_up W2 143 (z_add (z_add 68 (z_mul 2 (V3 143 4))) 1).toNat a1 → ∀ W4, W4 = z_up W3 143 4 (z_add (W3 143 4) 1) → z_MS d 149 true [.inr (.inr 141), .inl (V3 143 4)] W4 (fun z4 V4 => Q z4 V4))))))))) :
    z_MS (d + 1) 219 true [.inr (.inr 141), .inl a0, .inl a1] V Q := by
  show z_Ex (z_MS d) 219 Q true 0 [some (.inr (.inr 141)), some (.inl a0), some (.inl a1), none] [] 0 0 V
  refine ze_aload_n (pc := 0) zr_219_0 rfl ?_
  refine ze_iconst (pc := 1) zr_219_1 (by decide) ?_
  refine zq_putI (pc := 2) zr_219_2 (by decide) rfl h (fun W1 h => ?_)
  refine ze_aload_n (pc := 5) zr_219_5 rfl ?_
  refine ze_iload_n (pc := 6) zr_219_6 rfl ?_
  refine zq_callV1 (pc := 7) (as := [.inr (.inr 141), .inl a0]) (r := []) (kc2 := 0) (ks2 := 0) zr_219_7 rfl (by decide) rfl rfl rfl rfl ⟨rfl, rfl⟩ ⟨rfl, rfl, rfl⟩ h (fun z1 V1 h => ?_)
  refine zq_if_eq (pc := 10) (t := 21) zr_219_10 (by decide) (z_toif h) (fun h => ?_) (fun h => ?_)
  · refine ze_aload_n (pc := 21) zr_219_21 rfl ?_
    refine ze_bipush (pc := 22) zr_219_22 (by decide) ?_
    refine zq_callV1 (pc := 24) (as := [.inr (.inr 141), .inl (-2)]) (r := []) (kc2 := 0) (ks2 := 0) zr_219_24 rfl (by decide) rfl rfl rfl rfl ⟨rfl, rfl⟩ ⟨rfl, rfl, rfl⟩ h (fun z2 V2 h => ?_)
    exact zq_ret1 (pc := 27) zr_219_27 rfl h
  · refine ze_aload_n (pc := 13) zr_219_13 rfl ?_
    refine ze_iload_n (pc := 14) zr_219_14 rfl ?_
    refine zq_callV1 (pc := 15) (as := [.inr (.inr 141), .inl a1]) (r := []) (kc2 := 0) (ks2 := 0) zr_219_15 rfl (by decide) rfl rfl rfl rfl ⟨rfl, rfl⟩ ⟨rfl, rfl, rfl⟩ h (fun z3 V3 h => ?_)
    refine zq_if_ne (pc := 18) (t := 28) zr_219_18 (by decide) (z_toif h) (fun h => ?_) (fun h => ?_)
    · refine ze_aload_n (pc := 21) zr_219_21 rfl ?_
      refine ze_bipush (pc := 22) zr_219_22 (by decide) ?_
      refine zq_callV1 (pc := 24) (as := [.inr (.inr 141), .inl (-2)]) (r := []) (kc2 := 0) (ks2 := 0) zr_219_24 rfl (by decide) rfl rfl rfl rfl ⟨rfl, rfl⟩ ⟨rfl, rfl, rfl⟩ h (fun z6 V6 h => ?_)
      exact zq_ret1 (pc := 27) zr_219_27 rfl h
    · refine ze_aload_n (pc := 28) zr_219_28 rfl ?_
      refine ze_getfield (pc := 29) (v := .inr (.inr 143)) zr_219_29 rfl rfl ?_
      refine ze_iconst (pc := 32) zr_219_32 (by decide) ?_
      refine zq_iaload (pc := 33) (v := .inl (V3 143 4)) zr_219_33 rfl rfl (by decide) rfl ?_
      refine zq_istore_n (pc := 34) (ls2 := [some (.inr (.inr 141)), some (.inl a0), some (.inl a1), some (.inl (V3 143 4))]) zr_219_34 rfl rfl ?_
      refine ze_iload_n (pc := 35) zr_219_35 rfl ?_
      refine ze_bipush (pc := 36) zr_219_36 (by decide) ?_
      refine zq_icmp_ne (pc := 38) (t := 48) zr_219_38 (by decide) (z_toif h) (fun h => ?_) (fun h => ?_)
      · refine ze_aload_n (pc := 41) zr_219_41 rfl ?_
        refine ze_bipush (pc := 42) zr_219_42 (by decide) ?_
        refine zq_callV1 (pc := 44) (as := [.inr (.inr 141), .inl (-5)]) (r := []) (kc2 := 0) (ks2 := 0) zr_219_44 rfl (by decide) rfl rfl rfl rfl ⟨rfl, rfl⟩ ⟨rfl, rfl, rfl⟩ h (fun z5 V5 h => ?_)
        exact zq_ret1 (pc := 47) zr_219_47 rfl h
      · refine ze_aload_n (pc := 48) zr_219_48 rfl ?_
        refine ze_getfield (pc := 49) (v := .inr (.inr 143)) zr_219_49 rfl rfl ?_
        refine ze_bipush (pc := 52) zr_219_52 (by decide) ?_
        refine ze_iconst (pc := 54) zr_219_54 (by decide) ?_
        refine ze_iload_n (pc := 55) zr_219_55 rfl ?_
        refine ze_imul (pc := 56) zr_219_56 ?_
        refine ze_iadd (pc := 57) zr_219_57 ?_
        refine ze_iload_n (pc := 58) zr_219_58 rfl ?_
        refine z_gk h (fun g59 h => ?_)
        refine zq_iastore (pc := 59) zr_219_59 (by decide) rfl g59 rfl h (fun W2 h => ?_)
        refine ze_aload_n (pc := 60) zr_219_60 rfl ?_
        refine ze_getfield (pc := 61) (v := .inr (.inr 143)) zr_219_61 rfl rfl ?_
        refine ze_bipush (pc := 64) zr_219_64 (by decide) ?_
        refine ze_iconst (pc := 66) zr_219_66 (by decide) ?_
        refine ze_iload_n (pc := 67) zr_219_67 rfl ?_
        refine ze_imul (pc := 68) zr_219_68 ?_
        refine ze_iadd (pc := 69) zr_219_69 ?_
        refine ze_iconst (pc := 70) zr_219_70 (by decide) ?_
        refine ze_iadd (pc := 71) zr_219_71 ?_
        refine ze_iload_n (pc := 72) zr_219_72 rfl ?_
        refine z_gk h (fun g73 h => ?_)
        refine zq_iastore (pc := 73) zr_219_73 (by decide) rfl g73 rfl h (fun W3 h => ?_)
        refine ze_aload_n (pc := 74) zr_219_74 rfl ?_
        refine ze_getfield (pc := 75) (v := .inr (.inr 143)) zr_219_75 rfl rfl ?_
        refine ze_iconst (pc := 78) zr_219_78 (by decide) ?_
        refine zq_dup2 (pc := 79) zr_219_79 rfl rfl ?_
        refine zq_iaload (pc := 80) (v := .inl (W3 143 4)) zr_219_80 rfl rfl (by decide) rfl ?_
        refine ze_iconst (pc := 81) zr_219_81 (by decide) ?_
        refine ze_iadd (pc := 82) zr_219_82 ?_
        refine zq_iastore (pc := 83) zr_219_83 (by decide) rfl (by decide) rfl h (fun W4 h => ?_)
        refine ze_aload_n (pc := 84) zr_219_84 rfl ?_
        refine ze_iload_n (pc := 85) zr_219_85 rfl ?_
        refine zq_callV1 (pc := 86) (as := [.inr (.inr 141), .inl (V3 143 4)]) (r := []) (kc2 := 0) (ks2 := 0) zr_219_86 rfl (by decide) rfl rfl rfl rfl ⟨rfl, rfl⟩ ⟨rfl, rfl, rfl⟩ h (fun z4 V4 h => ?_)
        exact zq_ret1 (pc := 89) zr_219_89 rfl h
theorem zb220_141 {d : Nat} {Q : Int → z_M → Prop} (a0 : Int) {V : z_M}
    (h : ∀ W1, W1 = z_up V 141 0 0 → z_MS d 145 true [.inr (.inl a0), .inr (.inl 0), .inr (.inl (z_lsub (W1 143 4) 1))] W1 (fun z1 V1 => zI (z1 = 0) (z_MS d 149 true [.inr (.inr 141), .inl (-2)] V1 (fun z2 V2 => Q z2 V2)) (z_Ex (z_MS d) 220 Q true 37 [some (.inr (.inr 141)), some (.inl a0), some (.inl (z_add 68 (z_mul 2 a0)))] [] 0 0 V1))) :
    z_MS (d + 1) 220 true [.inr (.inr 141), .inl a0] V Q := by
  show z_Ex (z_MS d) 220 Q true 0 [some (.inr (.inr 141)), some (.inl a0), none] [] 0 0 V
  refine ze_aload_n (pc := 0) zr_220_0 rfl ?_
  refine ze_iconst (pc := 1) zr_220_1 (by decide) ?_
  refine zq_putI (pc := 2) zr_220_2 (by decide) rfl h (fun W1 h => ?_)
  refine ze_iload_n (pc := 5) zr_220_5 rfl ?_
  refine ze_i2l (pc := 6) zr_220_6 ?_
  refine ze_lconst (pc := 7) zr_220_7 ?_
  refine ze_aload_n (pc := 8) zr_220_8 rfl ?_
  refine ze_getfield (pc := 9) (v := .inr (.inr 143)) zr_220_9 rfl rfl ?_
  refine ze_iconst (pc := 12) zr_220_12 (by decide) ?_
  refine zq_iaload (pc := 13) (v := .inl (W1 143 4)) zr_220_13 rfl rfl (by decide) rfl ?_
  refine ze_i2l (pc := 14) zr_220_14 ?_
  refine ze_lconst (pc := 15) zr_220_15 ?_
  refine ze_lsub (pc := 16) zr_220_16 ?_
  refine zq_callS1 (pc := 17) (as := [.inr (.inl a0), .inr (.inl 0), .inr (.inl (z_lsub (W1 143 4) 1))]) (r := []) (kc2 := 0) (ks2 := 0) zr_220_17 rfl rfl rfl rfl ⟨rfl, rfl⟩ ⟨rfl, rfl, rfl⟩ h (fun z1 V1 h => ?_)
  refine zq_if_ne (pc := 20) (t := 30) zr_220_20 (by decide) (z_toif h) (fun h => ?_) (fun h => ?_)
  · refine ze_aload_n (pc := 23) zr_220_23 rfl ?_
    refine ze_bipush (pc := 24) zr_220_24 (by decide) ?_
    refine zq_callV1 (pc := 26) (as := [.inr (.inr 141), .inl (-2)]) (r := []) (kc2 := 0) (ks2 := 0) zr_220_26 rfl (by decide) rfl rfl rfl rfl ⟨rfl, rfl⟩ ⟨rfl, rfl, rfl⟩ h (fun z2 V2 h => ?_)
    exact zq_ret1 (pc := 29) zr_220_29 rfl h
  · refine ze_bipush (pc := 30) zr_220_30 (by decide) ?_
    refine ze_iconst (pc := 32) zr_220_32 (by decide) ?_
    refine ze_iload_n (pc := 33) zr_220_33 rfl ?_
    refine ze_imul (pc := 34) zr_220_34 ?_
    refine ze_iadd (pc := 35) zr_220_35 ?_
    refine zq_istore_n (pc := 36) (ls2 := [some (.inr (.inr 141)), some (.inl a0), some (.inl (z_add 68 (z_mul 2 a0)))]) zr_220_36 rfl rfl ?_
    exact h
theorem zb220_141_p37 {d : Nat} {Q : Int → z_M → Prop} (o1 : Option z_V) (l2 : Int) {V : z_M}
    (h : zI (l2 < 80) (zGu (0 ≤ (z_add l2 2) ∧ (z_add l2 2) < 5490) (∀ x55 : Int, x55 = V 143 (z_add l2 2).toNat → zGu (0 ≤ l2 ∧ l2 < 5490) (∀ W3802, W3802 = z_up V 143 l2.toNat x55 → z_Ex (z_MS d) 220 Q true 37 [some (.inr (.inr 141)), (cond (z_o2 o1) none o1), some (.inl (z_add l2 1))] [] 0 0 W3802))) (∀ W3801, W3801 = z_up V 143 4 (z_sub (V 143 4) 1) → z_MS d 149 true [.inr (.inr 141), .inl (W3801 143 4)] W3801 (fun z3801 V3801 => Q z3801 V3801))) :
    z_Ex (z_MS d) 220 Q true 37 [some (.inr (.inr 141)), o1, some (.inl l2)] [] 0 0 V := by
  refine ze_iload_n (pc := 37) zr_220_37 rfl ?_
  refine ze_bipush (pc := 38) zr_220_38 (by decide) ?_
  refine zq_icmp_ge (pc := 40) (t := 63) zr_220_40 (by decide) (z_toif h) (fun h => ?_) (fun h => ?_)
  · refine ze_aload_n (pc := 43) zr_220_43 rfl ?_
    refine ze_getfield (pc := 44) (v := .inr (.inr 143)) zr_220_44 rfl rfl ?_
    refine ze_iload_n (pc := 47) zr_220_47 rfl ?_
    refine ze_aload_n (pc := 48) zr_220_48 rfl ?_
    refine ze_getfield (pc := 49) (v := .inr (.inr 143)) zr_220_49 rfl rfl ?_
    refine ze_iload_n (pc := 52) zr_220_52 rfl ?_
    refine ze_iconst (pc := 53) zr_220_53 (by decide) ?_
    refine ze_iadd (pc := 54) zr_220_54 ?_
    refine z_gk h (fun g55 h => ?_)
    refine zl_iaload (pc := 55) zr_220_55 rfl rfl g55 h (fun x55 h => ?_)
    refine z_gk h (fun g56 h => ?_)
    refine zq_iastore (pc := 56) zr_220_56 (by decide) rfl g56 rfl h (fun W3802 h => ?_)
    refine zq_iinc (pc := 57) (ls2 := [some (.inr (.inr 141)), (cond (z_o2 o1) none o1), some (.inl (z_add l2 1))]) zr_220_57 rfl rfl rfl ?_
    refine ze_goto (pc := 60) (t := 37) zr_220_60 (by decide) ?_
    exact h
  · refine ze_aload_n (pc := 63) zr_220_63 rfl ?_
    refine ze_getfield (pc := 64) (v := .inr (.inr 143)) zr_220_64 rfl rfl ?_
    refine ze_iconst (pc := 67) zr_220_67 (by decide) ?_
    refine zq_dup2 (pc := 68) zr_220_68 rfl rfl ?_
    refine zq_iaload (pc := 69) (v := .inl (V 143 4)) zr_220_69 rfl rfl (by decide) rfl ?_
    refine ze_iconst (pc := 70) zr_220_70 (by decide) ?_
    refine ze_isub (pc := 71) zr_220_71 ?_
    refine zq_iastore (pc := 72) zr_220_72 (by decide) rfl (by decide) rfl h (fun W3801 h => ?_)
    refine ze_aload_n (pc := 73) zr_220_73 rfl ?_
    refine ze_aload_n (pc := 74) zr_220_74 rfl ?_
    refine ze_getfield (pc := 75) (v := .inr (.inr 143)) zr_220_75 rfl rfl ?_
    refine ze_iconst (pc := 78) zr_220_78 (by decide) ?_
    refine zq_iaload (pc := 79) (v := .inl (W3801 143 4)) zr_220_79 rfl rfl (by decide) rfl ?_
    refine zq_callV1 (pc := 80) (as := [.inr (.inr 141), .inl (W3801 143 4)]) (r := []) (kc2 := 0) (ks2 := 0) zr_220_80 rfl (by decide) rfl rfl rfl rfl ⟨rfl, rfl⟩ ⟨rfl, rfl, rfl⟩ h (fun z3801 V3801 h => ?_)
    exact zq_ret1 (pc := 83) zr_220_83 rfl h
theorem zb221_141 {d : Nat} {Q : Int → z_M → Prop}  {V : z_M}
    (h : ∀ W1, W1 = z_up V 141 44 (V 141 36) → z_Ex (z_MS d) 221 Q true 10 [some (.inr (.inr 141)), some (.inl 0)] [] 0 0 W1) :
    z_MS (d + 1) 221 true [.inr (.inr 141)] V Q := by
  show z_Ex (z_MS d) 221 Q true 0 [some (.inr (.inr 141)), none] [] 0 0 V
  refine ze_aload_n (pc := 0) zr_221_0 rfl ?_
  refine ze_aload_n (pc := 1) zr_221_1 rfl ?_
  refine ze_getfield (pc := 2) (v := .inl (V 141 36)) zr_221_2 rfl rfl ?_
  refine zq_putI (pc := 5) zr_221_5 (by decide) rfl h (fun W1 h => ?_)
  refine ze_iconst (pc := 8) zr_221_8 (by decide) ?_
  refine zq_istore_n (pc := 9) (ls2 := [some (.inr (.inr 141)), some (.inl 0)]) zr_221_9 rfl rfl ?_
  exact h
theorem zb221_141_p10 {d : Nat} {Q : Int → z_M → Prop} (l1 : Int) {V : z_M}
    (h : zI (l1 < 6) (zGu (0 ≤ l1 ∧ l1 < 6) (∀ W1101, W1101 = z_up V 162 l1.toNat 0 → z_Ex (z_MS d) 221 Q true 10 [some (.inr (.inr 141)), some (.inl (z_add l1 1))] [] 0 0 W1101)) (Q 0 V)) :
    z_Ex (z_MS d) 221 Q true 10 [some (.inr (.inr 141)), some (.inl l1)] [] 0 0 V := by
  refine ze_iload_n (pc := 10) zr_221_10 rfl ?_
  refine ze_bipush (pc := 11) zr_221_11 (by decide) ?_
  refine zq_icmp_ge (pc := 13) (t := 29) zr_221_13 (by decide) (z_toif h) (fun h => ?_) (fun h => ?_)
  · refine ze_aload_n (pc := 16) zr_221_16 rfl ?_
    refine ze_getfield (pc := 17) (v := .inr (.inr 162)) zr_221_17 rfl rfl ?_
    refine ze_iload_n (pc := 20) zr_221_20 rfl ?_
    refine ze_iconst (pc := 21) zr_221_21 (by decide) ?_
    refine z_gk h (fun g22 h => ?_)
    refine zq_iastore (pc := 22) zr_221_22 (by decide) rfl g22 rfl h (fun W1101 h => ?_)
    refine zq_iinc (pc := 23) (ls2 := [some (.inr (.inr 141)), some (.inl (z_add l1 1))]) zr_221_23 rfl rfl rfl ?_
    refine ze_goto (pc := 26) (t := 10) zr_221_26 (by decide) ?_
    exact h
  · exact ze_vret (pc := 29) zr_221_29 rfl h
theorem zb222_141 {d : Nat} {Q : Int → z_M → Prop} (a0 : Int) {V : z_M}
    (h : z_Ex (z_MS d) 222 Q true 4 [some (.inr (.inr 141)), some (.inl a0), some (.inl 0), some (.inl 0)] [] 0 0 V) :
    z_MS (d + 1) 222 true [.inr (.inr 141), .inl a0] V Q := by
  show z_Ex (z_MS d) 222 Q true 0 [some (.inr (.inr 141)), some (.inl a0), none, none] [] 0 0 V
  refine ze_iconst (pc := 0) zr_222_0 (by decide) ?_
  refine zq_istore_n (pc := 1) (ls2 := [some (.inr (.inr 141)), some (.inl a0), some (.inl 0), none]) zr_222_1 rfl rfl ?_
  refine ze_iconst (pc := 2) zr_222_2 (by decide) ?_
  refine zq_istore_n (pc := 3) (ls2 := [some (.inr (.inr 141)), some (.inl a0), some (.inl 0), some (.inl 0)]) zr_222_3 rfl rfl ?_
  exact h
theorem zb222_141_p4 {d : Nat} {Q : Int → z_M → Prop} (l1 : Int) (l2 : Int) (l3 : Int) {V : z_M}
    (h : zI (l3 < (V 143 1)) (zI (l2 = 0) (zGu (0 ≤ l3 ∧ l3 < 6) (∀ x23 : Int, x23 = V 162 l3.toNat → z_Ex (z_MS d) 222 Q true 4 [some (.inr (.inr 141)), some (.inl l1), some (.inl (if x23 = (z_add l1 1) then 1 else 0)), some (.inl (z_add l3 1))] [] 0 0 V)) (z_Ex (z_MS d) 222 Q true 4 [some (.inr (.inr 141)), some (.inl l1), some (.inl 1), some (.inl (z_add l3 1))] [] 0 0 V)) (zGu (l2 = 0 ∨ l2 = 1) (Q l2 V))) :
    z_Ex (z_MS d) 222 Q true 4 [some (.inr (.inr 141)), some (.inl l1), some (.inl l2), some (.inl l3)] [] 0 0 V := by
  refine ze_iload_n (pc := 4) zr_222_4 rfl ?_
  refine ze_aload_n (pc := 5) zr_222_5 rfl ?_
  refine ze_getfield (pc := 6) (v := .inr (.inr 143)) zr_222_6 rfl rfl ?_
  refine ze_iconst (pc := 9) zr_222_9 (by decide) ?_
  refine zq_iaload (pc := 10) (v := .inl (V 143 1)) zr_222_10 rfl rfl (by decide) rfl ?_
  refine zq_icmp_ge (pc := 11) (t := 42) zr_222_11 (by decide) (z_toif h) (fun h => ?_) (fun h => ?_)
  · refine ze_iload_n (pc := 14) zr_222_14 rfl ?_
    refine zq_if_ne (pc := 15) (t := 30) zr_222_15 (by decide) (z_toif h) (fun h => ?_) (fun h => ?_)
    · refine ze_aload_n (pc := 18) zr_222_18 rfl ?_
      refine ze_getfield (pc := 19) (v := .inr (.inr 162)) zr_222_19 rfl rfl ?_
      refine ze_iload_n (pc := 22) zr_222_22 rfl ?_
      refine z_gk h (fun g23 h => ?_)
      refine zl_iaload (pc := 23) zr_222_23 rfl rfl g23 h (fun x23 h => ?_)
      refine ze_iload_n (pc := 24) zr_222_24 rfl ?_
      refine ze_iconst (pc := 25) zr_222_25 (by decide) ?_
      refine ze_iadd (pc := 26) zr_222_26 ?_
      have j27 : z_Ex (z_MS d) 222 Q true 35 [some (.inr (.inr 141)), some (.inl l1), some (.inl l2), some (.inl l3)] [.inl (if x23 = (z_add l1 1) then 1 else 0)] 0 0 V := by
        refine zq_istore_n (pc := 35) (ls2 := [some (.inr (.inr 141)), some (.inl l1), some (.inl (if x23 = (z_add l1 1) then 1 else 0)), some (.inl l3)]) zr_222_35 rfl rfl ?_
        refine zq_iinc (pc := 36) (ls2 := [some (.inr (.inr 141)), some (.inl l1), some (.inl (if x23 = (z_add l1 1) then 1 else 0)), some (.inl (z_add l3 1))]) zr_222_36 rfl rfl rfl ?_
        refine ze_goto (pc := 39) (t := 4) zr_222_39 (by decide) ?_
        exact h
      refine ze_icmp_ne (pc := 27) (t := 34) zr_222_27 (by decide) (fun hc => ?_) (fun hc => ?_)
      · rw [if_pos (show x23 = (z_add l1 1) from hc)] at j27
        refine ze_iconst (pc := 30) zr_222_30 (by decide) ?_
        refine ze_goto (pc := 31) (t := 35) zr_222_31 (by decide) ?_
        exact j27
      · rw [if_neg (show ¬ (x23 = (z_add l1 1)) from hc)] at j27
        refine ze_iconst (pc := 34) zr_222_34 (by decide) ?_
        exact j27
    · refine ze_iconst (pc := 30) zr_222_30 (by decide) ?_
      refine ze_goto (pc := 31) (t := 35) zr_222_31 (by decide) ?_
      refine zq_istore_n (pc := 35) (ls2 := [some (.inr (.inr 141)), some (.inl l1), some (.inl 1), some (.inl l3)]) zr_222_35 rfl rfl ?_
      refine zq_iinc (pc := 36) (ls2 := [some (.inr (.inr 141)), some (.inl l1), some (.inl 1), some (.inl (z_add l3 1))]) zr_222_36 rfl rfl rfl ?_
      refine ze_goto (pc := 39) (t := 4) zr_222_39 (by decide) ?_
      exact h
  · refine ze_iload_n (pc := 42) zr_222_42 rfl ?_
    refine z_gk h (fun g43 h => ?_)
    exact zq_ret4 (pc := 43) zr_222_43 rfl g43 h
theorem zb223_141 {d : Nat} {Q : Int → z_M → Prop} (a0 : Int) (a1 : Int) {V : z_M}
    (h : z_MS d 146 true [.inl (V 141 44), .inl a1] V (fun z1 V1 => zI (z1 = 0) (z_MS d 222 true [.inr (.inr 141), .inl a1] V1 (fun z2 V2 => zI (z2 = 0) (zGu (0 ≤ a0 ∧ a0 < 6) (∀ x28 : Int, x28 = V2 162 a0.toNat → zGu (0 ≤ a0 ∧ a0 < 6) (∀ x34 : Int, x34 = V2 157 a0.toNat → z_MS d 207 true [.inr (.inr 141), .inl a0, .inl x28, .inl (z_and x34 (z_xor (V2 141 44) (-1)))] V2 (fun z3 V3 => z_Ex (z_MS d) 223 Q true 50 [some (.inr (.inr 141)), some (.inl a0), some (.inl a1), some (.inl (-1)), some (.inl 0), none] [] 0 0 V3)))) (Q 0 V2))) (Q 0 V1))) :
    z_MS (d + 1) 223 true [.inr (.inr 141), .inl a0, .inl a1] V Q := by
  show z_Ex (z_MS d) 223 Q true 0 [some (.inr (.inr 141)), some (.inl a0), some (.inl a1), none, none, none] [] 0 0 V
  refine ze_aload_n (pc := 0) zr_223_0 rfl ?_
  refine ze_getfield (pc := 1) (v := .inl (V 141 44)) zr_223_1 rfl rfl ?_
  refine ze_iload_n (pc := 4) zr_223_4 rfl ?_
  refine zq_callS1 (pc := 5) (as := [.inl (V 141 44), .inl a1]) (r := []) (kc2 := 0) (ks2 := 0) zr_223_5 rfl rfl rfl rfl ⟨rfl, rfl⟩ ⟨rfl, rfl, rfl⟩ h (fun z1 V1 h => ?_)
  refine zq_if_ne (pc := 8) (t := 19) zr_223_8 (by decide) (z_toif h) (fun h => ?_) (fun h => ?_)
  · refine ze_aload_n (pc := 11) zr_223_11 rfl ?_
    refine ze_iload_n (pc := 12) zr_223_12 rfl ?_
    refine zq_callV1 (pc := 13) (as := [.inr (.inr 141), .inl a1]) (r := []) (kc2 := 0) (ks2 := 0) zr_223_13 rfl (by decide) rfl rfl rfl rfl ⟨rfl, rfl⟩ ⟨rfl, rfl, rfl⟩ h (fun z2 V2 h => ?_)
    refine zq_if_eq (pc := 16) (t := 21) zr_223_16 (by decide) (z_toif h) (fun h => ?_) (fun h => ?_)
    · refine ze_aload_n (pc := 21) zr_223_21 rfl ?_
      refine ze_iload_n (pc := 22) zr_223_22 rfl ?_
      refine ze_aload_n (pc := 23) zr_223_23 rfl ?_
      refine ze_getfield (pc := 24) (v := .inr (.inr 162)) zr_223_24 rfl rfl ?_
      refine ze_iload_n (pc := 27) zr_223_27 rfl ?_
      refine z_gk h (fun g28 h => ?_)
      refine zl_iaload (pc := 28) zr_223_28 rfl rfl g28 h (fun x28 h => ?_)
      refine ze_aload_n (pc := 29) zr_223_29 rfl ?_
      refine ze_getfield (pc := 30) (v := .inr (.inr 157)) zr_223_30 rfl rfl ?_
      refine ze_iload_n (pc := 33) zr_223_33 rfl ?_
      refine z_gk h (fun g34 h => ?_)
      refine zl_iaload (pc := 34) zr_223_34 rfl rfl g34 h (fun x34 h => ?_)
      refine ze_aload_n (pc := 35) zr_223_35 rfl ?_
      refine ze_getfield (pc := 36) (v := .inl (V2 141 44)) zr_223_36 rfl rfl ?_
      refine ze_iconst (pc := 39) zr_223_39 (by decide) ?_
      refine ze_ixor (pc := 40) zr_223_40 ?_
      refine ze_iand (pc := 41) zr_223_41 ?_
      refine zq_callV0 (pc := 42) (as := [.inr (.inr 141), .inl a0, .inl x28, .inl (z_and x34 (z_xor (V2 141 44) (-1)))]) (r := []) (kc2 := 0) (ks2 := 0) zr_223_42 rfl (by decide) rfl rfl rfl rfl ⟨rfl, rfl⟩ rfl h (fun z3 V3 h => ?_)
      refine ze_iconst (pc := 45) zr_223_45 (by decide) ?_
      refine zq_istore_n (pc := 46) (ls2 := [some (.inr (.inr 141)), some (.inl a0), some (.inl a1), some (.inl (-1)), none, none]) zr_223_46 rfl rfl ?_
      refine ze_iconst (pc := 47) zr_223_47 (by decide) ?_
      refine zq_istore (pc := 48) (ls2 := [some (.inr (.inr 141)), some (.inl a0), some (.inl a1), some (.inl (-1)), some (.inl 0), none]) zr_223_48 rfl rfl ?_
      exact h
    · refine ze_iconst (pc := 19) zr_223_19 (by decide) ?_
      exact zq_ret4 (pc := 20) zr_223_20 rfl (by decide) h
  · refine ze_iconst (pc := 19) zr_223_19 (by decide) ?_
    exact zq_ret4 (pc := 20) zr_223_20 rfl (by decide) h
theorem zb223_141_p50 {d : Nat} {Q : Int → z_M → Prop} (l1 : Int) (l2 : Int) (l3 : Int) (l4 : Int) (o5 : Option z_V) {V : z_M}
    (h : z_MS d 154 true [.inr (.inr 141)] V (fun z5101 V5101 => zI (z5101 < l4) (zI (l3 = (-1)) (Q 0 V5101) (zGu (0 ≤ l1 ∧ l1 < 6) (∀ W5101, W5101 = z_up V5101 162 l1.toNat l3 → ∀ W5102, W5102 = z_up W5101 141 44 (z_or (W5101 141 44) (z_shl 1 l2)) → Q 1 W5102))) (zGu (0 ≤ l4 ∧ l4 < 13) (∀ x65 : Int, x65 = V5101 159 l4.toNat → zI (x65 = (-1)) (z_Ex (z_MS d) 223 Q true 107 [some (.inr (.inr 141)), some (.inl l1), some (.inl l2), some (.inl l3), some (.inl l4), o5] [.inl 0] 0 0 V5101) (zI (l4 = (z_add l2 1)) (z_Ex (z_MS d) 223 Q true 107 [some (.inr (.inr 141)), some (.inl l1), some (.inl l2), some (.inl l3), some (.inl l4), o5] [.inl 0] 0 0 V5101) (z_MS d 205 true [.inr (.inr 141), .inl l4] V5101 (fun z5102 V5102 => zGu (0 ≤ l2 ∧ l2 < 12) (∀ x89 : Int, x89 = V5102 156 l2.toNat → z_MS d 148 true [.inl (z_sub z5102 x89)] V5102 (fun z5103 V5103 => z_MS d 158 true [.inr (.inr 141), .inl l1] V5103 (fun z5104 V5104 => z_Ex (z_MS d) 223 Q true 107 [some (.inr (.inr 141)), some (.inl l1), some (.inl l2), some (.inl l3), some (.inl l4), o5] [.inl (if z5104 < z5103 then 0 else 1)] 0 0 V5104)))))))))) :
    z_Ex (z_MS d) 223 Q true 50 [some (.inr (.inr 141)), some (.inl l1), some (.inl l2), some (.inl l3), some (.inl l4), o5] [] 0 0 V := by
  refine ze_iload (pc := 50) zr_223_50 rfl ?_
  refine ze_aload_n (pc := 52) zr_223_52 rfl ?_
  refine zq_callV1 (pc := 53) (as := [.inr (.inr 141)]) (r := [.inl l4]) (kc2 := 0) (ks2 := 0) zr_223_53 rfl (by decide) rfl rfl rfl rfl ⟨rfl, rfl⟩ ⟨rfl, rfl, rfl⟩ h (fun z5101 V5101 h => ?_)
  refine zq_icmp_gt (pc := 56) (t := 148) zr_223_56 (by decide) (z_toif h) (fun h => ?_) (fun h => ?_)
  · refine ze_iload_n (pc := 148) zr_223_148 rfl ?_
    refine ze_iconst (pc := 149) zr_223_149 (by decide) ?_
    refine zq_icmp_ne (pc := 150) (t := 155) zr_223_150 (by decide) (z_toif h) (fun h => ?_) (fun h => ?_)
    · refine ze_iconst (pc := 153) zr_223_153 (by decide) ?_
      exact zq_ret4 (pc := 154) zr_223_154 rfl (by decide) h
    · refine ze_aload_n (pc := 155) zr_223_155 rfl ?_
      refine ze_getfield (pc := 156) (v := .inr (.inr 162)) zr_223_156 rfl rfl ?_
      refine ze_iload_n (pc := 159) zr_223_159 rfl ?_
      refine ze_iload_n (pc := 160) zr_223_160 rfl ?_
      refine z_gk h (fun g161 h => ?_)
      refine zq_iastore (pc := 161) zr_223_161 (by decide) rfl g161 rfl h (fun W5101 h => ?_)
      refine ze_aload_n (pc := 162) zr_223_162 rfl ?_
      refine ze_dup (pc := 163) zr_223_163 rfl ?_
      refine ze_getfield (pc := 164) (v := .inl (W5101 141 44)) zr_223_164 rfl rfl ?_
      refine ze_iconst (pc := 167) zr_223_167 (by decide) ?_
      refine ze_iload_n (pc := 168) zr_223_168 rfl ?_
      refine ze_ishl (pc := 169) zr_223_169 ?_
      refine ze_ior (pc := 170) zr_223_170 ?_
      refine zq_putI (pc := 171) zr_223_171 (by decide) rfl h (fun W5102 h => ?_)
      refine ze_iconst (pc := 174) zr_223_174 (by decide) ?_
      exact zq_ret4 (pc := 175) zr_223_175 rfl (by decide) h
  · refine ze_aload_n (pc := 59) zr_223_59 rfl ?_
    refine ze_getfield (pc := 60) (v := .inr (.inr 159)) zr_223_60 rfl rfl ?_
    refine ze_iload (pc := 63) zr_223_63 rfl ?_
    refine z_gk h (fun g65 h => ?_)
    refine zl_iaload (pc := 65) zr_223_65 rfl rfl g65 h (fun x65 h => ?_)
    refine ze_iconst (pc := 66) zr_223_66 (by decide) ?_
    refine zq_icmp_eq (pc := 67) (t := 106) zr_223_67 (by decide) (z_toif h) (fun h => ?_) (fun h => ?_)
    · refine ze_iconst (pc := 106) zr_223_106 (by decide) ?_
      exact h
    · refine ze_iload (pc := 70) zr_223_70 rfl ?_
      refine ze_iload_n (pc := 72) zr_223_72 rfl ?_
      refine ze_iconst (pc := 73) zr_223_73 (by decide) ?_
      refine ze_iadd (pc := 74) zr_223_74 ?_
      refine zq_icmp_eq (pc := 75) (t := 106) zr_223_75 (by decide) (z_toif h) (fun h => ?_) (fun h => ?_)
      · refine ze_iconst (pc := 106) zr_223_106 (by decide) ?_
        exact h
      · refine ze_aload_n (pc := 78) zr_223_78 rfl ?_
        refine ze_iload (pc := 79) zr_223_79 rfl ?_
        refine zq_callV1 (pc := 81) (as := [.inr (.inr 141), .inl l4]) (r := []) (kc2 := 0) (ks2 := 0) zr_223_81 rfl (by decide) rfl rfl rfl rfl ⟨rfl, rfl⟩ ⟨rfl, rfl, rfl⟩ h (fun z5102 V5102 h => ?_)
        refine ze_aload_n (pc := 84) zr_223_84 rfl ?_
        refine ze_getfield (pc := 85) (v := .inr (.inr 156)) zr_223_85 rfl rfl ?_
        refine ze_iload_n (pc := 88) zr_223_88 rfl ?_
        refine z_gk h (fun g89 h => ?_)
        refine zl_iaload (pc := 89) zr_223_89 rfl rfl g89 h (fun x89 h => ?_)
        refine ze_isub (pc := 90) zr_223_90 ?_
        refine zq_callS1 (pc := 91) (as := [.inl (z_sub z5102 x89)]) (r := []) (kc2 := 0) (ks2 := 0) zr_223_91 rfl rfl rfl rfl ⟨rfl, rfl⟩ ⟨rfl, rfl, rfl⟩ h (fun z5103 V5103 h => ?_)
        refine ze_aload_n (pc := 94) zr_223_94 rfl ?_
        refine ze_iload_n (pc := 95) zr_223_95 rfl ?_
        refine zq_callV1 (pc := 96) (as := [.inr (.inr 141), .inl l1]) (r := [.inl z5103]) (kc2 := 0) (ks2 := 0) zr_223_96 rfl (by decide) rfl rfl rfl rfl ⟨rfl, rfl⟩ ⟨rfl, rfl, rfl⟩ h (fun z5104 V5104 h => ?_)
        have j99 : z_Ex (z_MS d) 223 Q true 107 [some (.inr (.inr 141)), some (.inl l1), some (.inl l2), some (.inl l3), some (.inl l4), o5] [.inl (if z5104 < z5103 then 0 else 1)] 0 0 V5104 := by
          exact h
        refine ze_icmp_gt (pc := 99) (t := 106) zr_223_99 (by decide) (fun hc => ?_) (fun hc => ?_)
        · rw [if_pos (show z5104 < z5103 from hc)] at j99
          refine ze_iconst (pc := 106) zr_223_106 (by decide) ?_
          exact j99
        · rw [if_neg (show ¬ (z5104 < z5103) from hc)] at j99
          refine ze_iconst (pc := 102) zr_223_102 (by decide) ?_
          refine ze_goto (pc := 103) (t := 107) zr_223_103 (by decide) ?_
          exact j99
theorem zb223_141_p107 {d : Nat} {Q : Int → z_M → Prop} (l1 : Int) (l2 : Int) (l3 : Int) (l4 : Int) (o5 : Option z_V) (s0 : Int) {V : z_M}
    (h : zI (s0 = 0) (z_Ex (z_MS d) 223 Q true 50 [some (.inr (.inr 141)), some (.inl l1), some (.inl l2), some (.inl l3), some (.inl (z_add l4 1)), some (.inl s0)] [] 0 0 V) (zI (l3 = (-1)) (z_Ex (z_MS d) 223 Q true 50 [some (.inr (.inr 141)), some (.inl l1), some (.inl l2), some (.inl l4), some (.inl (z_add l4 1)), some (.inl s0)] [] 0 0 V) (zGu (0 ≤ l4 ∧ l4 < 13) (∀ x125 : Int, x125 = V 159 l4.toNat → zGu (0 ≤ l3 ∧ l3 < 13) (∀ x131 : Int, x131 = V 159 l3.toNat → z_Ex (z_MS d) 223 Q true 50 [some (.inr (.inr 141)), some (.inl l1), some (.inl l2), some (.inl (if x125 < x131 then l4 else l3)), some (.inl (z_add l4 1)), some (.inl s0)] [] 0 0 V))))) :
    z_Ex (z_MS d) 223 Q true 107 [some (.inr (.inr 141)), some (.inl l1), some (.inl l2), some (.inl l3), some (.inl l4), o5] [.inl s0] 0 0 V := by
  refine zq_istore (pc := 107) (ls2 := [some (.inr (.inr 141)), some (.inl l1), some (.inl l2), some (.inl l3), some (.inl l4), some (.inl s0)]) zr_223_107 rfl rfl ?_
  refine ze_iload (pc := 109) zr_223_109 rfl ?_
  refine zq_if_eq (pc := 111) (t := 140) zr_223_111 (by decide) (z_toif h) (fun h => ?_) (fun h => ?_)
  · refine ze_iload_n (pc := 140) zr_223_140 rfl ?_
    refine zq_istore_n (pc := 141) (ls2 := [some (.inr (.inr 141)), some (.inl l1), some (.inl l2), some (.inl l3), some (.inl l4), some (.inl s0)]) zr_223_141 rfl rfl ?_
    refine zq_iinc (pc := 142) (ls2 := [some (.inr (.inr 141)), some (.inl l1), some (.inl l2), some (.inl l3), some (.inl (z_add l4 1)), some (.inl s0)]) zr_223_142 rfl rfl rfl ?_
    refine ze_goto (pc := 145) (t := 50) zr_223_145 (by decide) ?_
    exact h
  · refine ze_iload_n (pc := 114) zr_223_114 rfl ?_
    refine ze_iconst (pc := 115) zr_223_115 (by decide) ?_
    refine zq_icmp_eq (pc := 116) (t := 135) zr_223_116 (by decide) (z_toif h) (fun h => ?_) (fun h => ?_)
    · refine ze_iload (pc := 135) zr_223_135 rfl ?_
      refine ze_goto (pc := 137) (t := 141) zr_223_137 (by decide) ?_
      refine zq_istore_n (pc := 141) (ls2 := [some (.inr (.inr 141)), some (.inl l1), some (.inl l2), some (.inl l4), some (.inl l4), some (.inl s0)]) zr_223_141 rfl rfl ?_
      refine zq_iinc (pc := 142) (ls2 := [some (.inr (.inr 141)), some (.inl l1), some (.inl l2), some (.inl l4), some (.inl (z_add l4 1)), some (.inl s0)]) zr_223_142 rfl rfl rfl ?_
      refine ze_goto (pc := 145) (t := 50) zr_223_145 (by decide) ?_
      exact h
    · refine ze_aload_n (pc := 119) zr_223_119 rfl ?_
      refine ze_getfield (pc := 120) (v := .inr (.inr 159)) zr_223_120 rfl rfl ?_
      refine ze_iload (pc := 123) zr_223_123 rfl ?_
      refine z_gk h (fun g125 h => ?_)
      refine zl_iaload (pc := 125) zr_223_125 rfl rfl g125 h (fun x125 h => ?_)
      refine ze_aload_n (pc := 126) zr_223_126 rfl ?_
      refine ze_getfield (pc := 127) (v := .inr (.inr 159)) zr_223_127 rfl rfl ?_
      refine ze_iload_n (pc := 130) zr_223_130 rfl ?_
      refine z_gk h (fun g131 h => ?_)
      refine zl_iaload (pc := 131) zr_223_131 rfl rfl g131 h (fun x131 h => ?_)
      have j132 : z_Ex (z_MS d) 223 Q true 141 [some (.inr (.inr 141)), some (.inl l1), some (.inl l2), some (.inl l3), some (.inl l4), some (.inl s0)] [.inl (if x125 < x131 then l4 else l3)] 0 0 V := by
        refine zq_istore_n (pc := 141) (ls2 := [some (.inr (.inr 141)), some (.inl l1), some (.inl l2), some (.inl (if x125 < x131 then l4 else l3)), some (.inl l4), some (.inl s0)]) zr_223_141 rfl rfl ?_
        refine zq_iinc (pc := 142) (ls2 := [some (.inr (.inr 141)), some (.inl l1), some (.inl l2), some (.inl (if x125 < x131 then l4 else l3)), some (.inl (z_add l4 1)), some (.inl s0)]) zr_223_142 rfl rfl rfl ?_
        refine ze_goto (pc := 145) (t := 50) zr_223_145 (by decide) ?_
        exact h
      refine ze_icmp_ge (pc := 132) (t := 140) zr_223_132 (by decide) (fun hc => ?_) (fun hc => ?_)
      · rw [if_pos (show x125 < x131 from hc)] at j132
        refine ze_iload (pc := 135) zr_223_135 rfl ?_
        refine ze_goto (pc := 137) (t := 141) zr_223_137 (by decide) ?_
        exact j132
      · rw [if_neg (show ¬ (x125 < x131) from hc)] at j132
        refine ze_iload_n (pc := 140) zr_223_140 rfl ?_
        exact j132
