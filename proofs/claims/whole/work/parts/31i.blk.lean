/-! blocks of rows: printed by a program (blk2.py) -/
theorem zb196_141 {d : Nat} {Q : Int → z_M → Prop}  {V : z_M}
    (h : ∀ W1, W1 = z_up V 141 0 0 → zI ((W1 143 2) = 6) (∀ W5, W5 = z_up W1 141 8 0 → z_MS d 149 true [.inr (.inr 141), .inl (-5)] W5 (fun z3 V3 => Q z3 V3)) (z_MS d 175 true [.inr (.inr 141)] W1 (fun z1 V1 => ∀ W2, W2 = z_up V1 141 15 0 → ∀ W3, W3 = z_up W2 141 17 0 → ∀ W4, W4 = z_up W3 141 20 0 → z_MS d 195 true [.inr (.inr 141)] W4 (fun z2 V2 => z_Ex (z_MS d) 196 Q true 51 [some (.inr (.inr 141)), none, none] [] 0 0 V2)))) :
    z_MS (d + 1) 196 true [.inr (.inr 141)] V Q := by
  show z_Ex (z_MS d) 196 Q true 0 [some (.inr (.inr 141)), none, none] [] 0 0 V
  refine ze_aload_n (pc := 0) zr_196_0 rfl ?_
  refine ze_iconst (pc := 1) zr_196_1 (by decide) ?_
  refine zq_putI (pc := 2) zr_196_2 (by decide) rfl h (fun W1 h => ?_)
  refine ze_aload_n (pc := 5) zr_196_5 rfl ?_
  refine ze_getfield (pc := 6) (v := .inr (.inr 143)) zr_196_6 rfl rfl ?_
  refine ze_iconst (pc := 9) zr_196_9 (by decide) ?_
  refine zq_iaload (pc := 10) (v := .inl (W1 143 2)) zr_196_10 rfl rfl (by decide) rfl ?_
  refine ze_bipush (pc := 11) zr_196_11 (by decide) ?_
  refine zq_icmp_ne (pc := 13) (t := 28) zr_196_13 (by decide) (z_toif h) (fun h => ?_) (fun h => ?_)
  · refine ze_aload_n (pc := 16) zr_196_16 rfl ?_
    refine ze_iconst (pc := 17) zr_196_17 (by decide) ?_
    refine zq_putI (pc := 18) zr_196_18 (by decide) rfl h (fun W5 h => ?_)
    refine ze_aload_n (pc := 21) zr_196_21 rfl ?_
    refine ze_bipush (pc := 22) zr_196_22 (by decide) ?_
    refine zq_callV1 (pc := 24) (as := [.inr (.inr 141), .inl (-5)]) (r := []) (kc2 := 0) (ks2 := 0) zr_196_24 rfl (by decide) rfl rfl rfl rfl ⟨rfl, rfl⟩ ⟨rfl, rfl, rfl⟩ h (fun z3 V3 h => ?_)
    exact zq_ret1 (pc := 27) zr_196_27 rfl h
  · refine ze_aload_n (pc := 28) zr_196_28 rfl ?_
    refine zq_callV0 (pc := 29) (as := [.inr (.inr 141)]) (r := []) (kc2 := 0) (ks2 := 0) zr_196_29 rfl (by decide) rfl rfl rfl rfl ⟨rfl, rfl⟩ rfl h (fun z1 V1 h => ?_)
    refine ze_aload_n (pc := 32) zr_196_32 rfl ?_
    refine ze_iconst (pc := 33) zr_196_33 (by decide) ?_
    refine zq_putI (pc := 34) zr_196_34 (by decide) rfl h (fun W2 h => ?_)
    refine ze_aload_n (pc := 37) zr_196_37 rfl ?_
    refine ze_iconst (pc := 38) zr_196_38 (by decide) ?_
    refine zq_putI (pc := 39) zr_196_39 (by decide) rfl h (fun W3 h => ?_)
    refine ze_aload_n (pc := 42) zr_196_42 rfl ?_
    refine ze_iconst (pc := 43) zr_196_43 (by decide) ?_
    refine zq_putI (pc := 44) zr_196_44 (by decide) rfl h (fun W4 h => ?_)
    refine ze_aload_n (pc := 47) zr_196_47 rfl ?_
    refine zq_callV0 (pc := 48) (as := [.inr (.inr 141)]) (r := []) (kc2 := 0) (ks2 := 0) zr_196_48 rfl (by decide) rfl rfl rfl rfl ⟨rfl, rfl⟩ rfl h (fun z2 V2 h => ?_)
    exact h
theorem zb196_141_p51 {d : Nat} {Q : Int → z_M → Prop}  {V : z_M}
    (h : zI ((V 141 14) = 0) (z_MS d 178 true [.inr (.inr 141), .inl 59] V (fun z5202 V5202 => zI (z5202 = 0) (zI ((V5202 141 14) = 0) (zI ((V5202 141 11) = 0) (z_Ex (z_MS d) 196 Q true 97 [some (.inr (.inr 141)), none, none] [] 0 0 V5202) (z_MS d 179 true [.inr (.inr 141), .inl 0] V5202 (fun z5203 V5203 => z_Ex (z_MS d) 196 Q true 97 [some (.inr (.inr 141)), none, none] [] 0 0 V5203))) (z_Ex (z_MS d) 196 Q true 97 [some (.inr (.inr 141)), none, none] [] 0 0 V5202)) (z_MS d 176 true [.inr (.inr 141)] V5202 (fun z5204 V5204 => z_MS d 195 true [.inr (.inr 141)] V5204 (fun z5205 V5205 => z_Ex (z_MS d) 196 Q true 51 [some (.inr (.inr 141)), none, none] [] 0 0 V5205))))) (zI ((V 141 14) = 0) (zI ((V 141 11) = 0) (z_Ex (z_MS d) 196 Q true 97 [some (.inr (.inr 141)), none, none] [] 0 0 V) (z_MS d 179 true [.inr (.inr 141), .inl 0] V (fun z5201 V5201 => z_Ex (z_MS d) 196 Q true 97 [some (.inr (.inr 141)), none, none] [] 0 0 V5201))) (z_Ex (z_MS d) 196 Q true 97 [some (.inr (.inr 141)), none, none] [] 0 0 V))) :
    z_Ex (z_MS d) 196 Q true 51 [some (.inr (.inr 141)), none, none] [] 0 0 V := by
  refine ze_aload_n (pc := 51) zr_196_51 rfl ?_
  refine ze_getfield (pc := 52) (v := .inl (V 141 14)) zr_196_52 rfl rfl ?_
  refine zq_if_ne (pc := 55) (t := 78) zr_196_55 (by decide) (z_toif h) (fun h => ?_) (fun h => ?_)
  · refine ze_aload_n (pc := 58) zr_196_58 rfl ?_
    refine ze_bipush (pc := 59) zr_196_59 (by decide) ?_
    refine zq_callV1 (pc := 61) (as := [.inr (.inr 141), .inl 59]) (r := []) (kc2 := 0) (ks2 := 0) zr_196_61 rfl (by decide) rfl rfl rfl rfl ⟨rfl, rfl⟩ ⟨rfl, rfl, rfl⟩ h (fun z5202 V5202 h => ?_)
    refine zq_if_eq (pc := 64) (t := 78) zr_196_64 (by decide) (z_toif h) (fun h => ?_) (fun h => ?_)
    · refine ze_aload_n (pc := 78) zr_196_78 rfl ?_
      refine ze_getfield (pc := 79) (v := .inl (V5202 141 14)) zr_196_79 rfl rfl ?_
      refine zq_if_ne (pc := 82) (t := 97) zr_196_82 (by decide) (z_toif h) (fun h => ?_) (fun h => ?_)
      · refine ze_aload_n (pc := 85) zr_196_85 rfl ?_
        refine ze_getfield (pc := 86) (v := .inl (V5202 141 11)) zr_196_86 rfl rfl ?_
        refine zq_if_eq (pc := 89) (t := 97) zr_196_89 (by decide) (z_toif h) (fun h => ?_) (fun h => ?_)
        · exact h
        · refine ze_aload_n (pc := 92) zr_196_92 rfl ?_
          refine ze_iconst (pc := 93) zr_196_93 (by decide) ?_
          refine zq_callV0 (pc := 94) (as := [.inr (.inr 141), .inl 0]) (r := []) (kc2 := 0) (ks2 := 0) zr_196_94 rfl (by decide) rfl rfl rfl rfl ⟨rfl, rfl⟩ rfl h (fun z5203 V5203 h => ?_)
          exact h
      · exact h
    · refine ze_aload_n (pc := 67) zr_196_67 rfl ?_
      refine zq_callV0 (pc := 68) (as := [.inr (.inr 141)]) (r := []) (kc2 := 0) (ks2 := 0) zr_196_68 rfl (by decide) rfl rfl rfl rfl ⟨rfl, rfl⟩ rfl h (fun z5204 V5204 h => ?_)
      refine ze_aload_n (pc := 71) zr_196_71 rfl ?_
      refine zq_callV0 (pc := 72) (as := [.inr (.inr 141)]) (r := []) (kc2 := 0) (ks2 := 0) zr_196_72 rfl (by decide) rfl rfl rfl rfl ⟨rfl, rfl⟩ rfl h (fun z5205 V5205 h => ?_)
      refine ze_goto (pc := 75) (t := 51) zr_196_75 (by decide) ?_
      exact h
  · refine ze_aload_n (pc := 78) zr_196_78 rfl ?_
    refine ze_getfield (pc := 79) (v := .inl (V 141 14)) zr_196_79 rfl rfl ?_
    refine zq_if_ne (pc := 82) (t := 97) zr_196_82 (by decide) (z_toif h) (fun h => ?_) (fun h => ?_)
    · refine ze_aload_n (pc := 85) zr_196_85 rfl ?_
      refine ze_getfield (pc := 86) (v := .inl (V 141 11)) zr_196_86 rfl rfl ?_
      refine zq_if_eq (pc := 89) (t := 97) zr_196_89 (by decide) (z_toif h) (fun h => ?_) (fun h => ?_)
      · exact h
      · refine ze_aload_n (pc := 92) zr_196_92 rfl ?_
        refine ze_iconst (pc := 93) zr_196_93 (by decide) ?_
        refine zq_callV0 (pc := 94) (as := [.inr (.inr 141), .inl 0]) (r := []) (kc2 := 0) (ks2 := 0) zr_196_94 rfl (by decide) rfl rfl rfl rfl ⟨rfl, rfl⟩ rfl h (fun z5201 V5201 h => ?_)
        exact h
    · exact h
theorem zb196_141_p97 {d : Nat} {Q : Int → z_M → Prop}  {V : z_M}
    (h : ∀ W9801, W9801 = z_up V 141 8 0 → zI ((W9801 141 14) = 0) (zGu (0 ≤ (z_add (z_add 90 (z_mul 900 (W9801 143 2))) 1) ∧ (z_add (z_add 90 (z_mul 900 (W9801 143 2))) 1) < 5490) (∀ W9802, W9802 = z_up W9801 143 (z_add (z_add 90 (z_mul 900 (W9801 143 2))) 1).toNat (W9801 141 15) → z_Ex (z_MS d) 196 Q true 144 [some (.inr (.inr 141)), some (.inl (z_add 90 (z_mul 900 (W9801 143 2)))), some (.inl 0)] [] 0 0 W9802)) (z_MS d 149 true [.inr (.inr 141), .inl (-6)] W9801 (fun z9801 V9801 => Q z9801 V9801))) :
    z_Ex (z_MS d) 196 Q true 97 [some (.inr (.inr 141)), none, none] [] 0 0 V := by
  refine ze_aload_n (pc := 97) zr_196_97 rfl ?_
  refine ze_iconst (pc := 98) zr_196_98 (by decide) ?_
  refine zq_putI (pc := 99) zr_196_99 (by decide) rfl h (fun W9801 h => ?_)
  refine ze_aload_n (pc := 102) zr_196_102 rfl ?_
  refine ze_getfield (pc := 103) (v := .inl (W9801 141 14)) zr_196_103 rfl rfl ?_
  refine zq_if_eq (pc := 106) (t := 116) zr_196_106 (by decide) (z_toif h) (fun h => ?_) (fun h => ?_)
  · refine ze_bipush (pc := 116) zr_196_116 (by decide) ?_
    refine ze_sipush (pc := 118) zr_196_118 (by decide) ?_
    refine ze_aload_n (pc := 121) zr_196_121 rfl ?_
    refine ze_getfield (pc := 122) (v := .inr (.inr 143)) zr_196_122 rfl rfl ?_
    refine ze_iconst (pc := 125) zr_196_125 (by decide) ?_
    refine zq_iaload (pc := 126) (v := .inl (W9801 143 2)) zr_196_126 rfl rfl (by decide) rfl ?_
    refine ze_imul (pc := 127) zr_196_127 ?_
    refine ze_iadd (pc := 128) zr_196_128 ?_
    refine zq_istore_n (pc := 129) (ls2 := [some (.inr (.inr 141)), some (.inl (z_add 90 (z_mul 900 (W9801 143 2)))), none]) zr_196_129 rfl rfl ?_
    refine ze_aload_n (pc := 130) zr_196_130 rfl ?_
    refine ze_getfield (pc := 131) (v := .inr (.inr 143)) zr_196_131 rfl rfl ?_
    refine ze_iload_n (pc := 134) zr_196_134 rfl ?_
    refine ze_iconst (pc := 135) zr_196_135 (by decide) ?_
    refine ze_iadd (pc := 136) zr_196_136 ?_
    refine ze_aload_n (pc := 137) zr_196_137 rfl ?_
    refine ze_getfield (pc := 138) (v := .inl (W9801 141 15)) zr_196_138 rfl rfl ?_
    refine z_gk h (fun g141 h => ?_)
    refine zq_iastore (pc := 141) zr_196_141 (by decide) rfl g141 rfl h (fun W9802 h => ?_)
    refine ze_iconst (pc := 142) zr_196_142 (by decide) ?_
    refine zq_istore_n (pc := 143) (ls2 := [some (.inr (.inr 141)), some (.inl (z_add 90 (z_mul 900 (W9801 143 2)))), some (.inl 0)]) zr_196_143 rfl rfl ?_
    exact h
  · refine ze_aload_n (pc := 109) zr_196_109 rfl ?_
    refine ze_bipush (pc := 110) zr_196_110 (by decide) ?_
    refine zq_callV1 (pc := 112) (as := [.inr (.inr 141), .inl (-6)]) (r := []) (kc2 := 0) (ks2 := 0) zr_196_112 rfl (by decide) rfl rfl rfl rfl ⟨rfl, rfl⟩ ⟨rfl, rfl, rfl⟩ h (fun z9801 V9801 h => ?_)
    exact zq_ret1 (pc := 115) zr_196_115 rfl h
theorem zb196_141_p144 {d : Nat} {Q : Int → z_M → Prop} (l1 : Int) (l2 : Int) {V : z_M}
    (h : zI (l2 < (z_mul 8 (V 141 15))) (zGu (0 ≤ l2 ∧ l2 < 96) (∀ x169 : Int, x169 = V 147 l2.toNat → zGu (0 ≤ (z_add (z_add l1 2) l2) ∧ (z_add (z_add l1 2) l2) < 5490) (∀ W14501, W14501 = z_up V 143 (z_add (z_add l1 2) l2).toNat x169 → z_Ex (z_MS d) 196 Q true 144 [some (.inr (.inr 141)), some (.inl l1), some (.inl (z_add l2 1))] [] 0 0 W14501))) (z_Ex (z_MS d) 196 Q true 179 [some (.inr (.inr 141)), some (.inl l1), some (.inl 0)] [] 0 0 V)) :
    z_Ex (z_MS d) 196 Q true 144 [some (.inr (.inr 141)), some (.inl l1), some (.inl l2)] [] 0 0 V := by
  refine ze_iload_n (pc := 144) zr_196_144 rfl ?_
  refine ze_bipush (pc := 145) zr_196_145 (by decide) ?_
  refine ze_aload_n (pc := 147) zr_196_147 rfl ?_
  refine ze_getfield (pc := 148) (v := .inl (V 141 15)) zr_196_148 rfl rfl ?_
  refine ze_imul (pc := 151) zr_196_151 ?_
  refine zq_icmp_ge (pc := 152) (t := 177) zr_196_152 (by decide) (z_toif h) (fun h => ?_) (fun h => ?_)
  · refine ze_aload_n (pc := 155) zr_196_155 rfl ?_
    refine ze_getfield (pc := 156) (v := .inr (.inr 143)) zr_196_156 rfl rfl ?_
    refine ze_iload_n (pc := 159) zr_196_159 rfl ?_
    refine ze_iconst (pc := 160) zr_196_160 (by decide) ?_
    refine ze_iadd (pc := 161) zr_196_161 ?_
    refine ze_iload_n (pc := 162) zr_196_162 rfl ?_
    refine ze_iadd (pc := 163) zr_196_163 ?_
    refine ze_aload_n (pc := 164) zr_196_164 rfl ?_
    refine ze_getfield (pc := 165) (v := .inr (.inr 147)) zr_196_165 rfl rfl ?_
    refine ze_iload_n (pc := 168) zr_196_168 rfl ?_
    refine z_gk h (fun g169 h => ?_)
    refine zl_iaload (pc := 169) zr_196_169 rfl rfl g169 h (fun x169 h => ?_)
    refine z_gk h (fun g170 h => ?_)
    refine zq_iastore (pc := 170) zr_196_170 (by decide) rfl g170 rfl h (fun W14501 h => ?_)
    refine zq_iinc (pc := 171) (ls2 := [some (.inr (.inr 141)), some (.inl l1), some (.inl (z_add l2 1))]) zr_196_171 rfl rfl rfl ?_
    refine ze_goto (pc := 174) (t := 144) zr_196_174 (by decide) ?_
    exact h
  · refine ze_iconst (pc := 177) zr_196_177 (by decide) ?_
    refine zq_istore_n (pc := 178) (ls2 := [some (.inr (.inr 141)), some (.inl l1), some (.inl 0)]) zr_196_178 rfl rfl ?_
    exact h
theorem zb196_141_p179 {d : Nat} {Q : Int → z_M → Prop} (l1 : Int) (l2 : Int) {V : z_M}
    (h : zI (l2 < (V 141 17)) (zGu (0 ≤ l2 ∧ l2 < 400) (∀ x204 : Int, x204 = V 148 l2.toNat → zGu (0 ≤ (z_add (z_add l1 98) (z_mul 2 l2)) ∧ (z_add (z_add l1 98) (z_mul 2 l2)) < 5490) (∀ W18002, W18002 = z_up V 143 (z_add (z_add l1 98) (z_mul 2 l2)).toNat x204 → zGu (0 ≤ l2 ∧ l2 < 400) (∀ x225 : Int, x225 = W18002 149 l2.toNat → zGu (0 ≤ (z_add (z_add (z_add l1 98) (z_mul 2 l2)) 1) ∧ (z_add (z_add (z_add l1 98) (z_mul 2 l2)) 1) < 5490) (∀ W18003, W18003 = z_up W18002 143 (z_add (z_add (z_add l1 98) (z_mul 2 l2)) 1).toNat x225 → z_Ex (z_MS d) 196 Q true 179 [some (.inr (.inr 141)), some (.inl l1), some (.inl (z_add l2 1))] [] 0 0 W18003))))) (∀ W18001, W18001 = z_up V 143 2 (z_add (V 143 2) 1) → z_MS d 149 true [.inr (.inr 141), .inl (z_sub (W18001 143 2) 1)] W18001 (fun z18001 V18001 => Q z18001 V18001))) :
    z_Ex (z_MS d) 196 Q true 179 [some (.inr (.inr 141)), some (.inl l1), some (.inl l2)] [] 0 0 V := by
  refine ze_iload_n (pc := 179) zr_196_179 rfl ?_
  refine ze_aload_n (pc := 180) zr_196_180 rfl ?_
  refine ze_getfield (pc := 181) (v := .inl (V 141 17)) zr_196_181 rfl rfl ?_
  refine zq_icmp_ge (pc := 184) (t := 233) zr_196_184 (by decide) (z_toif h) (fun h => ?_) (fun h => ?_)
  · refine ze_aload_n (pc := 187) zr_196_187 rfl ?_
    refine ze_getfield (pc := 188) (v := .inr (.inr 143)) zr_196_188 rfl rfl ?_
    refine ze_iload_n (pc := 191) zr_196_191 rfl ?_
    refine ze_bipush (pc := 192) zr_196_192 (by decide) ?_
    refine ze_iadd (pc := 194) zr_196_194 ?_
    refine ze_iconst (pc := 195) zr_196_195 (by decide) ?_
    refine ze_iload_n (pc := 196) zr_196_196 rfl ?_
    refine ze_imul (pc := 197) zr_196_197 ?_
    refine ze_iadd (pc := 198) zr_196_198 ?_
    refine ze_aload_n (pc := 199) zr_196_199 rfl ?_
    refine ze_getfield (pc := 200) (v := .inr (.inr 148)) zr_196_200 rfl rfl ?_
    refine ze_iload_n (pc := 203) zr_196_203 rfl ?_
    refine z_gk h (fun g204 h => ?_)
    refine zl_iaload (pc := 204) zr_196_204 rfl rfl g204 h (fun x204 h => ?_)
    refine z_gk h (fun g205 h => ?_)
    refine zq_iastore (pc := 205) zr_196_205 (by decide) rfl g205 rfl h (fun W18002 h => ?_)
    refine ze_aload_n (pc := 206) zr_196_206 rfl ?_
    refine ze_getfield (pc := 207) (v := .inr (.inr 143)) zr_196_207 rfl rfl ?_
    refine ze_iload_n (pc := 210) zr_196_210 rfl ?_
    refine ze_bipush (pc := 211) zr_196_211 (by decide) ?_
    refine ze_iadd (pc := 213) zr_196_213 ?_
    refine ze_iconst (pc := 214) zr_196_214 (by decide) ?_
    refine ze_iload_n (pc := 215) zr_196_215 rfl ?_
    refine ze_imul (pc := 216) zr_196_216 ?_
    refine ze_iadd (pc := 217) zr_196_217 ?_
    refine ze_iconst (pc := 218) zr_196_218 (by decide) ?_
    refine ze_iadd (pc := 219) zr_196_219 ?_
    refine ze_aload_n (pc := 220) zr_196_220 rfl ?_
    refine ze_getfield (pc := 221) (v := .inr (.inr 149)) zr_196_221 rfl rfl ?_
    refine ze_iload_n (pc := 224) zr_196_224 rfl ?_
    refine z_gk h (fun g225 h => ?_)
    refine zl_iaload (pc := 225) zr_196_225 rfl rfl g225 h (fun x225 h => ?_)
    refine z_gk h (fun g226 h => ?_)
    refine zq_iastore (pc := 226) zr_196_226 (by decide) rfl g226 rfl h (fun W18003 h => ?_)
    refine zq_iinc (pc := 227) (ls2 := [some (.inr (.inr 141)), some (.inl l1), some (.inl (z_add l2 1))]) zr_196_227 rfl rfl rfl ?_
    refine ze_goto (pc := 230) (t := 179) zr_196_230 (by decide) ?_
    exact h
  · refine ze_aload_n (pc := 233) zr_196_233 rfl ?_
    refine ze_getfield (pc := 234) (v := .inr (.inr 143)) zr_196_234 rfl rfl ?_
    refine ze_iconst (pc := 237) zr_196_237 (by decide) ?_
    refine zq_dup2 (pc := 238) zr_196_238 rfl rfl ?_
    refine zq_iaload (pc := 239) (v := .inl (V 143 2)) zr_196_239 rfl rfl (by decide) rfl ?_
    refine ze_iconst (pc := 240) zr_196_240 (by decide) ?_
    refine ze_iadd (pc := 241) zr_196_241 ?_
    refine zq_iastore (pc := 242) zr_196_242 (by decide) rfl (by decide) rfl h (fun W18001 h => ?_)
    refine ze_aload_n (pc := 243) zr_196_243 rfl ?_
    refine ze_aload_n (pc := 244) zr_196_244 rfl ?_
    refine ze_getfield (pc := 245) (v := .inr (.inr 143)) zr_196_245 rfl rfl ?_
    refine ze_iconst (pc := 248) zr_196_248 (by decide) ?_
    refine zq_iaload (pc := 249) (v := .inl (W18001 143 2)) zr_196_249 rfl rfl (by decide) rfl ?_
    refine ze_iconst (pc := 250) zr_196_250 (by decide) ?_
    refine ze_isub (pc := 251) zr_196_251 ?_
    refine zq_callV1 (pc := 252) (as := [.inr (.inr 141), .inl (z_sub (W18001 143 2) 1)]) (r := []) (kc2 := 0) (ks2 := 0) zr_196_252 rfl (by decide) rfl rfl rfl rfl ⟨rfl, rfl⟩ ⟨rfl, rfl, rfl⟩ h (fun z18001 V18001 h => ?_)
    exact zq_ret1 (pc := 255) zr_196_255 rfl h
theorem zb197_141 {d : Nat} {Q : Int → z_M → Prop} (a0 : Int) {V : z_M}
    (h : ∀ W1, W1 = z_up V 141 0 0 → zI (a0 = (-1)) (z_MS d 151 true [.inr (.inr 141), .inl 3, .inl a0] W1 (fun z1 V1 => Q z1 V1)) (z_MS d 145 true [.inr (.inl a0), .inr (.inl 0), .inr (.inl (z_lsub (W1 143 2) 1))] W1 (fun z2 V2 => zI (z2 = 0) (z_MS d 149 true [.inr (.inr 141), .inl (-2)] V2 (fun z3 V3 => Q z3 V3)) (z_MS d 151 true [.inr (.inr 141), .inl 3, .inl a0] V2 (fun z4 V4 => Q z4 V4))))) :
    z_MS (d + 1) 197 true [.inr (.inr 141), .inl a0] V Q := by
  show z_Ex (z_MS d) 197 Q true 0 [some (.inr (.inr 141)), some (.inl a0)] [] 0 0 V
  refine ze_aload_n (pc := 0) zr_197_0 rfl ?_
  refine ze_iconst (pc := 1) zr_197_1 (by decide) ?_
  refine zq_putI (pc := 2) zr_197_2 (by decide) rfl h (fun W1 h => ?_)
  refine ze_iload_n (pc := 5) zr_197_5 rfl ?_
  refine ze_iconst (pc := 6) zr_197_6 (by decide) ?_
  refine zq_icmp_eq (pc := 7) (t := 28) zr_197_7 (by decide) (z_toif h) (fun h => ?_) (fun h => ?_)
  · refine ze_aload_n (pc := 28) zr_197_28 rfl ?_
    refine ze_iconst (pc := 29) zr_197_29 (by decide) ?_
    refine ze_iload_n (pc := 30) zr_197_30 rfl ?_
    refine zq_callV1 (pc := 31) (as := [.inr (.inr 141), .inl 3, .inl a0]) (r := []) (kc2 := 0) (ks2 := 0) zr_197_31 rfl (by decide) rfl rfl rfl rfl ⟨rfl, rfl⟩ ⟨rfl, rfl, rfl⟩ h (fun z1 V1 h => ?_)
    refine ze_goto (pc := 34) (t := 43) zr_197_34 (by decide) ?_
    exact zq_ret1 (pc := 43) zr_197_43 rfl h
  · refine ze_iload_n (pc := 10) zr_197_10 rfl ?_
    refine ze_i2l (pc := 11) zr_197_11 ?_
    refine ze_lconst (pc := 12) zr_197_12 ?_
    refine ze_aload_n (pc := 13) zr_197_13 rfl ?_
    refine ze_getfield (pc := 14) (v := .inr (.inr 143)) zr_197_14 rfl rfl ?_
    refine ze_iconst (pc := 17) zr_197_17 (by decide) ?_
    refine zq_iaload (pc := 18) (v := .inl (W1 143 2)) zr_197_18 rfl rfl (by decide) rfl ?_
    refine ze_i2l (pc := 19) zr_197_19 ?_
    refine ze_lconst (pc := 20) zr_197_20 ?_
    refine ze_lsub (pc := 21) zr_197_21 ?_
    refine zq_callS1 (pc := 22) (as := [.inr (.inl a0), .inr (.inl 0), .inr (.inl (z_lsub (W1 143 2) 1))]) (r := []) (kc2 := 0) (ks2 := 0) zr_197_22 rfl rfl rfl rfl ⟨rfl, rfl⟩ ⟨rfl, rfl, rfl⟩ h (fun z2 V2 h => ?_)
    refine zq_if_eq (pc := 25) (t := 37) zr_197_25 (by decide) (z_toif h) (fun h => ?_) (fun h => ?_)
    · refine ze_aload_n (pc := 37) zr_197_37 rfl ?_
      refine ze_bipush (pc := 38) zr_197_38 (by decide) ?_
      refine zq_callV1 (pc := 40) (as := [.inr (.inr 141), .inl (-2)]) (r := []) (kc2 := 0) (ks2 := 0) zr_197_40 rfl (by decide) rfl rfl rfl rfl ⟨rfl, rfl⟩ ⟨rfl, rfl, rfl⟩ h (fun z3 V3 h => ?_)
      exact zq_ret1 (pc := 43) zr_197_43 rfl h
    · refine ze_aload_n (pc := 28) zr_197_28 rfl ?_
      refine ze_iconst (pc := 29) zr_197_29 (by decide) ?_
      refine ze_iload_n (pc := 30) zr_197_30 rfl ?_
      refine zq_callV1 (pc := 31) (as := [.inr (.inr 141), .inl 3, .inl a0]) (r := []) (kc2 := 0) (ks2 := 0) zr_197_31 rfl (by decide) rfl rfl rfl rfl ⟨rfl, rfl⟩ ⟨rfl, rfl, rfl⟩ h (fun z4 V4 h => ?_)
      refine ze_goto (pc := 34) (t := 43) zr_197_34 (by decide) ?_
      exact zq_ret1 (pc := 43) zr_197_43 rfl h
theorem zb198_141 {d : Nat} {Q : Int → z_M → Prop} (a0 : Int) (a1 : Int) (a2 : Int) {V : z_M}
    (h : zI (a0 = 20) (Q (z_ladd a1 a2) V) (zI (a0 = 21) (Q (z_lsub a1 a2) V) (zI (a0 = 22) (Q (z_lmul a1 a2) V) (zI (a0 = 23) (∀ W1, W1 = z_up V 141 29 (if (z_lcmp a2 0) = 0 then 1 else 0) → zI ((W1 141 29) = 0) (zGu (¬ a2 = 0) (Q (z_ldiv a1 a2) W1)) (Q 0 W1)) (zI (a0 = 24) (Q (if (z_lcmp a1 a2) < 0 then 1 else 0) V) (zI (a0 = 25) (Q (if 0 < (z_lcmp a1 a2) then 1 else 0) V) (Q (if (z_lcmp a1 a2) = 0 then 1 else 0) V))))))) :
    z_MS (d + 1) 198 true [.inr (.inr 141), .inl a0, .inr (.inl a1), .inr (.inl a2)] V Q := by
  show z_Ex (z_MS d) 198 Q true 0 [some (.inr (.inr 141)), some (.inl a0), some (.inr (.inl a1)), none, some (.inr (.inl a2)), none] [] 0 0 V
  refine ze_iload_n (pc := 0) zr_198_0 rfl ?_
  refine zq_sw (pc := 1) (l := [39, 44, 49, 54, 86, 99]) zr_198_1 (by decide) rfl ?_
  refine zq_swc (n := 21) (z_toif h) rfl (fun h => ?_) (fun h => ?_)
  · refine zq_to (t := 40) (by decide) ?_
    refine ze_lload_n (pc := 40) zr_198_40 rfl ?_
    refine ze_lload (pc := 41) zr_198_41 rfl ?_
    refine ze_ladd (pc := 43) zr_198_43 ?_
    exact ze_lret (pc := 44) zr_198_44 rfl h
  · refine zq_swc (n := 22) (z_toif h) rfl (fun h => ?_) (fun h => ?_)
    · refine zq_to (t := 45) (by decide) ?_
      refine ze_lload_n (pc := 45) zr_198_45 rfl ?_
      refine ze_lload (pc := 46) zr_198_46 rfl ?_
      refine ze_lsub (pc := 48) zr_198_48 ?_
      exact ze_lret (pc := 49) zr_198_49 rfl h
    · refine zq_swc (n := 23) (z_toif h) rfl (fun h => ?_) (fun h => ?_)
      · refine zq_to (t := 50) (by decide) ?_
        refine ze_lload_n (pc := 50) zr_198_50 rfl ?_
        refine ze_lload (pc := 51) zr_198_51 rfl ?_
        refine ze_lmul (pc := 53) zr_198_53 ?_
        exact ze_lret (pc := 54) zr_198_54 rfl h
      · refine zq_swc (n := 24) (z_toif h) rfl (fun h => ?_) (fun h => ?_)
        · refine zq_to (t := 55) (by decide) ?_
          refine ze_aload_n (pc := 55) zr_198_55 rfl ?_
          refine ze_lload (pc := 56) zr_198_56 rfl ?_
          refine ze_lconst (pc := 58) zr_198_58 ?_
          refine ze_lcmp (pc := 59) zr_198_59 ?_
          have j60 : z_Ex (z_MS d) 198 Q true 68 [some (.inr (.inr 141)), some (.inl a0), some (.inr (.inl a1)), none, some (.inr (.inl a2)), none] [.inl (if (z_lcmp a2 0) = 0 then 1 else 0), .inr (.inr 141)] 0 0 V := by
            refine zq_putZ (pc := 68) zr_198_68 (by decide) rfl (by (repeat' split) <;> decide) h (fun W1 h => ?_)
            refine ze_aload_n (pc := 71) zr_198_71 rfl ?_
            refine ze_getfield (pc := 72) (v := .inl (W1 141 29)) zr_198_72 rfl rfl ?_
            refine zq_if_eq (pc := 75) (t := 82) zr_198_75 (by decide) (z_toif h) (fun h => ?_) (fun h => ?_)
            · refine ze_lload_n (pc := 82) zr_198_82 rfl ?_
              refine ze_lload (pc := 83) zr_198_83 rfl ?_
              refine z_gk h (fun g85 h => ?_)
              refine ze_ldiv (pc := 85) zr_198_85 g85 ?_
              exact ze_lret (pc := 86) zr_198_86 rfl h
            · refine ze_lconst (pc := 78) zr_198_78 ?_
              refine ze_goto (pc := 79) (t := 86) zr_198_79 (by decide) ?_
              exact ze_lret (pc := 86) zr_198_86 rfl h
          refine ze_if_ne (pc := 60) (t := 67) zr_198_60 (by decide) (fun hc => ?_) (fun hc => ?_)
          · rw [if_pos (show (z_lcmp a2 0) = 0 from hc)] at j60
            refine ze_iconst (pc := 63) zr_198_63 (by decide) ?_
            refine ze_goto (pc := 64) (t := 68) zr_198_64 (by decide) ?_
            exact j60
          · rw [if_neg (show ¬ ((z_lcmp a2 0) = 0) from hc)] at j60
            refine ze_iconst (pc := 67) zr_198_67 (by decide) ?_
            exact j60
        · refine zq_swc (n := 25) (z_toif h) rfl (fun h => ?_) (fun h => ?_)
          · refine zq_to (t := 87) (by decide) ?_
            refine ze_lload_n (pc := 87) zr_198_87 rfl ?_
            refine ze_lload (pc := 88) zr_198_88 rfl ?_
            refine ze_lcmp (pc := 90) zr_198_90 ?_
            have j91 : z_Ex (z_MS d) 198 Q true 99 [some (.inr (.inr 141)), some (.inl a0), some (.inr (.inl a1)), none, some (.inr (.inl a2)), none] [.inr (.inl (if (z_lcmp a1 a2) < 0 then 1 else 0))] 0 0 V := by
              exact ze_lret (pc := 99) zr_198_99 rfl h
            refine ze_if_ge (pc := 91) (t := 98) zr_198_91 (by decide) (fun hc => ?_) (fun hc => ?_)
            · rw [if_pos (show (z_lcmp a1 a2) < 0 from hc)] at j91
              refine ze_lconst (pc := 94) zr_198_94 ?_
              refine ze_goto (pc := 95) (t := 99) zr_198_95 (by decide) ?_
              exact j91
            · rw [if_neg (show ¬ ((z_lcmp a1 a2) < 0) from hc)] at j91
              refine ze_lconst (pc := 98) zr_198_98 ?_
              exact j91
          · refine zq_swc (n := 26) (z_toif h) rfl (fun h => ?_) (fun h => ?_)
            · refine zq_to (t := 100) (by decide) ?_
              refine ze_lload_n (pc := 100) zr_198_100 rfl ?_
              refine ze_lload (pc := 101) zr_198_101 rfl ?_
              refine ze_lcmp (pc := 103) zr_198_103 ?_
              have j104 : z_Ex (z_MS d) 198 Q true 112 [some (.inr (.inr 141)), some (.inl a0), some (.inr (.inl a1)), none, some (.inr (.inl a2)), none] [.inr (.inl (if 0 < (z_lcmp a1 a2) then 1 else 0))] 0 0 V := by
                exact ze_lret (pc := 112) zr_198_112 rfl h
              refine ze_if_le (pc := 104) (t := 111) zr_198_104 (by decide) (fun hc => ?_) (fun hc => ?_)
              · rw [if_pos (show 0 < (z_lcmp a1 a2) from hc)] at j104
                refine ze_lconst (pc := 107) zr_198_107 ?_
                refine ze_goto (pc := 108) (t := 112) zr_198_108 (by decide) ?_
                exact j104
              · rw [if_neg (show ¬ (0 < (z_lcmp a1 a2)) from hc)] at j104
                refine ze_lconst (pc := 111) zr_198_111 ?_
                exact j104
            · refine zq_swn ?_
              refine zq_to (t := 113) (by decide) ?_
              refine ze_lload_n (pc := 113) zr_198_113 rfl ?_
              refine ze_lload (pc := 114) zr_198_114 rfl ?_
              refine ze_lcmp (pc := 116) zr_198_116 ?_
              have j117 : z_Ex (z_MS d) 198 Q true 125 [some (.inr (.inr 141)), some (.inl a0), some (.inr (.inl a1)), none, some (.inr (.inl a2)), none] [.inr (.inl (if (z_lcmp a1 a2) = 0 then 1 else 0))] 0 0 V := by
                exact ze_lret (pc := 125) zr_198_125 rfl h
              refine ze_if_ne (pc := 117) (t := 124) zr_198_117 (by decide) (fun hc => ?_) (fun hc => ?_)
              · rw [if_pos (show (z_lcmp a1 a2) = 0 from hc)] at j117
                refine ze_lconst (pc := 120) zr_198_120 ?_
                refine ze_goto (pc := 121) (t := 125) zr_198_121 (by decide) ?_
                exact j117
              · rw [if_neg (show ¬ ((z_lcmp a1 a2) = 0) from hc)] at j117
                refine ze_lconst (pc := 124) zr_198_124 ?_
                exact j117
theorem zb199_141 {d : Nat} {Q : Int → z_M → Prop} (a0 : Int) (a1 : Int) {V : z_M}
    (h : ∀ W1, W1 = z_up V 141 29 0 → z_Ex (z_MS d) 199 Q true 10 [some (.inr (.inr 141)), some (.inl a0), some (.inl a1), some (.inl 0), some (.inl a0), none, none] [] 0 0 W1) :
    z_MS (d + 1) 199 true [.inr (.inr 141), .inl a0, .inl a1] V Q := by
  show z_Ex (z_MS d) 199 Q true 0 [some (.inr (.inr 141)), some (.inl a0), some (.inl a1), none, none, none, none] [] 0 0 V
  refine ze_aload_n (pc := 0) zr_199_0 rfl ?_
  refine ze_iconst (pc := 1) zr_199_1 (by decide) ?_
  refine zq_putZ (pc := 2) zr_199_2 (by decide) rfl (by decide) h (fun W1 h => ?_)
  refine ze_iconst (pc := 5) zr_199_5 (by decide) ?_
  refine zq_istore_n (pc := 6) (ls2 := [some (.inr (.inr 141)), some (.inl a0), some (.inl a1), some (.inl 0), none, none, none]) zr_199_6 rfl rfl ?_
  refine ze_iload_n (pc := 7) zr_199_7 rfl ?_
  refine zq_istore (pc := 8) (ls2 := [some (.inr (.inr 141)), some (.inl a0), some (.inl a1), some (.inl 0), some (.inl a0), none, none]) zr_199_8 rfl rfl ?_
  exact h
theorem zb199_141_p10 {d : Nat} {Q : Int → z_M → Prop} (o1 : Option z_V) (l2 : Int) (l3 : Int) (l4 : Int) (o5 : Option z_V) (o6 : Option z_V) {V : z_M}
    (h : zI (l4 < l2) (zI ((V 141 29) = 0) (zGu (0 ≤ (z_add (z_add (V 141 26) 98) (z_mul 2 l4)) ∧ (z_add (z_add (V 141 26) 98) (z_mul 2 l4)) < 5490) (∀ x39 : Int, x39 = V 143 (z_add (z_add (V 141 26) 98) (z_mul 2 l4)).toNat → zGu (0 ≤ (z_add (z_add (z_add (V 141 26) 98) (z_mul 2 l4)) 1) ∧ (z_add (z_add (z_add (V 141 26) 98) (z_mul 2 l4)) 1) < 5490) (∀ x60 : Int, x60 = V 143 (z_add (z_add (z_add (V 141 26) 98) (z_mul 2 l4)) 1).toNat → zI (x39 < 20) (zI (x39 = 0) (z_Ex (z_MS d) 199 Q true 96 [some (.inr (.inr 141)), o1, some (.inl l2), some (.inl l3), some (.inl (z_add l4 1)), some (.inl x39), some (.inl x60)] [.inr (.inl x60), .inl l3, .inr (.inr 154)] 0 0 V) (zGu (0 ≤ x39 ∧ x39 < 13) (∀ x95 : Int, x95 = V 153 x39.toNat → z_Ex (z_MS d) 199 Q true 96 [some (.inr (.inr 141)), o1, some (.inl l2), some (.inl l3), some (.inl (z_add l4 1)), some (.inl x39), some (.inl x60)] [.inr (.inl x95), .inl l3, .inr (.inr 154)] 0 0 V))) (zI (x39 < 27) (z_Ex (z_MS d) 199 Q true 113 [some (.inr (.inr 141)), o1, some (.inl l2), some (.inl (z_add l3 (-1))), some (.inl (z_add l4 1)), some (.inl x39), some (.inl x60)] [] 0 0 V) (zI (x39 = 27) (zGu (0 ≤ (z_sub l3 1) ∧ (z_sub l3 1) < 400) (∀ x202 : Int, x202 = V 154 (z_sub l3 1).toNat → zGu (0 ≤ (z_sub l3 1) ∧ (z_sub l3 1) < 400) (∀ W1103, W1103 = z_up V 154 (z_sub l3 1).toNat (z_lsub 1 x202) → z_Ex (z_MS d) 199 Q true 10 [some (.inr (.inr 141)), o1, some (.inl l2), some (.inl l3), some (.inl (z_add l4 1)), some (.inl x39), some (.inl x60)] [] 0 0 W1103))) (zGu (0 ≤ (z_sub l3 1) ∧ (z_sub l3 1) < 400) (∀ x215 : Int, x215 = V 154 (z_sub l3 1).toNat → zI ((z_lcmp x215 (if x39 = 28 then 0 else 1) : Int) = 0) (z_Ex (z_MS d) 199 Q true 10 [some (.inr (.inr 141)), o1, some (.inl l2), some (.inl l3), some (.inl x60), some (.inl x39), some (.inl x60)] [] 0 0 V) (z_Ex (z_MS d) 199 Q true 10 [some (.inr (.inr 141)), o1, some (.inl l2), some (.inl (z_add l3 (-1))), some (.inl (z_add l4 1)), some (.inl x39), some (.inl x60)] [] 0 0 V)))))))) (∀ W1102, W1102 = z_up V 141 30 (if 0 < l3 then V 154 0 else 0) → Q 0 W1102)) (∀ W1101, W1101 = z_up V 141 30 (if 0 < l3 then V 154 0 else 0) → Q 0 W1101)) :
    z_Ex (z_MS d) 199 Q true 10 [some (.inr (.inr 141)), o1, some (.inl l2), some (.inl l3), some (.inl l4), o5, o6] [] 0 0 V := by
  refine ze_iload (pc := 10) zr_199_10 rfl ?_
  refine ze_iload_n (pc := 12) zr_199_12 rfl ?_
  refine zq_icmp_ge (pc := 13) (t := 245) zr_199_13 (by decide) (z_toif h) (fun h => ?_) (fun h => ?_)
  · refine ze_aload_n (pc := 16) zr_199_16 rfl ?_
    refine ze_getfield (pc := 17) (v := .inl (V 141 29)) zr_199_17 rfl rfl ?_
    refine zq_if_ne (pc := 20) (t := 245) zr_199_20 (by decide) (z_toif h) (fun h => ?_) (fun h => ?_)
    · refine ze_aload_n (pc := 23) zr_199_23 rfl ?_
      refine ze_getfield (pc := 24) (v := .inr (.inr 143)) zr_199_24 rfl rfl ?_
      refine ze_aload_n (pc := 27) zr_199_27 rfl ?_
      refine ze_getfield (pc := 28) (v := .inl (V 141 26)) zr_199_28 rfl rfl ?_
      refine ze_bipush (pc := 31) zr_199_31 (by decide) ?_
      refine ze_iadd (pc := 33) zr_199_33 ?_
      refine ze_iconst (pc := 34) zr_199_34 (by decide) ?_
      refine ze_iload (pc := 35) zr_199_35 rfl ?_
      refine ze_imul (pc := 37) zr_199_37 ?_
      refine ze_iadd (pc := 38) zr_199_38 ?_
      refine z_gk h (fun g39 h => ?_)
      refine zl_iaload (pc := 39) zr_199_39 rfl rfl g39 h (fun x39 h => ?_)
      refine zq_istore (pc := 40) (ls2 := [some (.inr (.inr 141)), o1, some (.inl l2), some (.inl l3), some (.inl l4), some (.inl x39), o6]) zr_199_40 rfl rfl ?_
      refine ze_aload_n (pc := 42) zr_199_42 rfl ?_
      refine ze_getfield (pc := 43) (v := .inr (.inr 143)) zr_199_43 rfl rfl ?_
      refine ze_aload_n (pc := 46) zr_199_46 rfl ?_
      refine ze_getfield (pc := 47) (v := .inl (V 141 26)) zr_199_47 rfl rfl ?_
      refine ze_bipush (pc := 50) zr_199_50 (by decide) ?_
      refine ze_iadd (pc := 52) zr_199_52 ?_
      refine ze_iconst (pc := 53) zr_199_53 (by decide) ?_
      refine ze_iload (pc := 54) zr_199_54 rfl ?_
      refine ze_imul (pc := 56) zr_199_56 ?_
      refine ze_iadd (pc := 57) zr_199_57 ?_
      refine ze_iconst (pc := 58) zr_199_58 (by decide) ?_
      refine ze_iadd (pc := 59) zr_199_59 ?_
      refine z_gk h (fun g60 h => ?_)
      refine zl_iaload (pc := 60) zr_199_60 rfl rfl g60 h (fun x60 h => ?_)
      refine zq_istore (pc := 61) (ls2 := [some (.inr (.inr 141)), o1, some (.inl l2), some (.inl l3), some (.inl l4), some (.inl x39), some (.inl x60)]) zr_199_61 rfl rfl ?_
      refine zq_iinc (pc := 63) (ls2 := [some (.inr (.inr 141)), o1, some (.inl l2), some (.inl l3), some (.inl (z_add l4 1)), some (.inl x39), some (.inl x60)]) zr_199_63 rfl rfl rfl ?_
      refine ze_iload (pc := 66) zr_199_66 rfl ?_
      refine ze_bipush (pc := 68) zr_199_68 (by decide) ?_
      refine zq_icmp_ge (pc := 70) (t := 103) zr_199_70 (by decide) (z_toif h) (fun h => ?_) (fun h => ?_)
      · refine ze_aload_n (pc := 73) zr_199_73 rfl ?_
        refine ze_getfield (pc := 74) (v := .inr (.inr 154)) zr_199_74 rfl rfl ?_
        refine ze_iload_n (pc := 77) zr_199_77 rfl ?_
        refine ze_iload (pc := 78) zr_199_78 rfl ?_
        refine zq_if_ne (pc := 80) (t := 89) zr_199_80 (by decide) (z_toif h) (fun h => ?_) (fun h => ?_)
        · refine ze_iload (pc := 83) zr_199_83 rfl ?_
          refine ze_i2l (pc := 85) zr_199_85 ?_
          refine ze_goto (pc := 86) (t := 96) zr_199_86 (by decide) ?_
          exact h
        · refine ze_aload_n (pc := 89) zr_199_89 rfl ?_
          refine ze_getfield (pc := 90) (v := .inr (.inr 153)) zr_199_90 rfl rfl ?_
          refine ze_iload (pc := 93) zr_199_93 rfl ?_
          refine z_gk h (fun g95 h => ?_)
          refine zl_laload (pc := 95) zr_199_95 rfl rfl g95 h (fun x95 h => ?_)
          exact h
      · refine ze_iload (pc := 103) zr_199_103 rfl ?_
        refine ze_bipush (pc := 105) zr_199_105 (by decide) ?_
        refine zq_icmp_ge (pc := 107) (t := 180) zr_199_107 (by decide) (z_toif h) (fun h => ?_) (fun h => ?_)
        · refine zq_iinc (pc := 110) (ls2 := [some (.inr (.inr 141)), o1, some (.inl l2), some (.inl (z_add l3 (-1))), some (.inl (z_add l4 1)), some (.inl x39), some (.inl x60)]) zr_199_110 rfl rfl rfl ?_
          exact h
        · refine ze_iload (pc := 180) zr_199_180 rfl ?_
          refine ze_bipush (pc := 182) zr_199_182 (by decide) ?_
          refine zq_icmp_ne (pc := 184) (t := 208) zr_199_184 (by decide) (z_toif h) (fun h => ?_) (fun h => ?_)
          · refine ze_aload_n (pc := 187) zr_199_187 rfl ?_
            refine ze_getfield (pc := 188) (v := .inr (.inr 154)) zr_199_188 rfl rfl ?_
            refine ze_iload_n (pc := 191) zr_199_191 rfl ?_
            refine ze_iconst (pc := 192) zr_199_192 (by decide) ?_
            refine ze_isub (pc := 193) zr_199_193 ?_
            refine ze_lconst (pc := 194) zr_199_194 ?_
            refine ze_aload_n (pc := 195) zr_199_195 rfl ?_
            refine ze_getfield (pc := 196) (v := .inr (.inr 154)) zr_199_196 rfl rfl ?_
            refine ze_iload_n (pc := 199) zr_199_199 rfl ?_
            refine ze_iconst (pc := 200) zr_199_200 (by decide) ?_
            refine ze_isub (pc := 201) zr_199_201 ?_
            refine z_gk h (fun g202 h => ?_)
            refine zl_laload (pc := 202) zr_199_202 rfl rfl g202 h (fun x202 h => ?_)
            refine ze_lsub (pc := 203) zr_199_203 ?_
            refine z_gk h (fun g204 h => ?_)
            refine zq_lastore (pc := 204) zr_199_204 (by decide) rfl g204 rfl h (fun W1103 h => ?_)
            refine ze_goto (pc := 205) (t := 242) zr_199_205 (by decide) ?_
            refine ze_goto (pc := 242) (t := 10) zr_199_242 (by decide) ?_
            exact h
          · refine ze_aload_n (pc := 208) zr_199_208 rfl ?_
            refine ze_getfield (pc := 209) (v := .inr (.inr 154)) zr_199_209 rfl rfl ?_
            refine ze_iload_n (pc := 212) zr_199_212 rfl ?_
            refine ze_iconst (pc := 213) zr_199_213 (by decide) ?_
            refine ze_isub (pc := 214) zr_199_214 ?_
            refine z_gk h (fun g215 h => ?_)
            refine zl_laload (pc := 215) zr_199_215 rfl rfl g215 h (fun x215 h => ?_)
            refine ze_iload (pc := 216) zr_199_216 rfl ?_
            refine ze_bipush (pc := 218) zr_199_218 (by decide) ?_
            have j220 : z_Ex (z_MS d) 199 Q true 228 [some (.inr (.inr 141)), o1, some (.inl l2), some (.inl l3), some (.inl (z_add l4 1)), some (.inl x39), some (.inl x60)] [.inr (.inl (if x39 = 28 then 0 else 1)), .inr (.inl x215)] 0 0 V := by
              refine ze_lcmp (pc := 228) zr_199_228 ?_
              refine zq_if_ne (pc := 229) (t := 239) zr_199_229 (by decide) (z_toif h) (fun h => ?_) (fun h => ?_)
              · refine ze_iload (pc := 232) zr_199_232 rfl ?_
                refine zq_istore (pc := 234) (ls2 := [some (.inr (.inr 141)), o1, some (.inl l2), some (.inl l3), some (.inl x60), some (.inl x39), some (.inl x60)]) zr_199_234 rfl rfl ?_
                refine ze_goto (pc := 236) (t := 242) zr_199_236 (by decide) ?_
                refine ze_goto (pc := 242) (t := 10) zr_199_242 (by decide) ?_
                exact h
              · refine zq_iinc (pc := 239) (ls2 := [some (.inr (.inr 141)), o1, some (.inl l2), some (.inl (z_add l3 (-1))), some (.inl (z_add l4 1)), some (.inl x39), some (.inl x60)]) zr_199_239 rfl rfl rfl ?_
                refine ze_goto (pc := 242) (t := 10) zr_199_242 (by decide) ?_
                exact h
            refine ze_icmp_ne (pc := 220) (t := 227) zr_199_220 (by decide) (fun hc => ?_) (fun hc => ?_)
            · rw [if_pos (show x39 = 28 from hc)] at j220
              refine ze_lconst (pc := 223) zr_199_223 ?_
              refine ze_goto (pc := 224) (t := 228) zr_199_224 (by decide) ?_
              exact j220
            · rw [if_neg (show ¬ (x39 = 28) from hc)] at j220
              refine ze_lconst (pc := 227) zr_199_227 ?_
              exact j220
    · refine ze_aload_n (pc := 245) zr_199_245 rfl ?_
      refine ze_iload_n (pc := 246) zr_199_246 rfl ?_
      have j247 : z_Ex (z_MS d) 199 Q true 260 [some (.inr (.inr 141)), o1, some (.inl l2), some (.inl l3), some (.inl l4), o5, o6] [.inr (.inl (if 0 < l3 then V 154 0 else 0)), .inr (.inr 141)] 0 0 V := by
        refine zq_putL (pc := 260) zr_199_260 (by decide) rfl h (fun W1102 h => ?_)
        exact ze_vret (pc := 263) zr_199_263 rfl h
      refine ze_if_le (pc := 247) (t := 259) zr_199_247 (by decide) (fun hc => ?_) (fun hc => ?_)
      · rw [if_pos (show 0 < l3 from hc)] at j247
        refine ze_aload_n (pc := 250) zr_199_250 rfl ?_
        refine ze_getfield (pc := 251) (v := .inr (.inr 154)) zr_199_251 rfl rfl ?_
        refine ze_iconst (pc := 254) zr_199_254 (by decide) ?_
        refine zq_laload (pc := 255) (v := .inr (.inl (V 154 0))) zr_199_255 rfl rfl (by decide) rfl ?_
        refine ze_goto (pc := 256) (t := 260) zr_199_256 (by decide) ?_
        exact j247
      · rw [if_neg (show ¬ (0 < l3) from hc)] at j247
        refine ze_lconst (pc := 259) zr_199_259 ?_
        exact j247
  · refine ze_aload_n (pc := 245) zr_199_245 rfl ?_
    refine ze_iload_n (pc := 246) zr_199_246 rfl ?_
    have j247 : z_Ex (z_MS d) 199 Q true 260 [some (.inr (.inr 141)), o1, some (.inl l2), some (.inl l3), some (.inl l4), o5, o6] [.inr (.inl (if 0 < l3 then V 154 0 else 0)), .inr (.inr 141)] 0 0 V := by
      refine zq_putL (pc := 260) zr_199_260 (by decide) rfl h (fun W1101 h => ?_)
      exact ze_vret (pc := 263) zr_199_263 rfl h
    refine ze_if_le (pc := 247) (t := 259) zr_199_247 (by decide) (fun hc => ?_) (fun hc => ?_)
    · rw [if_pos (show 0 < l3 from hc)] at j247
      refine ze_aload_n (pc := 250) zr_199_250 rfl ?_
      refine ze_getfield (pc := 251) (v := .inr (.inr 154)) zr_199_251 rfl rfl ?_
      refine ze_iconst (pc := 254) zr_199_254 (by decide) ?_
      refine zq_laload (pc := 255) (v := .inr (.inl (V 154 0))) zr_199_255 rfl rfl (by decide) rfl ?_
      refine ze_goto (pc := 256) (t := 260) zr_199_256 (by decide) ?_
      exact j247
    · rw [if_neg (show ¬ (0 < l3) from hc)] at j247
      refine ze_lconst (pc := 259) zr_199_259 ?_
      exact j247
theorem zb199_141_p96 {d : Nat} {Q : Int → z_M → Prop} (o1 : Option z_V) (l2 : Int) (l3 : Int) (l4 : Int) (o5 : Option z_V) (o6 : Option z_V) (s1 : Int) (s2 : Int) {V : z_M}
    (h : zGu (0 ≤ s1 ∧ s1 < 400) (∀ W9701, W9701 = z_up V 154 s1.toNat s2 → z_Ex (z_MS d) 199 Q true 10 [some (.inr (.inr 141)), o1, some (.inl l2), some (.inl (z_add l3 1)), some (.inl l4), o5, o6] [] 0 0 W9701)) :
    z_Ex (z_MS d) 199 Q true 96 [some (.inr (.inr 141)), o1, some (.inl l2), some (.inl l3), some (.inl l4), o5, o6] [.inr (.inl s2), .inl s1, .inr (.inr 154)] 0 0 V := by
  refine z_gk h (fun g96 h => ?_)
  refine zq_lastore (pc := 96) zr_199_96 (by decide) rfl g96 rfl h (fun W9701 h => ?_)
  refine zq_iinc (pc := 97) (ls2 := [some (.inr (.inr 141)), o1, some (.inl l2), some (.inl (z_add l3 1)), some (.inl l4), o5, o6]) zr_199_97 rfl rfl rfl ?_
  refine ze_goto (pc := 100) (t := 242) zr_199_100 (by decide) ?_
  refine ze_goto (pc := 242) (t := 10) zr_199_242 (by decide) ?_
  exact h
theorem zb199_141_p113 {d : Nat} {Q : Int → z_M → Prop} (o1 : Option z_V) (l2 : Int) (l3 : Int) (l4 : Int) (l5 : Int) (o6 : Option z_V) {V : z_M}
    (h : zGu (0 ≤ (z_sub l3 1) ∧ (z_sub l3 1) < 400) (∀ x130 : Int, x130 = V 154 (z_sub l3 1).toNat → zGu (0 ≤ l3 ∧ l3 < 400) (∀ x136 : Int, x136 = V 154 l3.toNat → z_MS d 198 true [.inr (.inr 141), .inl l5, .inr (.inl x130), .inr (.inl x136)] V (fun z11401 V11401 => zGu (0 ≤ (z_sub l3 1) ∧ (z_sub l3 1) < 400) (∀ W11401, W11401 = z_up V11401 154 (z_sub l3 1).toNat z11401 → zI ((W11401 141 29) = 0) (zGu (0 ≤ (z_sub l3 1) ∧ (z_sub l3 1) < 400) (∀ x156 : Int, x156 = W11401 154 (z_sub l3 1).toNat → z_MS d 145 true [.inr (.inl x156), .inr (.inl (-1000000000)), .inr (.inl 1000000000)] W11401 (fun z11402 V11402 => ∀ W11403, W11403 = z_up V11402 141 29 (if z11402 = 0 then 1 else 0) → z_Ex (z_MS d) 199 Q true 10 [some (.inr (.inr 141)), o1, some (.inl l2), some (.inl l3), some (.inl l4), some (.inl l5), o6] [] 0 0 W11403))) (∀ W11402, W11402 = z_up W11401 141 29 1 → z_Ex (z_MS d) 199 Q true 10 [some (.inr (.inr 141)), o1, some (.inl l2), some (.inl l3), some (.inl l4), some (.inl l5), o6] [] 0 0 W11402)))))) :
    z_Ex (z_MS d) 199 Q true 113 [some (.inr (.inr 141)), o1, some (.inl l2), some (.inl l3), some (.inl l4), some (.inl l5), o6] [] 0 0 V := by
  refine ze_aload_n (pc := 113) zr_199_113 rfl ?_
  refine ze_getfield (pc := 114) (v := .inr (.inr 154)) zr_199_114 rfl rfl ?_
  refine ze_iload_n (pc := 117) zr_199_117 rfl ?_
  refine ze_iconst (pc := 118) zr_199_118 (by decide) ?_
  refine ze_isub (pc := 119) zr_199_119 ?_
  refine ze_aload_n (pc := 120) zr_199_120 rfl ?_
  refine ze_iload (pc := 121) zr_199_121 rfl ?_
  refine ze_aload_n (pc := 123) zr_199_123 rfl ?_
  refine ze_getfield (pc := 124) (v := .inr (.inr 154)) zr_199_124 rfl rfl ?_
  refine ze_iload_n (pc := 127) zr_199_127 rfl ?_
  refine ze_iconst (pc := 128) zr_199_128 (by decide) ?_
  refine ze_isub (pc := 129) zr_199_129 ?_
  refine z_gk h (fun g130 h => ?_)
  refine zl_laload (pc := 130) zr_199_130 rfl rfl g130 h (fun x130 h => ?_)
  refine ze_aload_n (pc := 131) zr_199_131 rfl ?_
  refine ze_getfield (pc := 132) (v := .inr (.inr 154)) zr_199_132 rfl rfl ?_
  refine ze_iload_n (pc := 135) zr_199_135 rfl ?_
  refine z_gk h (fun g136 h => ?_)
  refine zl_laload (pc := 136) zr_199_136 rfl rfl g136 h (fun x136 h => ?_)
  refine zq_callV2 (pc := 137) (as := [.inr (.inr 141), .inl l5, .inr (.inl x130), .inr (.inl x136)]) (r := [.inl (z_sub l3 1), .inr (.inr 154)]) (kc2 := 0) (ks2 := 0) zr_199_137 rfl (by decide) rfl rfl rfl rfl ⟨rfl, rfl⟩ ⟨rfl, rfl⟩ h (fun z11401 V11401 h => ?_)
  refine z_gk h (fun g140 h => ?_)
  refine zq_lastore (pc := 140) zr_199_140 (by decide) rfl g140 rfl h (fun W11401 h => ?_)
  refine ze_aload_n (pc := 141) zr_199_141 rfl ?_
  refine ze_aload_n (pc := 142) zr_199_142 rfl ?_
  refine ze_getfield (pc := 143) (v := .inl (W11401 141 29)) zr_199_143 rfl rfl ?_
  refine zq_if_ne (pc := 146) (t := 169) zr_199_146 (by decide) (z_toif h) (fun h => ?_) (fun h => ?_)
  · refine ze_aload_n (pc := 149) zr_199_149 rfl ?_
    refine ze_getfield (pc := 150) (v := .inr (.inr 154)) zr_199_150 rfl rfl ?_
    refine ze_iload_n (pc := 153) zr_199_153 rfl ?_
    refine ze_iconst (pc := 154) zr_199_154 (by decide) ?_
    refine ze_isub (pc := 155) zr_199_155 ?_
    refine z_gk h (fun g156 h => ?_)
    refine zl_laload (pc := 156) zr_199_156 rfl rfl g156 h (fun x156 h => ?_)
    refine ze_ldc2 (pc := 157) (z := (-1000000000)) zr_199_157 (by decide) rfl ?_
    refine ze_ldc2 (pc := 160) (z := 1000000000) zr_199_160 (by decide) rfl ?_
    refine zq_callS1 (pc := 163) (as := [.inr (.inl x156), .inr (.inl (-1000000000)), .inr (.inl 1000000000)]) (r := [.inr (.inr 141)]) (kc2 := 0) (ks2 := 0) zr_199_163 rfl rfl rfl rfl ⟨rfl, rfl⟩ ⟨rfl, rfl, rfl⟩ h (fun z11402 V11402 h => ?_)
    have j166 : z_Ex (z_MS d) 199 Q true 174 [some (.inr (.inr 141)), o1, some (.inl l2), some (.inl l3), some (.inl l4), some (.inl l5), o6] [.inl (if z11402 = 0 then 1 else 0), .inr (.inr 141)] 0 0 V11402 := by
      refine zq_putZ (pc := 174) zr_199_174 (by decide) rfl (by (repeat' split) <;> decide) h (fun W11403 h => ?_)
      refine ze_goto (pc := 177) (t := 242) zr_199_177 (by decide) ?_
      refine ze_goto (pc := 242) (t := 10) zr_199_242 (by decide) ?_
      exact h
    refine ze_if_ne (pc := 166) (t := 173) zr_199_166 (by decide) (fun hc => ?_) (fun hc => ?_)
    · rw [if_pos (show z11402 = 0 from hc)] at j166
      refine ze_iconst (pc := 169) zr_199_169 (by decide) ?_
      refine ze_goto (pc := 170) (t := 174) zr_199_170 (by decide) ?_
      exact j166
    · rw [if_neg (show ¬ (z11402 = 0) from hc)] at j166
      refine ze_iconst (pc := 173) zr_199_173 (by decide) ?_
      exact j166
  · refine ze_iconst (pc := 169) zr_199_169 (by decide) ?_
    refine ze_goto (pc := 170) (t := 174) zr_199_170 (by decide) ?_
    refine zq_putZ (pc := 174) zr_199_174 (by decide) rfl (by decide) h (fun W11402 h => ?_)
    refine ze_goto (pc := 177) (t := 242) zr_199_177 (by decide) ?_
    refine ze_goto (pc := 242) (t := 10) zr_199_242 (by decide) ?_
    exact h
theorem zb200_141 {d : Nat} {Q : Int → z_M → Prop} (a0 : Int) {V : z_M}
    (h : zGu (0 ≤ (z_add a0 5) ∧ (z_add a0 5) < 5490) (∀ x7 : Int, x7 = V 143 (z_add a0 5).toNat → zGu (0 ≤ (z_add a0 6) ∧ (z_add a0 6) < 5490) (∀ x16 : Int, x16 = V 143 (z_add a0 6).toNat → zI (x7 < x16) (zGu (0 ≤ (z_add a0 5) ∧ (z_add a0 5) < 5490) (∀ x28 : Int, x28 = V 143 (z_add a0 5).toNat → zGu (0 ≤ (z_add a0 6) ∧ (z_add a0 6) < 5490) (∀ x37 : Int, x37 = V 143 (z_add a0 6).toNat → z_MS d 199 true [.inr (.inr 141), .inl x28, .inl x37] V (fun z1 V1 => zI ((V1 141 29) = 0) (zI ((z_lcmp (V1 141 30) 0) = 0) (Q 0 V1) (z_Ex (z_MS d) 200 Q true 59 [some (.inr (.inr 141)), some (.inl a0)] [] 0 0 V1)) (Q 0 V1))))) (z_Ex (z_MS d) 200 Q true 59 [some (.inr (.inr 141)), some (.inl a0)] [] 0 0 V)))) :
    z_MS (d + 1) 200 true [.inr (.inr 141), .inl a0] V Q := by
  show z_Ex (z_MS d) 200 Q true 0 [some (.inr (.inr 141)), some (.inl a0)] [] 0 0 V
  refine ze_aload_n (pc := 0) zr_200_0 rfl ?_
  refine ze_getfield (pc := 1) (v := .inr (.inr 143)) zr_200_1 rfl rfl ?_
  refine ze_iload_n (pc := 4) zr_200_4 rfl ?_
  refine ze_iconst (pc := 5) zr_200_5 (by decide) ?_
  refine ze_iadd (pc := 6) zr_200_6 ?_
  refine z_gk h (fun g7 h => ?_)
  refine zl_iaload (pc := 7) zr_200_7 rfl rfl g7 h (fun x7 h => ?_)
  refine ze_aload_n (pc := 8) zr_200_8 rfl ?_
  refine ze_getfield (pc := 9) (v := .inr (.inr 143)) zr_200_9 rfl rfl ?_
  refine ze_iload_n (pc := 12) zr_200_12 rfl ?_
  refine ze_bipush (pc := 13) zr_200_13 (by decide) ?_
  refine ze_iadd (pc := 15) zr_200_15 ?_
  refine z_gk h (fun g16 h => ?_)
  refine zl_iaload (pc := 16) zr_200_16 rfl rfl g16 h (fun x16 h => ?_)
  refine zq_icmp_ge (pc := 17) (t := 59) zr_200_17 (by decide) (z_toif h) (fun h => ?_) (fun h => ?_)
  · refine ze_aload_n (pc := 20) zr_200_20 rfl ?_
    refine ze_aload_n (pc := 21) zr_200_21 rfl ?_
    refine ze_getfield (pc := 22) (v := .inr (.inr 143)) zr_200_22 rfl rfl ?_
    refine ze_iload_n (pc := 25) zr_200_25 rfl ?_
    refine ze_iconst (pc := 26) zr_200_26 (by decide) ?_
    refine ze_iadd (pc := 27) zr_200_27 ?_
    refine z_gk h (fun g28 h => ?_)
    refine zl_iaload (pc := 28) zr_200_28 rfl rfl g28 h (fun x28 h => ?_)
    refine ze_aload_n (pc := 29) zr_200_29 rfl ?_
    refine ze_getfield (pc := 30) (v := .inr (.inr 143)) zr_200_30 rfl rfl ?_
    refine ze_iload_n (pc := 33) zr_200_33 rfl ?_
    refine ze_bipush (pc := 34) zr_200_34 (by decide) ?_
    refine ze_iadd (pc := 36) zr_200_36 ?_
    refine z_gk h (fun g37 h => ?_)
    refine zl_iaload (pc := 37) zr_200_37 rfl rfl g37 h (fun x37 h => ?_)
    refine zq_callV0 (pc := 38) (as := [.inr (.inr 141), .inl x28, .inl x37]) (r := []) (kc2 := 0) (ks2 := 0) zr_200_38 rfl (by decide) rfl rfl rfl rfl ⟨rfl, rfl⟩ rfl h (fun z1 V1 h => ?_)
    refine ze_aload_n (pc := 41) zr_200_41 rfl ?_
    refine ze_getfield (pc := 42) (v := .inl (V1 141 29)) zr_200_42 rfl rfl ?_
    refine zq_if_ne (pc := 45) (t := 57) zr_200_45 (by decide) (z_toif h) (fun h => ?_) (fun h => ?_)
    · refine ze_aload_n (pc := 48) zr_200_48 rfl ?_
      refine ze_getfield (pc := 49) (v := .inr (.inl (V1 141 30))) zr_200_49 rfl rfl ?_
      refine ze_lconst (pc := 52) zr_200_52 ?_
      refine ze_lcmp (pc := 53) zr_200_53 ?_
      refine zq_if_ne (pc := 54) (t := 59) zr_200_54 (by decide) (z_toif h) (fun h => ?_) (fun h => ?_)
      · refine ze_iconst (pc := 57) zr_200_57 (by decide) ?_
        exact zq_ret4 (pc := 58) zr_200_58 rfl (by decide) h
      · exact h
    · refine ze_iconst (pc := 57) zr_200_57 (by decide) ?_
      exact zq_ret4 (pc := 58) zr_200_58 rfl (by decide) h
  · exact h
theorem zb200_141_p59 {d : Nat} {Q : Int → z_M → Prop} (l1 : Int) {V : z_M}
    (h : zGu (0 ≤ l1 ∧ l1 < 5490) (∀ x64 : Int, x64 = V 143 l1.toNat → zI (x64 = 0) (zGu (0 ≤ (z_add l1 3) ∧ (z_add l1 3) < 5490) (∀ x76 : Int, x76 = V 143 (z_add l1 3).toNat → zGu (0 ≤ (z_add l1 4) ∧ (z_add l1 4) < 5490) (∀ x84 : Int, x84 = V 143 (z_add l1 4).toNat → z_MS d 199 true [.inr (.inr 141), .inl x76, .inl x84] V (fun z6001 V6001 => ∀ W6001, W6001 = z_up V6001 141 31 (V6001 141 30) → Q (if (W6001 141 29) = 0 then 1 else 0) W6001)))) (Q 1 V))) :
    z_Ex (z_MS d) 200 Q true 59 [some (.inr (.inr 141)), some (.inl l1)] [] 0 0 V := by
  refine ze_aload_n (pc := 59) zr_200_59 rfl ?_
  refine ze_getfield (pc := 60) (v := .inr (.inr 143)) zr_200_60 rfl rfl ?_
  refine ze_iload_n (pc := 63) zr_200_63 rfl ?_
  refine z_gk h (fun g64 h => ?_)
  refine zl_iaload (pc := 64) zr_200_64 rfl rfl g64 h (fun x64 h => ?_)
  refine zq_if_ne (pc := 65) (t := 109) zr_200_65 (by decide) (z_toif h) (fun h => ?_) (fun h => ?_)
  · refine ze_aload_n (pc := 68) zr_200_68 rfl ?_
    refine ze_aload_n (pc := 69) zr_200_69 rfl ?_
    refine ze_getfield (pc := 70) (v := .inr (.inr 143)) zr_200_70 rfl rfl ?_
    refine ze_iload_n (pc := 73) zr_200_73 rfl ?_
    refine ze_iconst (pc := 74) zr_200_74 (by decide) ?_
    refine ze_iadd (pc := 75) zr_200_75 ?_
    refine z_gk h (fun g76 h => ?_)
    refine zl_iaload (pc := 76) zr_200_76 rfl rfl g76 h (fun x76 h => ?_)
    refine ze_aload_n (pc := 77) zr_200_77 rfl ?_
    refine ze_getfield (pc := 78) (v := .inr (.inr 143)) zr_200_78 rfl rfl ?_
    refine ze_iload_n (pc := 81) zr_200_81 rfl ?_
    refine ze_iconst (pc := 82) zr_200_82 (by decide) ?_
    refine ze_iadd (pc := 83) zr_200_83 ?_
    refine z_gk h (fun g84 h => ?_)
    refine zl_iaload (pc := 84) zr_200_84 rfl rfl g84 h (fun x84 h => ?_)
    refine zq_callV0 (pc := 85) (as := [.inr (.inr 141), .inl x76, .inl x84]) (r := []) (kc2 := 0) (ks2 := 0) zr_200_85 rfl (by decide) rfl rfl rfl rfl ⟨rfl, rfl⟩ rfl h (fun z6001 V6001 h => ?_)
    refine ze_aload_n (pc := 88) zr_200_88 rfl ?_
    refine ze_aload_n (pc := 89) zr_200_89 rfl ?_
    refine ze_getfield (pc := 90) (v := .inr (.inl (V6001 141 30))) zr_200_90 rfl rfl ?_
    refine zq_putL (pc := 93) zr_200_93 (by decide) rfl h (fun W6001 h => ?_)
    refine ze_aload_n (pc := 96) zr_200_96 rfl ?_
    refine ze_getfield (pc := 97) (v := .inl (W6001 141 29)) zr_200_97 rfl rfl ?_
    have j100 : z_Ex (z_MS d) 200 Q true 108 [some (.inr (.inr 141)), some (.inl l1)] [.inl (if (W6001 141 29) = 0 then 1 else 0)] 0 0 W6001 := by
      exact zq_ret4 (pc := 108) zr_200_108 rfl (by (repeat' split) <;> decide) h
    refine ze_if_ne (pc := 100) (t := 107) zr_200_100 (by decide) (fun hc => ?_) (fun hc => ?_)
    · rw [if_pos (show (W6001 141 29) = 0 from hc)] at j100
      refine ze_iconst (pc := 103) zr_200_103 (by decide) ?_
      refine ze_goto (pc := 104) (t := 108) zr_200_104 (by decide) ?_
      exact j100
    · rw [if_neg (show ¬ ((W6001 141 29) = 0) from hc)] at j100
      refine ze_iconst (pc := 107) zr_200_107 (by decide) ?_
      exact j100
  · refine ze_iconst (pc := 109) zr_200_109 (by decide) ?_
    exact zq_ret4 (pc := 110) zr_200_110 rfl (by decide) h
theorem zb201_141 {d : Nat} {Q : Int → z_M → Prop}  {V : z_M}
    (h : ∀ W1, W1 = z_up V 141 36 0 → z_Ex (z_MS d) 201 Q true 7 [some (.inr (.inr 141)), some (.inl 0)] [] 0 0 W1) :
    z_MS (d + 1) 201 true [.inr (.inr 141)] V Q := by
  show z_Ex (z_MS d) 201 Q true 0 [some (.inr (.inr 141)), none] [] 0 0 V
  refine ze_aload_n (pc := 0) zr_201_0 rfl ?_
  refine ze_iconst (pc := 1) zr_201_1 (by decide) ?_
  refine zq_putI (pc := 2) zr_201_2 (by decide) rfl h (fun W1 h => ?_)
  refine ze_iconst (pc := 5) zr_201_5 (by decide) ?_
  refine zq_istore_n (pc := 6) (ls2 := [some (.inr (.inr 141)), some (.inl 0)]) zr_201_6 rfl rfl ?_
  exact h
theorem zb201_141_p7 {d : Nat} {Q : Int → z_M → Prop} (l1 : Int) {V : z_M}
    (h : zI (l1 < 12) (zGu (0 ≤ l1 ∧ l1 < 12) (∀ W801, W801 = z_up V 155 l1.toNat l1 → z_Ex (z_MS d) 201 Q true 7 [some (.inr (.inr 141)), some (.inl (z_add l1 1))] [] 0 0 W801)) (z_MS d 202 true [.inr (.inr 141)] V (fun z801 V801 => Q 0 V801))) :
    z_Ex (z_MS d) 201 Q true 7 [some (.inr (.inr 141)), some (.inl l1)] [] 0 0 V := by
  refine ze_iload_n (pc := 7) zr_201_7 rfl ?_
  refine ze_bipush (pc := 8) zr_201_8 (by decide) ?_
  refine zq_icmp_ge (pc := 10) (t := 26) zr_201_10 (by decide) (z_toif h) (fun h => ?_) (fun h => ?_)
  · refine ze_aload_n (pc := 13) zr_201_13 rfl ?_
    refine ze_getfield (pc := 14) (v := .inr (.inr 155)) zr_201_14 rfl rfl ?_
    refine ze_iload_n (pc := 17) zr_201_17 rfl ?_
    refine ze_iload_n (pc := 18) zr_201_18 rfl ?_
    refine z_gk h (fun g19 h => ?_)
    refine zq_iastore (pc := 19) zr_201_19 (by decide) rfl g19 rfl h (fun W801 h => ?_)
    refine zq_iinc (pc := 20) (ls2 := [some (.inr (.inr 141)), some (.inl (z_add l1 1))]) zr_201_20 rfl rfl rfl ?_
    refine ze_goto (pc := 23) (t := 7) zr_201_23 (by decide) ?_
    exact h
  · refine ze_aload_n (pc := 26) zr_201_26 rfl ?_
    refine zq_callV0 (pc := 27) (as := [.inr (.inr 141)]) (r := []) (kc2 := 0) (ks2 := 0) zr_201_27 rfl (by decide) rfl rfl rfl rfl ⟨rfl, rfl⟩ rfl h (fun z801 V801 h => ?_)
    exact ze_vret (pc := 30) zr_201_30 rfl h
theorem zb202_141 {d : Nat} {Q : Int → z_M → Prop}  {V : z_M}
    (h : ∀ W1, W1 = z_up V 141 36 0 → z_Ex (z_MS d) 202 Q true 9 [some (.inr (.inr 141)), some (.inl 0), some (.inl 0), none] [] 0 0 W1) :
    z_MS (d + 1) 202 true [.inr (.inr 141)] V Q := by
  show z_Ex (z_MS d) 202 Q true 0 [some (.inr (.inr 141)), none, none, none] [] 0 0 V
  refine ze_iconst (pc := 0) zr_202_0 (by decide) ?_
  refine zq_istore_n (pc := 1) (ls2 := [some (.inr (.inr 141)), some (.inl 0), none, none]) zr_202_1 rfl rfl ?_
  refine ze_aload_n (pc := 2) zr_202_2 rfl ?_
  refine ze_iconst (pc := 3) zr_202_3 (by decide) ?_
  refine zq_putI (pc := 4) zr_202_4 (by decide) rfl h (fun W1 h => ?_)
  refine ze_iconst (pc := 7) zr_202_7 (by decide) ?_
  refine zq_istore_n (pc := 8) (ls2 := [some (.inr (.inr 141)), some (.inl 0), some (.inl 0), none]) zr_202_8 rfl rfl ?_
  exact h
theorem zb202_141_p9 {d : Nat} {Q : Int → z_M → Prop} (l1 : Int) (l2 : Int) (o3 : Option z_V) {V : z_M}
    (h : z_MS d 154 true [.inr (.inr 141)] V (fun z1001 V1001 => zI (l2 < z1001) (zGu (0 ≤ l2 ∧ l2 < 12) (∀ x24 : Int, x24 = V1001 155 l2.toNat → z_MS d 157 true [.inr (.inr 141), .inl x24, .inl 0] V1001 (fun z1002 V1002 => zGu (0 ≤ l2 ∧ l2 < 12) (∀ W1001, W1001 = z_up V1002 156 l2.toNat (z_add l1 z1002) → zGu (0 ≤ l2 ∧ l2 < 12) (∀ x49 : Int, x49 = W1001 155 l2.toNat → z_MS d 157 true [.inr (.inr 141), .inl x49, .inl 3] W1001 (fun z1003 V1003 => ∀ W1002, W1002 = z_up V1003 141 36 (z_or (W1001 141 36) (if z1003 = 1 then z_shl 1 l2 else 0)) → z_Ex (z_MS d) 202 Q true 71 [some (.inr (.inr 141)), some (.inl (z_add l1 z1002)), some (.inl l2), some (.inl 0)] [] 0 0 W1002)))))) (z_Ex (z_MS d) 202 Q true 133 [some (.inr (.inr 141)), some (.inl l1), some (.inl 0), o3] [] 0 0 V1001))) :
    z_Ex (z_MS d) 202 Q true 9 [some (.inr (.inr 141)), some (.inl l1), some (.inl l2), o3] [] 0 0 V := by
  refine ze_iload_n (pc := 9) zr_202_9 rfl ?_
  refine ze_aload_n (pc := 10) zr_202_10 rfl ?_
  refine zq_callV1 (pc := 11) (as := [.inr (.inr 141)]) (r := [.inl l2]) (kc2 := 0) (ks2 := 0) zr_202_11 rfl (by decide) rfl rfl rfl rfl ⟨rfl, rfl⟩ ⟨rfl, rfl, rfl⟩ h (fun z1001 V1001 h => ?_)
  refine zq_icmp_ge (pc := 14) (t := 131) zr_202_14 (by decide) (z_toif h) (fun h => ?_) (fun h => ?_)
  · refine ze_iload_n (pc := 17) zr_202_17 rfl ?_
    refine ze_aload_n (pc := 18) zr_202_18 rfl ?_
    refine ze_aload_n (pc := 19) zr_202_19 rfl ?_
    refine ze_getfield (pc := 20) (v := .inr (.inr 155)) zr_202_20 rfl rfl ?_
    refine ze_iload_n (pc := 23) zr_202_23 rfl ?_
    refine z_gk h (fun g24 h => ?_)
    refine zl_iaload (pc := 24) zr_202_24 rfl rfl g24 h (fun x24 h => ?_)
    refine ze_iconst (pc := 25) zr_202_25 (by decide) ?_
    refine zq_callV1 (pc := 26) (as := [.inr (.inr 141), .inl x24, .inl 0]) (r := [.inl l1]) (kc2 := 0) (ks2 := 0) zr_202_26 rfl (by decide) rfl rfl rfl rfl ⟨rfl, rfl⟩ ⟨rfl, rfl, rfl⟩ h (fun z1002 V1002 h => ?_)
    refine ze_iadd (pc := 29) zr_202_29 ?_
    refine zq_istore_n (pc := 30) (ls2 := [some (.inr (.inr 141)), some (.inl (z_add l1 z1002)), some (.inl l2), o3]) zr_202_30 rfl rfl ?_
    refine ze_aload_n (pc := 31) zr_202_31 rfl ?_
    refine ze_getfield (pc := 32) (v := .inr (.inr 156)) zr_202_32 rfl rfl ?_
    refine ze_iload_n (pc := 35) zr_202_35 rfl ?_
    refine ze_iload_n (pc := 36) zr_202_36 rfl ?_
    refine z_gk h (fun g37 h => ?_)
    refine zq_iastore (pc := 37) zr_202_37 (by decide) rfl g37 rfl h (fun W1001 h => ?_)
    refine ze_aload_n (pc := 38) zr_202_38 rfl ?_
    refine ze_dup (pc := 39) zr_202_39 rfl ?_
    refine ze_getfield (pc := 40) (v := .inl (W1001 141 36)) zr_202_40 rfl rfl ?_
    refine ze_aload_n (pc := 43) zr_202_43 rfl ?_
    refine ze_aload_n (pc := 44) zr_202_44 rfl ?_
    refine ze_getfield (pc := 45) (v := .inr (.inr 155)) zr_202_45 rfl rfl ?_
    refine ze_iload_n (pc := 48) zr_202_48 rfl ?_
    refine z_gk h (fun g49 h => ?_)
    refine zl_iaload (pc := 49) zr_202_49 rfl rfl g49 h (fun x49 h => ?_)
    refine ze_iconst (pc := 50) zr_202_50 (by decide) ?_
    refine zq_callV1 (pc := 51) (as := [.inr (.inr 141), .inl x49, .inl 3]) (r := [.inl (W1001 141 36), .inr (.inr 141)]) (kc2 := 0) (ks2 := 0) zr_202_51 rfl (by decide) rfl rfl rfl rfl ⟨rfl, rfl⟩ ⟨rfl, rfl, rfl⟩ h (fun z1003 V1003 h => ?_)
    refine ze_iconst (pc := 54) zr_202_54 (by decide) ?_
    have j55 : z_Ex (z_MS d) 202 Q true 65 [some (.inr (.inr 141)), some (.inl (z_add l1 z1002)), some (.inl l2), o3] [.inl (if z1003 = 1 then z_shl 1 l2 else 0), .inl (W1001 141 36), .inr (.inr 141)] 0 0 V1003 := by
      refine ze_ior (pc := 65) zr_202_65 ?_
      refine zq_putI (pc := 66) zr_202_66 (by decide) rfl h (fun W1002 h => ?_)
      refine ze_iconst (pc := 69) zr_202_69 (by decide) ?_
      refine zq_istore_n (pc := 70) (ls2 := [some (.inr (.inr 141)), some (.inl (z_add l1 z1002)), some (.inl l2), some (.inl 0)]) zr_202_70 rfl rfl ?_
      exact h
    refine ze_icmp_ne (pc := 55) (t := 64) zr_202_55 (by decide) (fun hc => ?_) (fun hc => ?_)
    · rw [if_pos (show z1003 = 1 from hc)] at j55
      refine ze_iconst (pc := 58) zr_202_58 (by decide) ?_
      refine ze_iload_n (pc := 59) zr_202_59 rfl ?_
      refine ze_ishl (pc := 60) zr_202_60 ?_
      refine ze_goto (pc := 61) (t := 65) zr_202_61 (by decide) ?_
      exact j55
    · rw [if_neg (show ¬ (z1003 = 1) from hc)] at j55
      refine ze_iconst (pc := 64) zr_202_64 (by decide) ?_
      exact j55
  · refine ze_iconst (pc := 131) zr_202_131 (by decide) ?_
    refine zq_istore_n (pc := 132) (ls2 := [some (.inr (.inr 141)), some (.inl l1), some (.inl 0), o3]) zr_202_132 rfl rfl ?_
    exact h
theorem zb202_141_p71 {d : Nat} {Q : Int → z_M → Prop} (l1 : Int) (l2 : Int) (l3 : Int) {V : z_M}
    (h : zI (l3 < (V 143 4)) (zGu (0 ≤ (z_add (z_add 68 (z_mul 2 l3)) 1) ∧ (z_add (z_add 68 (z_mul 2 l3)) 1) < 5490) (∀ x98 : Int, x98 = V 143 (z_add (z_add 68 (z_mul 2 l3)) 1).toNat → zGu (0 ≤ l2 ∧ l2 < 12) (∀ x104 : Int, x104 = V 155 l2.toNat → zI (x98 = x104) (zGu (0 ≤ l3 ∧ l3 < 7) (∀ W7202, W7202 = z_up V 158 l3.toNat l2 → z_Ex (z_MS d) 202 Q true 71 [some (.inr (.inr 141)), some (.inl l1), some (.inl l2), some (.inl (z_add l3 1))] [] 0 0 W7202)) (zGu (0 ≤ l3 ∧ l3 < 7) (∀ x117 : Int, x117 = V 158 l3.toNat → zGu (0 ≤ l3 ∧ l3 < 7) (∀ W7201, W7201 = z_up V 158 l3.toNat x117 → z_Ex (z_MS d) 202 Q true 71 [some (.inr (.inr 141)), some (.inl l1), some (.inl l2), some (.inl (z_add l3 1))] [] 0 0 W7201)))))) (z_Ex (z_MS d) 202 Q true 9 [some (.inr (.inr 141)), some (.inl l1), some (.inl (z_add l2 1)), some (.inl l3)] [] 0 0 V)) :
    z_Ex (z_MS d) 202 Q true 71 [some (.inr (.inr 141)), some (.inl l1), some (.inl l2), some (.inl l3)] [] 0 0 V := by
  refine ze_iload_n (pc := 71) zr_202_71 rfl ?_
  refine ze_aload_n (pc := 72) zr_202_72 rfl ?_
  refine ze_getfield (pc := 73) (v := .inr (.inr 143)) zr_202_73 rfl rfl ?_
  refine ze_iconst (pc := 76) zr_202_76 (by decide) ?_
  refine zq_iaload (pc := 77) (v := .inl (V 143 4)) zr_202_77 rfl rfl (by decide) rfl ?_
  refine zq_icmp_ge (pc := 78) (t := 125) zr_202_78 (by decide) (z_toif h) (fun h => ?_) (fun h => ?_)
  · refine ze_aload_n (pc := 81) zr_202_81 rfl ?_
    refine ze_getfield (pc := 82) (v := .inr (.inr 158)) zr_202_82 rfl rfl ?_
    refine ze_iload_n (pc := 85) zr_202_85 rfl ?_
    refine ze_aload_n (pc := 86) zr_202_86 rfl ?_
    refine ze_getfield (pc := 87) (v := .inr (.inr 143)) zr_202_87 rfl rfl ?_
    refine ze_bipush (pc := 90) zr_202_90 (by decide) ?_
    refine ze_iconst (pc := 92) zr_202_92 (by decide) ?_
    refine ze_iload_n (pc := 93) zr_202_93 rfl ?_
    refine ze_imul (pc := 94) zr_202_94 ?_
    refine ze_iadd (pc := 95) zr_202_95 ?_
    refine ze_iconst (pc := 96) zr_202_96 (by decide) ?_
    refine ze_iadd (pc := 97) zr_202_97 ?_
    refine z_gk h (fun g98 h => ?_)
    refine zl_iaload (pc := 98) zr_202_98 rfl rfl g98 h (fun x98 h => ?_)
    refine ze_aload_n (pc := 99) zr_202_99 rfl ?_
    refine ze_getfield (pc := 100) (v := .inr (.inr 155)) zr_202_100 rfl rfl ?_
    refine ze_iload_n (pc := 103) zr_202_103 rfl ?_
    refine z_gk h (fun g104 h => ?_)
    refine zl_iaload (pc := 104) zr_202_104 rfl rfl g104 h (fun x104 h => ?_)
    refine zq_icmp_ne (pc := 105) (t := 112) zr_202_105 (by decide) (z_toif h) (fun h => ?_) (fun h => ?_)
    · refine ze_iload_n (pc := 108) zr_202_108 rfl ?_
      refine ze_goto (pc := 109) (t := 118) zr_202_109 (by decide) ?_
      refine z_gk h (fun g118 h => ?_)
      refine zq_iastore (pc := 118) zr_202_118 (by decide) rfl g118 rfl h (fun W7202 h => ?_)
      refine zq_iinc (pc := 119) (ls2 := [some (.inr (.inr 141)), some (.inl l1), some (.inl l2), some (.inl (z_add l3 1))]) zr_202_119 rfl rfl rfl ?_
      refine ze_goto (pc := 122) (t := 71) zr_202_122 (by decide) ?_
      exact h
    · refine ze_aload_n (pc := 112) zr_202_112 rfl ?_
      refine ze_getfield (pc := 113) (v := .inr (.inr 158)) zr_202_113 rfl rfl ?_
      refine ze_iload_n (pc := 116) zr_202_116 rfl ?_
      refine z_gk h (fun g117 h => ?_)
      refine zl_iaload (pc := 117) zr_202_117 rfl rfl g117 h (fun x117 h => ?_)
      refine z_gk h (fun g118 h => ?_)
      refine zq_iastore (pc := 118) zr_202_118 (by decide) rfl g118 rfl h (fun W7201 h => ?_)
      refine zq_iinc (pc := 119) (ls2 := [some (.inr (.inr 141)), some (.inl l1), some (.inl l2), some (.inl (z_add l3 1))]) zr_202_119 rfl rfl rfl ?_
      refine ze_goto (pc := 122) (t := 71) zr_202_122 (by decide) ?_
      exact h
  · refine zq_iinc (pc := 125) (ls2 := [some (.inr (.inr 141)), some (.inl l1), some (.inl (z_add l2 1)), some (.inl l3)]) zr_202_125 rfl rfl rfl ?_
    refine ze_goto (pc := 128) (t := 9) zr_202_128 (by decide) ?_
    exact h
theorem zb202_141_p133 {d : Nat} {Q : Int → z_M → Prop} (o1 : Option z_V) (l2 : Int) (o3 : Option z_V) {V : z_M}
    (h : zI (l2 < (V 143 1)) (zGu (0 ≤ l2 ∧ l2 < 6) (∀ W13401, W13401 = z_up V 157 l2.toNat 0 → z_Ex (z_MS d) 202 Q true 152 [some (.inr (.inr 141)), o1, some (.inl l2), some (.inl 0)] [] 0 0 W13401)) (Q 0 V)) :
    z_Ex (z_MS d) 202 Q true 133 [some (.inr (.inr 141)), o1, some (.inl l2), o3] [] 0 0 V := by
  refine ze_iload_n (pc := 133) zr_202_133 rfl ?_
  refine ze_aload_n (pc := 134) zr_202_134 rfl ?_
  refine ze_getfield (pc := 135) (v := .inr (.inr 143)) zr_202_135 rfl rfl ?_
  refine ze_iconst (pc := 138) zr_202_138 (by decide) ?_
  refine zq_iaload (pc := 139) (v := .inl (V 143 1)) zr_202_139 rfl rfl (by decide) rfl ?_
  refine zq_icmp_ge (pc := 140) (t := 197) zr_202_140 (by decide) (z_toif h) (fun h => ?_) (fun h => ?_)
  · refine ze_aload_n (pc := 143) zr_202_143 rfl ?_
    refine ze_getfield (pc := 144) (v := .inr (.inr 157)) zr_202_144 rfl rfl ?_
    refine ze_iload_n (pc := 147) zr_202_147 rfl ?_
    refine ze_iconst (pc := 148) zr_202_148 (by decide) ?_
    refine z_gk h (fun g149 h => ?_)
    refine zq_iastore (pc := 149) zr_202_149 (by decide) rfl g149 rfl h (fun W13401 h => ?_)
    refine ze_iconst (pc := 150) zr_202_150 (by decide) ?_
    refine zq_istore_n (pc := 151) (ls2 := [some (.inr (.inr 141)), o1, some (.inl l2), some (.inl 0)]) zr_202_151 rfl rfl ?_
    exact h
  · exact ze_vret (pc := 197) zr_202_197 rfl h
theorem zb202_141_p152 {d : Nat} {Q : Int → z_M → Prop} (o1 : Option z_V) (l2 : Int) (l3 : Int) {V : z_M}
    (h : z_MS d 154 true [.inr (.inr 141)] V (fun z15301 V15301 => zI (l3 < z15301) (zGu (0 ≤ l2 ∧ l2 < 6) (∀ x166 : Int, x166 = V15301 157 l2.toNat → z_MS d 203 true [.inr (.inr 141), .inl l2, .inl l3] V15301 (fun z15302 V15302 => zGu (0 ≤ l2 ∧ l2 < 6) (∀ W15301, W15301 = z_up V15302 157 l2.toNat (z_or x166 (if z15302 = 0 then 0 else z_shl 1 l3)) → z_Ex (z_MS d) 202 Q true 152 [some (.inr (.inr 141)), o1, some (.inl l2), some (.inl (z_add l3 1))] [] 0 0 W15301)))) (z_Ex (z_MS d) 202 Q true 133 [some (.inr (.inr 141)), (cond (z_o2 o1) none o1), some (.inl (z_add l2 1)), some (.inl l3)] [] 0 0 V15301))) :
    z_Ex (z_MS d) 202 Q true 152 [some (.inr (.inr 141)), o1, some (.inl l2), some (.inl l3)] [] 0 0 V := by
  refine ze_iload_n (pc := 152) zr_202_152 rfl ?_
  refine ze_aload_n (pc := 153) zr_202_153 rfl ?_
  refine zq_callV1 (pc := 154) (as := [.inr (.inr 141)]) (r := [.inl l3]) (kc2 := 0) (ks2 := 0) zr_202_154 rfl (by decide) rfl rfl rfl rfl ⟨rfl, rfl⟩ ⟨rfl, rfl, rfl⟩ h (fun z15301 V15301 h => ?_)
  refine zq_icmp_ge (pc := 157) (t := 191) zr_202_157 (by decide) (z_toif h) (fun h => ?_) (fun h => ?_)
  · refine ze_aload_n (pc := 160) zr_202_160 rfl ?_
    refine ze_getfield (pc := 161) (v := .inr (.inr 157)) zr_202_161 rfl rfl ?_
    refine ze_iload_n (pc := 164) zr_202_164 rfl ?_
    refine zq_dup2 (pc := 165) zr_202_165 rfl rfl ?_
    refine z_gk h (fun g166 h => ?_)
    refine zl_iaload (pc := 166) zr_202_166 rfl rfl g166 h (fun x166 h => ?_)
    refine ze_aload_n (pc := 167) zr_202_167 rfl ?_
    refine ze_iload_n (pc := 168) zr_202_168 rfl ?_
    refine ze_iload_n (pc := 169) zr_202_169 rfl ?_
    refine zq_callV1 (pc := 170) (as := [.inr (.inr 141), .inl l2, .inl l3]) (r := [.inl x166, .inl l2, .inr (.inr 157)]) (kc2 := 0) (ks2 := 0) zr_202_170 rfl (by decide) rfl rfl rfl rfl ⟨rfl, rfl⟩ ⟨rfl, rfl, rfl⟩ h (fun z15302 V15302 h => ?_)
    have j173 : z_Ex (z_MS d) 202 Q true 183 [some (.inr (.inr 141)), o1, some (.inl l2), some (.inl l3)] [.inl (if z15302 = 0 then 0 else z_shl 1 l3), .inl x166, .inl l2, .inr (.inr 157)] 0 0 V15302 := by
      refine ze_ior (pc := 183) zr_202_183 ?_
      refine z_gk h (fun g184 h => ?_)
      refine zq_iastore (pc := 184) zr_202_184 (by decide) rfl g184 rfl h (fun W15301 h => ?_)
      refine zq_iinc (pc := 185) (ls2 := [some (.inr (.inr 141)), o1, some (.inl l2), some (.inl (z_add l3 1))]) zr_202_185 rfl rfl rfl ?_
      refine ze_goto (pc := 188) (t := 152) zr_202_188 (by decide) ?_
      exact h
    refine ze_if_eq (pc := 173) (t := 182) zr_202_173 (by decide) (fun hc => ?_) (fun hc => ?_)
    · rw [if_pos (show z15302 = 0 from hc)] at j173
      refine ze_iconst (pc := 182) zr_202_182 (by decide) ?_
      exact j173
    · rw [if_neg (show ¬ (z15302 = 0) from hc)] at j173
      refine ze_iconst (pc := 176) zr_202_176 (by decide) ?_
      refine ze_iload_n (pc := 177) zr_202_177 rfl ?_
      refine ze_ishl (pc := 178) zr_202_178 ?_
      refine ze_goto (pc := 179) (t := 183) zr_202_179 (by decide) ?_
      exact j173
  · refine zq_iinc (pc := 191) (ls2 := [some (.inr (.inr 141)), (cond (z_o2 o1) none o1), some (.inl (z_add l2 1)), some (.inl l3)]) zr_202_191 rfl rfl rfl ?_
    refine ze_goto (pc := 194) (t := 133) zr_202_194 (by decide) ?_
    exact h
theorem zb203_141 {d : Nat} {Q : Int → z_M → Prop} (a0 : Int) (a1 : Int) {V : z_M}
    (h : zGu (0 ≤ a1 ∧ a1 < 12) (∀ x5 : Int, x5 = V 155 a1.toNat → zGu (0 ≤ (z_add (z_add 56 (z_mul 2 a0)) 1) ∧ (z_add (z_add 56 (z_mul 2 a0)) 1) < 5490) (∀ x19 : Int, x19 = V 143 (z_add (z_add 56 (z_mul 2 a0)) 1).toNat → z_MS d 157 true [.inr (.inr 141), .inl x5, .inl 1] V (fun z1 V1 => zI ((V1 143 3) = (-1)) (Q (if (z_lcmp z1 x19) < 0 then 0 else 1) V1) (∀ W1, W1 = z_up V1 141 26 (z_add 90 (z_mul 900 (V1 143 3))) → ∀ W2, W2 = z_up W1 153 1 a0 → ∀ W3, W3 = z_up W2 153 2 a1 → z_MS d 157 true [.inr (.inr 141), .inl x5, .inl 0] W3 (fun z2 V2 => ∀ W4, W4 = z_up V2 153 3 z2 → zGu (0 ≤ a1 ∧ a1 < 12) (∀ x97 : Int, x97 = W4 156 a1.toNat → ∀ W5, W5 = z_up W4 153 4 x97 → ∀ W6, W6 = z_up W5 153 5 x19 → z_MS d 158 true [.inr (.inr 141), .inl a0] W6 (fun z3 V3 => ∀ W7, W7 = z_up V3 153 6 z3 → ∀ W8, W8 = z_up W7 153 7 (W7 143 6) → z_MS d 157 true [.inr (.inr 141), .inl x5, .inl 2] W8 (fun z4 V4 => ∀ W9, W9 = z_up V4 153 8 z4 → ∀ W10, W10 = z_up W9 153 9 z1 → z_Ex (z_MS d) 203 Q true 163 [some (.inr (.inr 141)), some (.inl a0), some (.inl a1), some (.inl x5), some (.inl x19), some (.inr (.inl z1)), none, some (.inl 0), none] [] 0 0 W10))))))))) :
    z_MS (d + 1) 203 true [.inr (.inr 141), .inl a0, .inl a1] V Q := by
  show z_Ex (z_MS d) 203 Q true 0 [some (.inr (.inr 141)), some (.inl a0), some (.inl a1), none, none, none, none, none, none] [] 0 0 V
  refine ze_aload_n (pc := 0) zr_203_0 rfl ?_
  refine ze_getfield (pc := 1) (v := .inr (.inr 155)) zr_203_1 rfl rfl ?_
  refine ze_iload_n (pc := 4) zr_203_4 rfl ?_
  refine z_gk h (fun g5 h => ?_)
  refine zl_iaload (pc := 5) zr_203_5 rfl rfl g5 h (fun x5 h => ?_)
  refine zq_istore_n (pc := 6) (ls2 := [some (.inr (.inr 141)), some (.inl a0), some (.inl a1), some (.inl x5), none, none, none, none, none]) zr_203_6 rfl rfl ?_
  refine ze_aload_n (pc := 7) zr_203_7 rfl ?_
  refine ze_getfield (pc := 8) (v := .inr (.inr 143)) zr_203_8 rfl rfl ?_
  refine ze_bipush (pc := 11) zr_203_11 (by decide) ?_
  refine ze_iconst (pc := 13) zr_203_13 (by decide) ?_
  refine ze_iload_n (pc := 14) zr_203_14 rfl ?_
  refine ze_imul (pc := 15) zr_203_15 ?_
  refine ze_iadd (pc := 16) zr_203_16 ?_
  refine ze_iconst (pc := 17) zr_203_17 (by decide) ?_
  refine ze_iadd (pc := 18) zr_203_18 ?_
  refine z_gk h (fun g19 h => ?_)
  refine zl_iaload (pc := 19) zr_203_19 rfl rfl g19 h (fun x19 h => ?_)
  refine zq_istore (pc := 20) (ls2 := [some (.inr (.inr 141)), some (.inl a0), some (.inl a1), some (.inl x5), some (.inl x19), none, none, none, none]) zr_203_20 rfl rfl ?_
  refine ze_aload_n (pc := 22) zr_203_22 rfl ?_
  refine ze_iload_n (pc := 23) zr_203_23 rfl ?_
  refine ze_iconst (pc := 24) zr_203_24 (by decide) ?_
  refine zq_callV1 (pc := 25) (as := [.inr (.inr 141), .inl x5, .inl 1]) (r := []) (kc2 := 0) (ks2 := 0) zr_203_25 rfl (by decide) rfl rfl rfl rfl ⟨rfl, rfl⟩ ⟨rfl, rfl, rfl⟩ h (fun z1 V1 h => ?_)
  refine ze_i2l (pc := 28) zr_203_28 ?_
  refine zq_lstore (pc := 29) (ls2 := [some (.inr (.inr 141)), some (.inl a0), some (.inl a1), some (.inl x5), some (.inl x19), some (.inr (.inl z1)), none, none, none]) zr_203_29 rfl rfl ?_
  refine ze_aload_n (pc := 31) zr_203_31 rfl ?_
  refine ze_getfield (pc := 32) (v := .inr (.inr 143)) zr_203_32 rfl rfl ?_
  refine ze_iconst (pc := 35) zr_203_35 (by decide) ?_
  refine zq_iaload (pc := 36) (v := .inl (V1 143 3)) zr_203_36 rfl rfl (by decide) rfl ?_
  refine ze_iconst (pc := 37) zr_203_37 (by decide) ?_
  refine zq_icmp_eq (pc := 38) (t := 227) zr_203_38 (by decide) (z_toif h) (fun h => ?_) (fun h => ?_)
  · refine ze_lload (pc := 227) zr_203_227 rfl ?_
    refine ze_iload (pc := 229) zr_203_229 rfl ?_
    refine ze_i2l (pc := 231) zr_203_231 ?_
    refine ze_lcmp (pc := 232) zr_203_232 ?_
    have j233 : z_Ex (z_MS d) 203 Q true 241 [some (.inr (.inr 141)), some (.inl a0), some (.inl a1), some (.inl x5), some (.inl x19), some (.inr (.inl z1)), none, none, none] [.inl (if (z_lcmp z1 x19) < 0 then 0 else 1)] 0 0 V1 := by
      exact zq_ret4 (pc := 241) zr_203_241 rfl (by (repeat' split) <;> decide) h
    refine ze_if_lt (pc := 233) (t := 240) zr_203_233 (by decide) (fun hc => ?_) (fun hc => ?_)
    · rw [if_pos (show (z_lcmp z1 x19) < 0 from hc)] at j233
      refine ze_iconst (pc := 240) zr_203_240 (by decide) ?_
      exact j233
    · rw [if_neg (show ¬ ((z_lcmp z1 x19) < 0) from hc)] at j233
      refine ze_iconst (pc := 236) zr_203_236 (by decide) ?_
      refine ze_goto (pc := 237) (t := 241) zr_203_237 (by decide) ?_
      exact j233
  · refine ze_aload_n (pc := 41) zr_203_41 rfl ?_
    refine ze_bipush (pc := 42) zr_203_42 (by decide) ?_
    refine ze_sipush (pc := 44) zr_203_44 (by decide) ?_
    refine ze_aload_n (pc := 47) zr_203_47 rfl ?_
    refine ze_getfield (pc := 48) (v := .inr (.inr 143)) zr_203_48 rfl rfl ?_
    refine ze_iconst (pc := 51) zr_203_51 (by decide) ?_
    refine zq_iaload (pc := 52) (v := .inl (V1 143 3)) zr_203_52 rfl rfl (by decide) rfl ?_
    refine ze_imul (pc := 53) zr_203_53 ?_
    refine ze_iadd (pc := 54) zr_203_54 ?_
    refine zq_putI (pc := 55) zr_203_55 (by decide) rfl h (fun W1 h => ?_)
    refine ze_aload_n (pc := 58) zr_203_58 rfl ?_
    refine ze_getfield (pc := 59) (v := .inr (.inr 153)) zr_203_59 rfl rfl ?_
    refine ze_iconst (pc := 62) zr_203_62 (by decide) ?_
    refine ze_iload_n (pc := 63) zr_203_63 rfl ?_
    refine ze_i2l (pc := 64) zr_203_64 ?_
    refine zq_lastore (pc := 65) zr_203_65 (by decide) rfl (by decide) rfl h (fun W2 h => ?_)
    refine ze_aload_n (pc := 66) zr_203_66 rfl ?_
    refine ze_getfield (pc := 67) (v := .inr (.inr 153)) zr_203_67 rfl rfl ?_
    refine ze_iconst (pc := 70) zr_203_70 (by decide) ?_
    refine ze_iload_n (pc := 71) zr_203_71 rfl ?_
    refine ze_i2l (pc := 72) zr_203_72 ?_
    refine zq_lastore (pc := 73) zr_203_73 (by decide) rfl (by decide) rfl h (fun W3 h => ?_)
    refine ze_aload_n (pc := 74) zr_203_74 rfl ?_
    refine ze_getfield (pc := 75) (v := .inr (.inr 153)) zr_203_75 rfl rfl ?_
    refine ze_iconst (pc := 78) zr_203_78 (by decide) ?_
    refine ze_aload_n (pc := 79) zr_203_79 rfl ?_
    refine ze_iload_n (pc := 80) zr_203_80 rfl ?_
    refine ze_iconst (pc := 81) zr_203_81 (by decide) ?_
    refine zq_callV1 (pc := 82) (as := [.inr (.inr 141), .inl x5, .inl 0]) (r := [.inl 3, .inr (.inr 153)]) (kc2 := 0) (ks2 := 0) zr_203_82 rfl (by decide) rfl rfl rfl rfl ⟨rfl, rfl⟩ ⟨rfl, rfl, rfl⟩ h (fun z2 V2 h => ?_)
    refine ze_i2l (pc := 85) zr_203_85 ?_
    refine zq_lastore (pc := 86) zr_203_86 (by decide) rfl (by decide) rfl h (fun W4 h => ?_)
    refine ze_aload_n (pc := 87) zr_203_87 rfl ?_
    refine ze_getfield (pc := 88) (v := .inr (.inr 153)) zr_203_88 rfl rfl ?_
    refine ze_iconst (pc := 91) zr_203_91 (by decide) ?_
    refine ze_aload_n (pc := 92) zr_203_92 rfl ?_
    refine ze_getfield (pc := 93) (v := .inr (.inr 156)) zr_203_93 rfl rfl ?_
    refine ze_iload_n (pc := 96) zr_203_96 rfl ?_
    refine z_gk h (fun g97 h => ?_)
    refine zl_iaload (pc := 97) zr_203_97 rfl rfl g97 h (fun x97 h => ?_)
    refine ze_i2l (pc := 98) zr_203_98 ?_
    refine zq_lastore (pc := 99) zr_203_99 (by decide) rfl (by decide) rfl h (fun W5 h => ?_)
    refine ze_aload_n (pc := 100) zr_203_100 rfl ?_
    refine ze_getfield (pc := 101) (v := .inr (.inr 153)) zr_203_101 rfl rfl ?_
    refine ze_iconst (pc := 104) zr_203_104 (by decide) ?_
    refine ze_iload (pc := 105) zr_203_105 rfl ?_
    refine ze_i2l (pc := 107) zr_203_107 ?_
    refine zq_lastore (pc := 108) zr_203_108 (by decide) rfl (by decide) rfl h (fun W6 h => ?_)
    refine ze_aload_n (pc := 109) zr_203_109 rfl ?_
    refine ze_getfield (pc := 110) (v := .inr (.inr 153)) zr_203_110 rfl rfl ?_
    refine ze_bipush (pc := 113) zr_203_113 (by decide) ?_
    refine ze_aload_n (pc := 115) zr_203_115 rfl ?_
    refine ze_iload_n (pc := 116) zr_203_116 rfl ?_
    refine zq_callV1 (pc := 117) (as := [.inr (.inr 141), .inl a0]) (r := [.inl 6, .inr (.inr 153)]) (kc2 := 0) (ks2 := 0) zr_203_117 rfl (by decide) rfl rfl rfl rfl ⟨rfl, rfl⟩ ⟨rfl, rfl, rfl⟩ h (fun z3 V3 h => ?_)
    refine ze_i2l (pc := 120) zr_203_120 ?_
    refine zq_lastore (pc := 121) zr_203_121 (by decide) rfl (by decide) rfl h (fun W7 h => ?_)
    refine ze_aload_n (pc := 122) zr_203_122 rfl ?_
    refine ze_getfield (pc := 123) (v := .inr (.inr 153)) zr_203_123 rfl rfl ?_
    refine ze_bipush (pc := 126) zr_203_126 (by decide) ?_
    refine ze_aload_n (pc := 128) zr_203_128 rfl ?_
    refine ze_getfield (pc := 129) (v := .inr (.inr 143)) zr_203_129 rfl rfl ?_
    refine ze_bipush (pc := 132) zr_203_132 (by decide) ?_
    refine zq_iaload (pc := 134) (v := .inl (W7 143 6)) zr_203_134 rfl rfl (by decide) rfl ?_
    refine ze_i2l (pc := 135) zr_203_135 ?_
    refine zq_lastore (pc := 136) zr_203_136 (by decide) rfl (by decide) rfl h (fun W8 h => ?_)
    refine ze_aload_n (pc := 137) zr_203_137 rfl ?_
    refine ze_getfield (pc := 138) (v := .inr (.inr 153)) zr_203_138 rfl rfl ?_
    refine ze_bipush (pc := 141) zr_203_141 (by decide) ?_
    refine ze_aload_n (pc := 143) zr_203_143 rfl ?_
    refine ze_iload_n (pc := 144) zr_203_144 rfl ?_
    refine ze_iconst (pc := 145) zr_203_145 (by decide) ?_
    refine zq_callV1 (pc := 146) (as := [.inr (.inr 141), .inl x5, .inl 2]) (r := [.inl 8, .inr (.inr 153)]) (kc2 := 0) (ks2 := 0) zr_203_146 rfl (by decide) rfl rfl rfl rfl ⟨rfl, rfl⟩ ⟨rfl, rfl, rfl⟩ h (fun z4 V4 h => ?_)
    refine ze_i2l (pc := 149) zr_203_149 ?_
    refine zq_lastore (pc := 150) zr_203_150 (by decide) rfl (by decide) rfl h (fun W9 h => ?_)
    refine ze_aload_n (pc := 151) zr_203_151 rfl ?_
    refine ze_getfield (pc := 152) (v := .inr (.inr 153)) zr_203_152 rfl rfl ?_
    refine ze_bipush (pc := 155) zr_203_155 (by decide) ?_
    refine ze_lload (pc := 157) zr_203_157 rfl ?_
    refine zq_lastore (pc := 159) zr_203_159 (by decide) rfl (by decide) rfl h (fun W10 h => ?_)
    refine ze_iconst (pc := 160) zr_203_160 (by decide) ?_
    refine zq_istore (pc := 161) (ls2 := [some (.inr (.inr 141)), some (.inl a0), some (.inl a1), some (.inl x5), some (.inl x19), some (.inr (.inl z1)), none, some (.inl 0), none]) zr_203_161 rfl rfl ?_
    exact h
theorem zb203_141_p163 {d : Nat} {Q : Int → z_M → Prop} (o1 : Option z_V) (o2 : Option z_V) (o3 : Option z_V) (l4 : Int) (l5 : Int) (l7 : Int) (o8 : Option z_V) {V : z_M}
    (h : zGu (0 ≤ (z_add (V 141 26) 1) ∧ (z_add (V 141 26) 1) < 5490) (∀ x175 : Int, x175 = V 143 (z_add (V 141 26) 1).toNat → zI (l7 < x175) (z_MS d 200 true [.inr (.inr 141), .inl (z_add (z_add (V 141 26) 2) (z_mul 8 l7))] V (fun z16401 V16401 => zI (z16401 = 0) (z_Ex (z_MS d) 203 Q true 163 [some (.inr (.inr 141)), o1, o2, o3, some (.inl l4), some (.inr (.inl l5)), none, some (.inl (z_add l7 1)), some (.inl (z_add (z_add (V 141 26) 2) (z_mul 8 l7)))] [] 0 0 V16401) (zGu (0 ≤ (z_add (z_add (V 141 26) 2) (z_mul 8 l7)) ∧ (z_add (z_add (V 141 26) 2) (z_mul 8 l7)) < 5490) (∀ x208 : Int, x208 = V16401 143 (z_add (z_add (V 141 26) 2) (z_mul 8 l7)).toNat → zI (x208 = 1) (Q 0 V16401) (z_Ex (z_MS d) 203 Q true 163 [some (.inr (.inr 141)), o1, o2, o3, some (.inl l4), some (.inr (.inl (V16401 141 31))), none, some (.inl (z_add l7 1)), some (.inl (z_add (z_add (V 141 26) 2) (z_mul 8 l7)))] [] 0 0 V16401))))) (Q (if (z_lcmp l5 l4) < 0 then 0 else 1) V))) :
    z_Ex (z_MS d) 203 Q true 163 [some (.inr (.inr 141)), o1, o2, o3, some (.inl l4), some (.inr (.inl l5)), none, some (.inl l7), o8] [] 0 0 V := by
  refine ze_iload (pc := 163) zr_203_163 rfl ?_
  refine ze_aload_n (pc := 165) zr_203_165 rfl ?_
  refine ze_getfield (pc := 166) (v := .inr (.inr 143)) zr_203_166 rfl rfl ?_
  refine ze_aload_n (pc := 169) zr_203_169 rfl ?_
  refine ze_getfield (pc := 170) (v := .inl (V 141 26)) zr_203_170 rfl rfl ?_
  refine ze_iconst (pc := 173) zr_203_173 (by decide) ?_
  refine ze_iadd (pc := 174) zr_203_174 ?_
  refine z_gk h (fun g175 h => ?_)
  refine zl_iaload (pc := 175) zr_203_175 rfl rfl g175 h (fun x175 h => ?_)
  refine zq_icmp_ge (pc := 176) (t := 227) zr_203_176 (by decide) (z_toif h) (fun h => ?_) (fun h => ?_)
  · refine ze_aload_n (pc := 179) zr_203_179 rfl ?_
    refine ze_getfield (pc := 180) (v := .inl (V 141 26)) zr_203_180 rfl rfl ?_
    refine ze_iconst (pc := 183) zr_203_183 (by decide) ?_
    refine ze_iadd (pc := 184) zr_203_184 ?_
    refine ze_bipush (pc := 185) zr_203_185 (by decide) ?_
    refine ze_iload (pc := 187) zr_203_187 rfl ?_
    refine ze_imul (pc := 189) zr_203_189 ?_
    refine ze_iadd (pc := 190) zr_203_190 ?_
    refine zq_istore (pc := 191) (ls2 := [some (.inr (.inr 141)), o1, o2, o3, some (.inl l4), some (.inr (.inl l5)), none, some (.inl l7), some (.inl (z_add (z_add (V 141 26) 2) (z_mul 8 l7)))]) zr_203_191 rfl rfl ?_
    refine ze_aload_n (pc := 193) zr_203_193 rfl ?_
    refine ze_iload (pc := 194) zr_203_194 rfl ?_
    refine zq_callV1 (pc := 196) (as := [.inr (.inr 141), .inl (z_add (z_add (V 141 26) 2) (z_mul 8 l7))]) (r := []) (kc2 := 0) (ks2 := 0) zr_203_196 rfl (by decide) rfl rfl rfl rfl ⟨rfl, rfl⟩ ⟨rfl, rfl, rfl⟩ h (fun z16401 V16401 h => ?_)
    refine zq_if_eq (pc := 199) (t := 221) zr_203_199 (by decide) (z_toif h) (fun h => ?_) (fun h => ?_)
    · refine zq_iinc (pc := 221) (ls2 := [some (.inr (.inr 141)), o1, o2, o3, some (.inl l4), some (.inr (.inl l5)), none, some (.inl (z_add l7 1)), some (.inl (z_add (z_add (V 141 26) 2) (z_mul 8 l7)))]) zr_203_221 rfl rfl rfl ?_
      refine ze_goto (pc := 224) (t := 163) zr_203_224 (by decide) ?_
      exact h
    · refine ze_aload_n (pc := 202) zr_203_202 rfl ?_
      refine ze_getfield (pc := 203) (v := .inr (.inr 143)) zr_203_203 rfl rfl ?_
      refine ze_iload (pc := 206) zr_203_206 rfl ?_
      refine z_gk h (fun g208 h => ?_)
      refine zl_iaload (pc := 208) zr_203_208 rfl rfl g208 h (fun x208 h => ?_)
      refine ze_iconst (pc := 209) zr_203_209 (by decide) ?_
      refine zq_icmp_ne (pc := 210) (t := 215) zr_203_210 (by decide) (z_toif h) (fun h => ?_) (fun h => ?_)
      · refine ze_iconst (pc := 213) zr_203_213 (by decide) ?_
        exact zq_ret4 (pc := 214) zr_203_214 rfl (by decide) h
      · refine ze_aload_n (pc := 215) zr_203_215 rfl ?_
        refine ze_getfield (pc := 216) (v := .inr (.inl (V16401 141 31))) zr_203_216 rfl rfl ?_
        refine zq_lstore (pc := 219) (ls2 := [some (.inr (.inr 141)), o1, o2, o3, some (.inl l4), some (.inr (.inl (V16401 141 31))), none, some (.inl l7), some (.inl (z_add (z_add (V 141 26) 2) (z_mul 8 l7)))]) zr_203_219 rfl rfl ?_
        refine zq_iinc (pc := 221) (ls2 := [some (.inr (.inr 141)), o1, o2, o3, some (.inl l4), some (.inr (.inl (V16401 141 31))), none, some (.inl (z_add l7 1)), some (.inl (z_add (z_add (V 141 26) 2) (z_mul 8 l7)))]) zr_203_221 rfl rfl rfl ?_
        refine ze_goto (pc := 224) (t := 163) zr_203_224 (by decide) ?_
        exact h
  · refine ze_lload (pc := 227) zr_203_227 rfl ?_
    refine ze_iload (pc := 229) zr_203_229 rfl ?_
    refine ze_i2l (pc := 231) zr_203_231 ?_
    refine ze_lcmp (pc := 232) zr_203_232 ?_
    have j233 : z_Ex (z_MS d) 203 Q true 241 [some (.inr (.inr 141)), o1, o2, o3, some (.inl l4), some (.inr (.inl l5)), none, some (.inl l7), o8] [.inl (if (z_lcmp l5 l4) < 0 then 0 else 1)] 0 0 V := by
      exact zq_ret4 (pc := 241) zr_203_241 rfl (by (repeat' split) <;> decide) h
    refine ze_if_lt (pc := 233) (t := 240) zr_203_233 (by decide) (fun hc => ?_) (fun hc => ?_)
    · rw [if_pos (show (z_lcmp l5 l4) < 0 from hc)] at j233
      refine ze_iconst (pc := 240) zr_203_240 (by decide) ?_
      exact j233
    · rw [if_neg (show ¬ ((z_lcmp l5 l4) < 0) from hc)] at j233
      refine ze_iconst (pc := 236) zr_203_236 (by decide) ?_
      refine ze_goto (pc := 237) (t := 241) zr_203_237 (by decide) ?_
      exact j233
theorem zb204_141 {d : Nat} {Q : Int → z_M → Prop} (a0 : Int) (a1 : Int) {V : z_M}
    (h : ∀ W1, W1 = z_up V 141 0 0 → z_MS d 155 true [.inr (.inr 141), .inl a0] W1 (fun z1 V1 => zI (z1 = 0) (Q (-1) V1) (z_MS d 156 true [.inr (.inr 141), .inl a1] V1 (fun z2 V2 => zI (z2 = 0) (Q (-1) V2) (z_MS d 201 true [.inr (.inr 141)] V2 (fun z3 V3 => zGu (0 ≤ a1 ∧ a1 < 6) (∀ x32 : Int, x32 = V3 157 a1.toNat → Q (z_and (z_shr x32 a0) 1) V3))))))) :
    z_MS (d + 1) 204 true [.inr (.inr 141), .inl a0, .inl a1] V Q := by
  show z_Ex (z_MS d) 204 Q true 0 [some (.inr (.inr 141)), some (.inl a0), some (.inl a1)] [] 0 0 V
  refine ze_aload_n (pc := 0) zr_204_0 rfl ?_
  refine ze_iconst (pc := 1) zr_204_1 (by decide) ?_
  refine zq_putI (pc := 2) zr_204_2 (by decide) rfl h (fun W1 h => ?_)
  refine ze_aload_n (pc := 5) zr_204_5 rfl ?_
  refine ze_iload_n (pc := 6) zr_204_6 rfl ?_
  refine zq_callV1 (pc := 7) (as := [.inr (.inr 141), .inl a0]) (r := []) (kc2 := 0) (ks2 := 0) zr_204_7 rfl (by decide) rfl rfl rfl rfl ⟨rfl, rfl⟩ ⟨rfl, rfl, rfl⟩ h (fun z1 V1 h => ?_)
  refine zq_if_eq (pc := 10) (t := 21) zr_204_10 (by decide) (z_toif h) (fun h => ?_) (fun h => ?_)
  · refine ze_iconst (pc := 21) zr_204_21 (by decide) ?_
    exact zq_ret1 (pc := 22) zr_204_22 rfl h
  · refine ze_aload_n (pc := 13) zr_204_13 rfl ?_
    refine ze_iload_n (pc := 14) zr_204_14 rfl ?_
    refine zq_callV1 (pc := 15) (as := [.inr (.inr 141), .inl a1]) (r := []) (kc2 := 0) (ks2 := 0) zr_204_15 rfl (by decide) rfl rfl rfl rfl ⟨rfl, rfl⟩ ⟨rfl, rfl, rfl⟩ h (fun z2 V2 h => ?_)
    refine zq_if_ne (pc := 18) (t := 23) zr_204_18 (by decide) (z_toif h) (fun h => ?_) (fun h => ?_)
    · refine ze_iconst (pc := 21) zr_204_21 (by decide) ?_
      exact zq_ret1 (pc := 22) zr_204_22 rfl h
    · refine ze_aload_n (pc := 23) zr_204_23 rfl ?_
      refine zq_callV0 (pc := 24) (as := [.inr (.inr 141)]) (r := []) (kc2 := 0) (ks2 := 0) zr_204_24 rfl (by decide) rfl rfl rfl rfl ⟨rfl, rfl⟩ rfl h (fun z3 V3 h => ?_)
      refine ze_aload_n (pc := 27) zr_204_27 rfl ?_
      refine ze_getfield (pc := 28) (v := .inr (.inr 157)) zr_204_28 rfl rfl ?_
      refine ze_iload_n (pc := 31) zr_204_31 rfl ?_
      refine z_gk h (fun g32 h => ?_)
      refine zl_iaload (pc := 32) zr_204_32 rfl rfl g32 h (fun x32 h => ?_)
      refine ze_iload_n (pc := 33) zr_204_33 rfl ?_
      refine ze_ishr (pc := 34) zr_204_34 ?_
      refine ze_iconst (pc := 35) zr_204_35 (by decide) ?_
      refine ze_iand (pc := 36) zr_204_36 ?_
      exact zq_ret1 (pc := 37) zr_204_37 rfl h
theorem zb205_141 {d : Nat} {Q : Int → z_M → Prop} (a0 : Int) {V : z_M}
    (h : zI (a0 = 0) (Q 0 V) (zGu (0 ≤ (z_sub a0 1) ∧ (z_sub a0 1) < 12) (∀ x15 : Int, x15 = V 156 (z_sub a0 1).toNat → Q x15 V))) :
    z_MS (d + 1) 205 true [.inr (.inr 141), .inl a0] V Q := by
  show z_Ex (z_MS d) 205 Q true 0 [some (.inr (.inr 141)), some (.inl a0)] [] 0 0 V
  refine ze_iload_n (pc := 0) zr_205_0 rfl ?_
  refine zq_if_ne (pc := 1) (t := 8) zr_205_1 (by decide) (z_toif h) (fun h => ?_) (fun h => ?_)
  · refine ze_iconst (pc := 4) zr_205_4 (by decide) ?_
    refine ze_goto (pc := 5) (t := 16) zr_205_5 (by decide) ?_
    exact zq_ret1 (pc := 16) zr_205_16 rfl h
  · refine ze_aload_n (pc := 8) zr_205_8 rfl ?_
    refine ze_getfield (pc := 9) (v := .inr (.inr 156)) zr_205_9 rfl rfl ?_
    refine ze_iload_n (pc := 12) zr_205_12 rfl ?_
    refine ze_iconst (pc := 13) zr_205_13 (by decide) ?_
    refine ze_isub (pc := 14) zr_205_14 ?_
    refine z_gk h (fun g15 h => ?_)
    refine zl_iaload (pc := 15) zr_205_15 rfl rfl g15 h (fun x15 h => ?_)
    exact zq_ret1 (pc := 16) zr_205_16 rfl h
theorem zb206_141 {d : Nat} {Q : Int → z_M → Prop} (a0 : Int) (a1 : Int) (a2 : Int) {V : z_M}
    (h : z_MS d 205 true [.inr (.inr 141), .inl a2] V (fun z1 V1 => z_MS d 205 true [.inr (.inr 141), .inl a1] V1 (fun z2 V2 => zI (0 < (z_sub z1 z2)) (z_MS d 158 true [.inr (.inr 141), .inl a0] V2 (fun z4 V4 => Q (if z4 < (z_sub z1 z2) then 0 else 1) V4)) (z_MS d 158 true [.inr (.inr 141), .inl a0] V2 (fun z3 V3 => Q (if (z_add z3 (V3 143 7)) < (z_neg (z_sub z1 z2)) then 0 else 1) V3))))) :
    z_MS (d + 1) 206 true [.inr (.inr 141), .inl a0, .inl a1, .inl a2] V Q := by
  show z_Ex (z_MS d) 206 Q true 0 [some (.inr (.inr 141)), some (.inl a0), some (.inl a1), some (.inl a2), none] [] 0 0 V
  refine ze_aload_n (pc := 0) zr_206_0 rfl ?_
  refine ze_iload_n (pc := 1) zr_206_1 rfl ?_
  refine zq_callV1 (pc := 2) (as := [.inr (.inr 141), .inl a2]) (r := []) (kc2 := 0) (ks2 := 0) zr_206_2 rfl (by decide) rfl rfl rfl rfl ⟨rfl, rfl⟩ ⟨rfl, rfl, rfl⟩ h (fun z1 V1 h => ?_)
  refine ze_aload_n (pc := 5) zr_206_5 rfl ?_
  refine ze_iload_n (pc := 6) zr_206_6 rfl ?_
  refine zq_callV1 (pc := 7) (as := [.inr (.inr 141), .inl a1]) (r := [.inl z1]) (kc2 := 0) (ks2 := 0) zr_206_7 rfl (by decide) rfl rfl rfl rfl ⟨rfl, rfl⟩ ⟨rfl, rfl, rfl⟩ h (fun z2 V2 h => ?_)
  refine ze_isub (pc := 10) zr_206_10 ?_
  refine zq_istore (pc := 11) (ls2 := [some (.inr (.inr 141)), some (.inl a0), some (.inl a1), some (.inl a2), some (.inl (z_sub z1 z2))]) zr_206_11 rfl rfl ?_
  refine ze_iload (pc := 13) zr_206_13 rfl ?_
  refine zq_if_le (pc := 15) (t := 36) zr_206_15 (by decide) (z_toif h) (fun h => ?_) (fun h => ?_)
  · refine ze_iload (pc := 18) zr_206_18 rfl ?_
    refine ze_aload_n (pc := 20) zr_206_20 rfl ?_
    refine ze_iload_n (pc := 21) zr_206_21 rfl ?_
    refine zq_callV1 (pc := 22) (as := [.inr (.inr 141), .inl a0]) (r := [.inl (z_sub z1 z2)]) (kc2 := 0) (ks2 := 0) zr_206_22 rfl (by decide) rfl rfl rfl rfl ⟨rfl, rfl⟩ ⟨rfl, rfl, rfl⟩ h (fun z4 V4 h => ?_)
    have j25 : z_Ex (z_MS d) 206 Q true 60 [some (.inr (.inr 141)), some (.inl a0), some (.inl a1), some (.inl a2), some (.inl (z_sub z1 z2))] [.inl (if z4 < (z_sub z1 z2) then 0 else 1)] 0 0 V4 := by
      exact zq_ret4 (pc := 60) zr_206_60 rfl (by (repeat' split) <;> decide) h
    refine ze_icmp_gt (pc := 25) (t := 32) zr_206_25 (by decide) (fun hc => ?_) (fun hc => ?_)
    · rw [if_pos (show z4 < (z_sub z1 z2) from hc)] at j25
      refine ze_iconst (pc := 32) zr_206_32 (by decide) ?_
      refine ze_goto (pc := 33) (t := 60) zr_206_33 (by decide) ?_
      exact j25
    · rw [if_neg (show ¬ (z4 < (z_sub z1 z2)) from hc)] at j25
      refine ze_iconst (pc := 28) zr_206_28 (by decide) ?_
      refine ze_goto (pc := 29) (t := 60) zr_206_29 (by decide) ?_
      exact j25
  · refine ze_iload (pc := 36) zr_206_36 rfl ?_
    refine ze_ineg (pc := 38) zr_206_38 ?_
    refine ze_aload_n (pc := 39) zr_206_39 rfl ?_
    refine ze_iload_n (pc := 40) zr_206_40 rfl ?_
    refine zq_callV1 (pc := 41) (as := [.inr (.inr 141), .inl a0]) (r := [.inl (z_neg (z_sub z1 z2))]) (kc2 := 0) (ks2 := 0) zr_206_41 rfl (by decide) rfl rfl rfl rfl ⟨rfl, rfl⟩ ⟨rfl, rfl, rfl⟩ h (fun z3 V3 h => ?_)
    refine ze_aload_n (pc := 44) zr_206_44 rfl ?_
    refine ze_getfield (pc := 45) (v := .inr (.inr 143)) zr_206_45 rfl rfl ?_
    refine ze_bipush (pc := 48) zr_206_48 (by decide) ?_
    refine zq_iaload (pc := 50) (v := .inl (V3 143 7)) zr_206_50 rfl rfl (by decide) rfl ?_
    refine ze_iadd (pc := 51) zr_206_51 ?_
    have j52 : z_Ex (z_MS d) 206 Q true 60 [some (.inr (.inr 141)), some (.inl a0), some (.inl a1), some (.inl a2), some (.inl (z_sub z1 z2))] [.inl (if (z_add z3 (V3 143 7)) < (z_neg (z_sub z1 z2)) then 0 else 1)] 0 0 V3 := by
      exact zq_ret4 (pc := 60) zr_206_60 rfl (by (repeat' split) <;> decide) h
    refine ze_icmp_gt (pc := 52) (t := 59) zr_206_52 (by decide) (fun hc => ?_) (fun hc => ?_)
    · rw [if_pos (show (z_add z3 (V3 143 7)) < (z_neg (z_sub z1 z2)) from hc)] at j52
      refine ze_iconst (pc := 59) zr_206_59 (by decide) ?_
      exact j52
    · rw [if_neg (show ¬ ((z_add z3 (V3 143 7)) < (z_neg (z_sub z1 z2))) from hc)] at j52
      refine ze_iconst (pc := 55) zr_206_55 (by decide) ?_
      refine ze_goto (pc := 56) (t := 60) zr_206_56 (by decide) ?_
      exact j52
