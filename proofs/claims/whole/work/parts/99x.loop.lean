/-! the law's loop: printed by gen99x.py -/
def zLo (V : z_M) (L : Nat) : Prop := zR V ∧ V 0 1 = (L : Int) ∧ (∀ k, -2147483648 ≤ V 1 k ∧ V 1 k < 2147483648) ∧ 36 ≤ V 0 0
abbrev zHd (Q : Int → z_M → Prop) (V : z_M) (ix kc ks : Nat) : Prop := z_Ex (z_MS 1800) 0 Q true 18 [some (.inr (.inr 1)), some (.inr (.inr 36)), some (.inr (.inr 141)), some (.inl (ix : Int))] [] kc ks V
theorem z_len1 {V : z_M} : z_len' V 1 = V 0 1 := by unfold z_len'; rw [show z_LN 1 = 0 by decide]; rfl
section
variable {Q : Int → z_M → Prop} {V : z_M} {ix L kc ks : Nat}
theorem zl_arg {p k : Nat} {kz : Int} {st : List z_V} {k0 x0 y0 k1 x1 y1 k2 x2 y2 k3 x3 y3 k4 x4 y4 : Nat} {s0 s1 s2 s3 s4 : List Nat} (c0 : z_co 0 p = (.aload_n 0, k0, x0, y0, s0)) (c1 : z_co 0 (p + 1) = (.iload_n 3, k1, x1, y1, s1)) (c2 : z_co 0 (p + 2) = (.iconst kz, k2, x2, y2, s2)) (c3 : z_co 0 (p + 3) = (.iadd, k3, x3, y3, s3)) (c4 : z_co 0 (p + 4) = (.iaload, k4, x4, y4, s4)) (hk : kz = (k : Int)) (hV : V 0 1 = (L : Int)) (hL : L ≤ 3072) (hi : ix + k < L)
    (h : z_Ex (z_MS 1800) 0 Q true (p + 5) [some (.inr (.inr 1)), some (.inr (.inr 36)), some (.inr (.inr 141)), some (.inl (ix : Int))] (.inl (V 1 (ix + k)) :: st) kc ks V) : z_Ex (z_MS 1800) 0 Q true p [some (.inr (.inr 1)), some (.inr (.inr 36)), some (.inr (.inr 141)), some (.inl (ix : Int))] st kc ks V := by
  refine ze_aload_n c0 rfl (ze_iload_n c1 rfl (ze_iconst c2 (by omega) (ze_iadd c3 ?_)))
  rw [hk, z_add_e (by omega)]
  refine ze_iaload c4 (by decide) (by rw [z_len1, hV]; omega) ?_ h
  rw [show ((ix : Int) + (k : Int)).toNat = ix + k by omega]
theorem zw_call {k : _} {kk x y a pc c1 c2 : Nat} {ps : List Nat} {as t st r : List z_V} {ls : z_L} {G : Int → z_M → Prop} (hco : z_co 0 pc = (.invokevirtual k, kk, x, y, ps)) (e1 : Nat.beq x 1002 = false) (hh : as = .inr (.inr a) :: t) (hq : z_kd a = z_rc x ∧ 0 < z_rc x) (hl : z_na x ≤ st.length) (ha : (st.take (z_na x)).reverse = as) (hd : st.drop (z_na x) = r) (hs : z_sum r ≤ 8) (hj : 0 < x ∧ x < 259) (hr : z_rcv x = 1) (hm : (z_ea as).length ≤ z_ml x) (hal : z_al x = (c1, c2)) (hrk : z_rk x = 1) (hb : kc + c1 ≤ 600000 ∧ ks + c2 ≤ 7302250)
    (h : z_MS 1800 x true as V G) (c : ∀ z V2, G z V2 → z_Ex (z_MS 1800) 0 Q true (pc + 3) ls (.inl z :: r) (kc + c1) (ks + c2) V2) : z_Ex (z_MS 1800) 0 Q true pc ls st kc ks V := by
  refine ze_callV hco e1 hh hq hl ha hd hs hj hr hm (by rw [hal, show z_al 0 = (600000, 7302250) by decide]; exact hb) (z_MS.mono _ _ _ _ _ _ _ (fun z V2 g => ?_) h)
  rw [hal, hrk]
  exact c z V2 g
theorem zw_next (hix : ix ≤ 3078) (h : zHd Q V (ix + 6) kc ks) : z_Ex (z_MS 1800) 0 Q true 1244 [some (.inr (.inr 1)), some (.inr (.inr 36)), some (.inr (.inr 141)), some (.inl (ix : Int))] [] kc ks V := by
  refine zq_iinc (pc := 1244) (ls2 := [some (.inr (.inr 1)), some (.inr (.inr 36)), some (.inr (.inr 141)), some (.inl (z_add (ix : Int) 6))]) zr_0_1244 rfl rfl rfl ?_
  rw [z_add_e (by omega), show (ix : Int) + 6 = ((ix + 6 : Nat) : Int) by omega]
  exact ze_goto (pc := 1247) (t := 18) zr_0_1247 (by decide) h
theorem zw_sw {a lo n : Int} {o : Int} {t : List Int} {f : Int → Prop} {dd : Prop} (e : lo + 1 = n) (h1 : a = lo → f o) (h2 : ¬ a = lo → z_sw a n t f dd) : z_sw a lo (o :: t) f dd := by
  subst e
  unfold z_sw
  split
  · rename_i h; exact h1 h
  · rename_i h; exact h2 h
theorem zw_end (hL : L ≤ 3072) (hix : ix ≤ 3078) (hV : zLo V L) (h : L < ix + 6) : zHd (fun z _ => z = 1) V ix kc ks := by
  refine ze_iload_n (pc := 18) zr_0_18 rfl ?_
  refine ze_aload_n (pc := 19) zr_0_19 rfl ?_
  refine ze_length (pc := 20) (z := (L : Int)) zr_0_20 (by decide) (by rw [z_len1]; exact hV.2.1) ?_
  refine ze_bipush (pc := 21) zr_0_21 (by decide) ?_
  refine ze_isub (pc := 23) zr_0_23 ?_
  rw [z_sub_e (by omega)]
  refine ze_icmp_gt (pc := 24) (t := 1250) zr_0_24 (by decide) (fun _ => ?_) (fun q => absurd (by omega) q)
  refine ze_iconst (pc := 1250) zr_0_1250 (by decide) ?_
  exact zq_ret4 (pc := 1251) zr_0_1251 rfl (Or.inr rfl) rfl
theorem zw_head (hL : L ≤ 3072) (hix : ix + 6 ≤ L) (hV : zLo V L) (h : z_Ex (z_MS 1800) 0 Q true 33 [some (.inr (.inr 1)), some (.inr (.inr 36)), some (.inr (.inr 141)), some (.inl (ix : Int))] [.inl (z_and (V 1 ix) 63)] kc ks V) : zHd Q V ix kc ks := by
  refine ze_iload_n (pc := 18) zr_0_18 rfl ?_
  refine ze_aload_n (pc := 19) zr_0_19 rfl ?_
  refine ze_length (pc := 20) (z := (L : Int)) zr_0_20 (by decide) (by rw [z_len1]; exact hV.2.1) ?_
  refine ze_bipush (pc := 21) zr_0_21 (by decide) ?_
  refine ze_isub (pc := 23) zr_0_23 ?_
  rw [z_sub_e (by omega)]
  refine ze_icmp_gt (pc := 24) (t := 1250) zr_0_24 (by decide) (fun q => absurd q (by omega)) (fun _ => ?_)
  refine ze_aload_n (pc := 27) zr_0_27 rfl ?_
  refine ze_iload_n (pc := 28) zr_0_28 rfl ?_
  refine ze_iaload (pc := 29) zr_0_29 (by decide) (by rw [z_len1, hV.2.1]; omega) rfl ?_
  refine ze_bipush (pc := 30) zr_0_30 (by decide) ?_
  refine ze_iand (pc := 32) zr_0_32 ?_
  rw [Int.toNat_natCast]
  exact h
end

theorem zw_0 {Q : Int → z_M → Prop} {V : z_M} {ix L kc ks : Nat} (hV : zLo V L) (hL : L ≤ 3072) (hix : ix + 6 ≤ L) (hb : kc + 0 ≤ 600000 ∧ ks + 0 ≤ 7302250) (h : ∀ X, zLo X L → zHd Q X (ix + 6) (kc + 0) (ks + 0)) : z_Ex (z_MS 1800) 0 Q true 200 [some (.inr (.inr 1)), some (.inr (.inr 36)), some (.inr (.inr 141)), some (.inl (ix : Int))] [] kc ks V := by
  have cm := zPs_p hV.2.2.2 (cm_tread (d := 1795) hV.1 (V 1 (ix + 1)) (V 1 (ix + 2)))
  refine ze_aload_n (pc := 200) zr_0_200 rfl ?_
  refine zl_arg (p := 201) (k := 1) (kz := 1) zr_0_201 zr_0_202 zr_0_203 zr_0_204 zr_0_205 rfl hV.2.1 hL (by omega) ?_
  refine zl_arg (p := 206) (k := 2) (kz := 2) zr_0_206 zr_0_207 zr_0_208 zr_0_209 zr_0_210 rfl hV.2.1 hL (by omega) ?_
  refine zw_call (pc := 211) (x := 92) (as := [.inr (.inr 36), .inl (V 1 (ix + 1)), .inl (V 1 (ix + 2))]) (r := []) (c1 := 0) (c2 := 0) zr_0_211 rfl rfl ⟨by decide, by decide⟩ (Nat.le_of_ble_eq_true rfl) rfl rfl (Nat.le_of_ble_eq_true rfl) ⟨by decide, by decide⟩ rfl (Nat.le_of_ble_eq_true rfl) rfl rfl (by omega) cm (fun z W hW => ?_)
  obtain ⟨⟨w1, w2, w3⟩, hm⟩ := hW
  have w0 : W 0 1 = (L : Int) := (w2 1 (by decide) (by decide)).trans hV.2.1
  rw [← w1 1 (by decide) (by decide)] at hm
  refine ze_aload_n (pc := 214) zr_0_214 rfl ?_
  refine zl_arg (p := 215) (k := 1) (kz := 1) zr_0_215 zr_0_216 zr_0_217 zr_0_218 zr_0_219 rfl w0 hL (by omega) ?_
  refine zl_arg (p := 220) (k := 2) (kz := 2) zr_0_220 zr_0_221 zr_0_222 zr_0_223 zr_0_224 rfl w0 hL (by omega) ?_
  refine zw_call (pc := 225) (x := 161) (as := [.inr (.inr 141), .inl (W 1 (ix + 1)), .inl (W 1 (ix + 2))]) (r := [.inl z]) (c1 := 0) (c2 := 0) zr_0_225 rfl rfl ⟨by decide, by decide⟩ (Nat.le_of_ble_eq_true rfl) rfl rfl (Nat.le_of_ble_eq_true rfl) ⟨by decide, by decide⟩ rfl (Nat.le_of_ble_eq_true rfl) rfl rfl (by omega) hm (fun z2 X hW => ?_)
  obtain ⟨⟨e, hR⟩, x1, x2, x3⟩ := hW
  refine ze_icmp_eq (pc := 228) (t := 1244) zr_0_228 (by decide) (fun _ => ?_) (fun q => absurd e.symm q)
  exact zw_next (by omega) (h X ⟨hR, (x2 1 (by decide) (by decide)).trans hV.2.1, by rw [x1 1 (by decide) (by decide)]; exact hV.2.2.1, x3⟩)
theorem zw_1 {Q : Int → z_M → Prop} {V : z_M} {ix L kc ks : Nat} (hV : zLo V L) (hL : L ≤ 3072) (hix : ix + 6 ≤ L) (hb : kc + 0 ≤ 600000 ∧ ks + 0 ≤ 7302250) (h : ∀ X, zLo X L → zHd Q X (ix + 6) (kc + 0) (ks + 0)) : z_Ex (z_MS 1800) 0 Q true 233 [some (.inr (.inr 1)), some (.inr (.inr 36)), some (.inr (.inr 141)), some (.inl (ix : Int))] [] kc ks V := by
  have cm := zPs_p hV.2.2.2 (cm_put (d := 1794) hV.1 (V 1 (ix + 1)) (V 1 (ix + 2)) (V 1 (ix + 3)))
  refine ze_aload_n (pc := 233) zr_0_233 rfl ?_
  refine zl_arg (p := 234) (k := 1) (kz := 1) zr_0_234 zr_0_235 zr_0_236 zr_0_237 zr_0_238 rfl hV.2.1 hL (by omega) ?_
  refine zl_arg (p := 239) (k := 2) (kz := 2) zr_0_239 zr_0_240 zr_0_241 zr_0_242 zr_0_243 rfl hV.2.1 hL (by omega) ?_
  refine zl_arg (p := 244) (k := 3) (kz := 3) zr_0_244 zr_0_245 zr_0_246 zr_0_247 zr_0_248 rfl hV.2.1 hL (by omega) ?_
  refine zw_call (pc := 249) (x := 93) (as := [.inr (.inr 36), .inl (V 1 (ix + 1)), .inl (V 1 (ix + 2)), .inl (V 1 (ix + 3))]) (r := []) (c1 := 0) (c2 := 0) zr_0_249 rfl rfl ⟨by decide, by decide⟩ (Nat.le_of_ble_eq_true rfl) rfl rfl (Nat.le_of_ble_eq_true rfl) ⟨by decide, by decide⟩ rfl (Nat.le_of_ble_eq_true rfl) rfl rfl (by omega) cm (fun z W hW => ?_)
  obtain ⟨⟨w1, w2, w3⟩, hm⟩ := hW
  have w0 : W 0 1 = (L : Int) := (w2 1 (by decide) (by decide)).trans hV.2.1
  rw [← w1 1 (by decide) (by decide)] at hm
  refine ze_aload_n (pc := 252) zr_0_252 rfl ?_
  refine zl_arg (p := 253) (k := 1) (kz := 1) zr_0_253 zr_0_254 zr_0_255 zr_0_256 zr_0_257 rfl w0 hL (by omega) ?_
  refine zl_arg (p := 258) (k := 2) (kz := 2) zr_0_258 zr_0_259 zr_0_260 zr_0_261 zr_0_262 rfl w0 hL (by omega) ?_
  refine zl_arg (p := 263) (k := 3) (kz := 3) zr_0_263 zr_0_264 zr_0_265 zr_0_266 zr_0_267 rfl w0 hL (by omega) ?_
  refine zw_call (pc := 268) (x := 162) (as := [.inr (.inr 141), .inl (W 1 (ix + 1)), .inl (W 1 (ix + 2)), .inl (W 1 (ix + 3))]) (r := [.inl z]) (c1 := 0) (c2 := 0) zr_0_268 rfl rfl ⟨by decide, by decide⟩ (Nat.le_of_ble_eq_true rfl) rfl rfl (Nat.le_of_ble_eq_true rfl) ⟨by decide, by decide⟩ rfl (Nat.le_of_ble_eq_true rfl) rfl rfl (by omega) hm (fun z2 X hW => ?_)
  obtain ⟨⟨e, hR⟩, x1, x2, x3⟩ := hW
  refine ze_icmp_eq (pc := 271) (t := 1244) zr_0_271 (by decide) (fun _ => ?_) (fun q => absurd e.symm q)
  exact zw_next (by omega) (h X ⟨hR, (x2 1 (by decide) (by decide)).trans hV.2.1, by rw [x1 1 (by decide) (by decide)]; exact hV.2.2.1, x3⟩)
theorem zw_2 {Q : Int → z_M → Prop} {V : z_M} {ix L kc ks : Nat} (hV : zLo V L) (hL : L ≤ 3072) (hix : ix + 6 ≤ L) (hb : kc + 0 ≤ 600000 ∧ ks + 0 ≤ 7302250) (h : ∀ X, zLo X L → zHd Q X (ix + 6) (kc + 0) (ks + 0)) : z_Ex (z_MS 1800) 0 Q true 276 [some (.inr (.inr 1)), some (.inr (.inr 36)), some (.inr (.inr 141)), some (.inl (ix : Int))] [] kc ks V := by
  have cm := zPs_p hV.2.2.2 (cm_of (d := 1790) hV.1 (V 1 (ix + 1)) (V 1 (ix + 2)))
  refine ze_aload_n (pc := 276) zr_0_276 rfl ?_
  refine zl_arg (p := 277) (k := 1) (kz := 1) zr_0_277 zr_0_278 zr_0_279 zr_0_280 zr_0_281 rfl hV.2.1 hL (by omega) ?_
  refine zl_arg (p := 282) (k := 2) (kz := 2) zr_0_282 zr_0_283 zr_0_284 zr_0_285 zr_0_286 rfl hV.2.1 hL (by omega) ?_
  refine zw_call (pc := 287) (x := 94) (as := [.inr (.inr 36), .inl (V 1 (ix + 1)), .inl (V 1 (ix + 2))]) (r := []) (c1 := 0) (c2 := 0) zr_0_287 rfl rfl ⟨by decide, by decide⟩ (Nat.le_of_ble_eq_true rfl) rfl rfl (Nat.le_of_ble_eq_true rfl) ⟨by decide, by decide⟩ rfl (Nat.le_of_ble_eq_true rfl) rfl rfl (by omega) cm (fun z W hW => ?_)
  obtain ⟨⟨w1, w2, w3⟩, hm⟩ := hW
  have w0 : W 0 1 = (L : Int) := (w2 1 (by decide) (by decide)).trans hV.2.1
  rw [← w1 1 (by decide) (by decide)] at hm
  refine ze_aload_n (pc := 290) zr_0_290 rfl ?_
  refine zl_arg (p := 291) (k := 1) (kz := 1) zr_0_291 zr_0_292 zr_0_293 zr_0_294 zr_0_295 rfl w0 hL (by omega) ?_
  refine zl_arg (p := 296) (k := 2) (kz := 2) zr_0_296 zr_0_297 zr_0_298 zr_0_299 zr_0_300 rfl w0 hL (by omega) ?_
  refine zw_call (pc := 301) (x := 163) (as := [.inr (.inr 141), .inl (W 1 (ix + 1)), .inl (W 1 (ix + 2))]) (r := [.inl z]) (c1 := 0) (c2 := 0) zr_0_301 rfl rfl ⟨by decide, by decide⟩ (Nat.le_of_ble_eq_true rfl) rfl rfl (Nat.le_of_ble_eq_true rfl) ⟨by decide, by decide⟩ rfl (Nat.le_of_ble_eq_true rfl) rfl rfl (by omega) hm (fun z2 X hW => ?_)
  obtain ⟨⟨e, hR⟩, x1, x2, x3⟩ := hW
  refine ze_icmp_eq (pc := 304) (t := 1244) zr_0_304 (by decide) (fun _ => ?_) (fun q => absurd e.symm q)
  exact zw_next (by omega) (h X ⟨hR, (x2 1 (by decide) (by decide)).trans hV.2.1, by rw [x1 1 (by decide) (by decide)]; exact hV.2.2.1, x3⟩)
theorem zw_3 {Q : Int → z_M → Prop} {V : z_M} {ix L kc ks : Nat} (hV : zLo V L) (hL : L ≤ 3072) (hix : ix + 6 ≤ L) (hb : kc + 0 ≤ 600000 ∧ ks + 0 ≤ 7302250) (h : ∀ X, zLo X L → zHd Q X (ix + 6) (kc + 0) (ks + 0)) : z_Ex (z_MS 1800) 0 Q true 309 [some (.inr (.inr 1)), some (.inr (.inr 36)), some (.inr (.inr 141)), some (.inl (ix : Int))] [] kc ks V := by
  have cm := zPs_p hV.2.2.2 (cm_reader (d := 1795) hV.1 (V 1 (ix + 1)) (V 1 (ix + 2)))
  refine ze_aload_n (pc := 309) zr_0_309 rfl ?_
  refine zl_arg (p := 310) (k := 1) (kz := 1) zr_0_310 zr_0_311 zr_0_312 zr_0_313 zr_0_314 rfl hV.2.1 hL (by omega) ?_
  refine zl_arg (p := 315) (k := 2) (kz := 2) zr_0_315 zr_0_316 zr_0_317 zr_0_318 zr_0_319 rfl hV.2.1 hL (by omega) ?_
  refine zw_call (pc := 320) (x := 95) (as := [.inr (.inr 36), .inl (V 1 (ix + 1)), .inl (V 1 (ix + 2))]) (r := []) (c1 := 0) (c2 := 0) zr_0_320 rfl rfl ⟨by decide, by decide⟩ (Nat.le_of_ble_eq_true rfl) rfl rfl (Nat.le_of_ble_eq_true rfl) ⟨by decide, by decide⟩ rfl (Nat.le_of_ble_eq_true rfl) rfl rfl (by omega) cm (fun z W hW => ?_)
  obtain ⟨⟨w1, w2, w3⟩, hm⟩ := hW
  have w0 : W 0 1 = (L : Int) := (w2 1 (by decide) (by decide)).trans hV.2.1
  rw [← w1 1 (by decide) (by decide)] at hm
  refine ze_aload_n (pc := 323) zr_0_323 rfl ?_
  refine zl_arg (p := 324) (k := 1) (kz := 1) zr_0_324 zr_0_325 zr_0_326 zr_0_327 zr_0_328 rfl w0 hL (by omega) ?_
  refine zl_arg (p := 329) (k := 2) (kz := 2) zr_0_329 zr_0_330 zr_0_331 zr_0_332 zr_0_333 rfl w0 hL (by omega) ?_
  refine zw_call (pc := 334) (x := 165) (as := [.inr (.inr 141), .inl (W 1 (ix + 1)), .inl (W 1 (ix + 2))]) (r := [.inl z]) (c1 := 0) (c2 := 0) zr_0_334 rfl rfl ⟨by decide, by decide⟩ (Nat.le_of_ble_eq_true rfl) rfl rfl (Nat.le_of_ble_eq_true rfl) ⟨by decide, by decide⟩ rfl (Nat.le_of_ble_eq_true rfl) rfl rfl (by omega) hm (fun z2 X hW => ?_)
  obtain ⟨⟨e, hR⟩, x1, x2, x3⟩ := hW
  refine ze_icmp_eq (pc := 337) (t := 1244) zr_0_337 (by decide) (fun _ => ?_) (fun q => absurd e.symm q)
  exact zw_next (by omega) (h X ⟨hR, (x2 1 (by decide) (by decide)).trans hV.2.1, by rw [x1 1 (by decide) (by decide)]; exact hV.2.2.1, x3⟩)
theorem zw_4 {Q : Int → z_M → Prop} {V : z_M} {ix L kc ks : Nat} (hV : zLo V L) (hL : L ≤ 3072) (hix : ix + 6 ≤ L) (hb : kc + 0 ≤ 600000 ∧ ks + 0 ≤ 7302250) (h : ∀ X, zLo X L → zHd Q X (ix + 6) (kc + 0) (ks + 0)) : z_Ex (z_MS 1800) 0 Q true 342 [some (.inr (.inr 1)), some (.inr (.inr 36)), some (.inr (.inr 141)), some (.inl (ix : Int))] [] kc ks V := by
  have cm := zPs_p hV.2.2.2 (cm_turn (d := 1794) hV.1 (V 1 (ix + 1)) (V 1 (ix + 2)) (V 1 (ix + 3)))
  refine ze_aload_n (pc := 342) zr_0_342 rfl ?_
  refine zl_arg (p := 343) (k := 1) (kz := 1) zr_0_343 zr_0_344 zr_0_345 zr_0_346 zr_0_347 rfl hV.2.1 hL (by omega) ?_
  refine zl_arg (p := 348) (k := 2) (kz := 2) zr_0_348 zr_0_349 zr_0_350 zr_0_351 zr_0_352 rfl hV.2.1 hL (by omega) ?_
  refine zl_arg (p := 353) (k := 3) (kz := 3) zr_0_353 zr_0_354 zr_0_355 zr_0_356 zr_0_357 rfl hV.2.1 hL (by omega) ?_
  refine zw_call (pc := 358) (x := 96) (as := [.inr (.inr 36), .inl (V 1 (ix + 1)), .inl (V 1 (ix + 2)), .inl (V 1 (ix + 3))]) (r := []) (c1 := 0) (c2 := 0) zr_0_358 rfl rfl ⟨by decide, by decide⟩ (Nat.le_of_ble_eq_true rfl) rfl rfl (Nat.le_of_ble_eq_true rfl) ⟨by decide, by decide⟩ rfl (Nat.le_of_ble_eq_true rfl) rfl rfl (by omega) cm (fun z W hW => ?_)
  obtain ⟨⟨w1, w2, w3⟩, hm⟩ := hW
  have w0 : W 0 1 = (L : Int) := (w2 1 (by decide) (by decide)).trans hV.2.1
  rw [← w1 1 (by decide) (by decide)] at hm
  refine ze_aload_n (pc := 361) zr_0_361 rfl ?_
  refine zl_arg (p := 362) (k := 1) (kz := 1) zr_0_362 zr_0_363 zr_0_364 zr_0_365 zr_0_366 rfl w0 hL (by omega) ?_
  refine zl_arg (p := 367) (k := 2) (kz := 2) zr_0_367 zr_0_368 zr_0_369 zr_0_370 zr_0_371 rfl w0 hL (by omega) ?_
  refine zl_arg (p := 372) (k := 3) (kz := 3) zr_0_372 zr_0_373 zr_0_374 zr_0_375 zr_0_376 rfl w0 hL (by omega) ?_
  refine zw_call (pc := 377) (x := 166) (as := [.inr (.inr 141), .inl (W 1 (ix + 1)), .inl (W 1 (ix + 2)), .inl (W 1 (ix + 3))]) (r := [.inl z]) (c1 := 0) (c2 := 0) zr_0_377 rfl rfl ⟨by decide, by decide⟩ (Nat.le_of_ble_eq_true rfl) rfl rfl (Nat.le_of_ble_eq_true rfl) ⟨by decide, by decide⟩ rfl (Nat.le_of_ble_eq_true rfl) rfl rfl (by omega) hm (fun z2 X hW => ?_)
  obtain ⟨⟨e, hR⟩, x1, x2, x3⟩ := hW
  refine ze_icmp_eq (pc := 380) (t := 1244) zr_0_380 (by decide) (fun _ => ?_) (fun q => absurd e.symm q)
  exact zw_next (by omega) (h X ⟨hR, (x2 1 (by decide) (by decide)).trans hV.2.1, by rw [x1 1 (by decide) (by decide)]; exact hV.2.2.1, x3⟩)
theorem zw_5 {Q : Int → z_M → Prop} {V : z_M} {ix L kc ks : Nat} (hV : zLo V L) (hL : L ≤ 3072) (hix : ix + 6 ≤ L) (hb : kc + 0 ≤ 600000 ∧ ks + 0 ≤ 7302250) (h : ∀ X, zLo X L → zHd Q X (ix + 6) (kc + 0) (ks + 0)) : z_Ex (z_MS 1800) 0 Q true 385 [some (.inr (.inr 1)), some (.inr (.inr 36)), some (.inr (.inr 141)), some (.inl (ix : Int))] [] kc ks V := by
  have cm := zPs_p hV.2.2.2 (cm_terms (d := 1794) hV.1 (V 1 (ix + 1)) (V 1 (ix + 2)))
  refine ze_aload_n (pc := 385) zr_0_385 rfl ?_
  refine zl_arg (p := 386) (k := 1) (kz := 1) zr_0_386 zr_0_387 zr_0_388 zr_0_389 zr_0_390 rfl hV.2.1 hL (by omega) ?_
  refine zl_arg (p := 391) (k := 2) (kz := 2) zr_0_391 zr_0_392 zr_0_393 zr_0_394 zr_0_395 rfl hV.2.1 hL (by omega) ?_
  refine zw_call (pc := 396) (x := 97) (as := [.inr (.inr 36), .inl (V 1 (ix + 1)), .inl (V 1 (ix + 2))]) (r := []) (c1 := 0) (c2 := 0) zr_0_396 rfl rfl ⟨by decide, by decide⟩ (Nat.le_of_ble_eq_true rfl) rfl rfl (Nat.le_of_ble_eq_true rfl) ⟨by decide, by decide⟩ rfl (Nat.le_of_ble_eq_true rfl) rfl rfl (by omega) cm (fun z W hW => ?_)
  obtain ⟨⟨w1, w2, w3⟩, hm⟩ := hW
  have w0 : W 0 1 = (L : Int) := (w2 1 (by decide) (by decide)).trans hV.2.1
  rw [← w1 1 (by decide) (by decide)] at hm
  refine ze_aload_n (pc := 399) zr_0_399 rfl ?_
  refine zl_arg (p := 400) (k := 1) (kz := 1) zr_0_400 zr_0_401 zr_0_402 zr_0_403 zr_0_404 rfl w0 hL (by omega) ?_
  refine zl_arg (p := 405) (k := 2) (kz := 2) zr_0_405 zr_0_406 zr_0_407 zr_0_408 zr_0_409 rfl w0 hL (by omega) ?_
  refine zw_call (pc := 410) (x := 167) (as := [.inr (.inr 141), .inl (W 1 (ix + 1)), .inl (W 1 (ix + 2))]) (r := [.inl z]) (c1 := 0) (c2 := 0) zr_0_410 rfl rfl ⟨by decide, by decide⟩ (Nat.le_of_ble_eq_true rfl) rfl rfl (Nat.le_of_ble_eq_true rfl) ⟨by decide, by decide⟩ rfl (Nat.le_of_ble_eq_true rfl) rfl rfl (by omega) hm (fun z2 X hW => ?_)
  obtain ⟨⟨e, hR⟩, x1, x2, x3⟩ := hW
  refine ze_icmp_eq (pc := 413) (t := 1244) zr_0_413 (by decide) (fun _ => ?_) (fun q => absurd e.symm q)
  exact zw_next (by omega) (h X ⟨hR, (x2 1 (by decide) (by decide)).trans hV.2.1, by rw [x1 1 (by decide) (by decide)]; exact hV.2.2.1, x3⟩)
theorem zw_6 {Q : Int → z_M → Prop} {V : z_M} {ix L kc ks : Nat} (hV : zLo V L) (hL : L ≤ 3072) (hix : ix + 6 ≤ L) (hb : kc + 0 ≤ 600000 ∧ ks + 0 ≤ 7302250) (h : ∀ X, zLo X L → zHd Q X (ix + 6) (kc + 0) (ks + 0)) : z_Ex (z_MS 1800) 0 Q true 418 [some (.inr (.inr 1)), some (.inr (.inr 36)), some (.inr (.inr 141)), some (.inl (ix : Int))] [] kc ks V := by
  have cm := zPs_p hV.2.2.2 (cm_feed (d := 1798) hV.1 (V 1 (ix + 1)) (V 1 (ix + 2)) (V 1 (ix + 3)) (V 1 (ix + 4)) (V 1 (ix + 5)))
  refine ze_aload_n (pc := 418) zr_0_418 rfl ?_
  refine zl_arg (p := 419) (k := 1) (kz := 1) zr_0_419 zr_0_420 zr_0_421 zr_0_422 zr_0_423 rfl hV.2.1 hL (by omega) ?_
  refine zl_arg (p := 424) (k := 2) (kz := 2) zr_0_424 zr_0_425 zr_0_426 zr_0_427 zr_0_428 rfl hV.2.1 hL (by omega) ?_
  refine zl_arg (p := 429) (k := 3) (kz := 3) zr_0_429 zr_0_430 zr_0_431 zr_0_432 zr_0_433 rfl hV.2.1 hL (by omega) ?_
  refine zl_arg (p := 434) (k := 4) (kz := 4) zr_0_434 zr_0_435 zr_0_436 zr_0_437 zr_0_438 rfl hV.2.1 hL (by omega) ?_
  refine zl_arg (p := 439) (k := 5) (kz := 5) zr_0_439 zr_0_440 zr_0_441 zr_0_442 zr_0_443 rfl hV.2.1 hL (by omega) ?_
  refine zw_call (pc := 444) (x := 98) (as := [.inr (.inr 36), .inl (V 1 (ix + 1)), .inl (V 1 (ix + 2)), .inl (V 1 (ix + 3)), .inl (V 1 (ix + 4)), .inl (V 1 (ix + 5))]) (r := []) (c1 := 0) (c2 := 0) zr_0_444 rfl rfl ⟨by decide, by decide⟩ (Nat.le_of_ble_eq_true rfl) rfl rfl (Nat.le_of_ble_eq_true rfl) ⟨by decide, by decide⟩ rfl (Nat.le_of_ble_eq_true rfl) rfl rfl (by omega) cm (fun z W hW => ?_)
  obtain ⟨⟨w1, w2, w3⟩, hm⟩ := hW
  have w0 : W 0 1 = (L : Int) := (w2 1 (by decide) (by decide)).trans hV.2.1
  rw [← w1 1 (by decide) (by decide)] at hm
  refine ze_aload_n (pc := 447) zr_0_447 rfl ?_
  refine zl_arg (p := 448) (k := 1) (kz := 1) zr_0_448 zr_0_449 zr_0_450 zr_0_451 zr_0_452 rfl w0 hL (by omega) ?_
  refine zl_arg (p := 453) (k := 2) (kz := 2) zr_0_453 zr_0_454 zr_0_455 zr_0_456 zr_0_457 rfl w0 hL (by omega) ?_
  refine zl_arg (p := 458) (k := 3) (kz := 3) zr_0_458 zr_0_459 zr_0_460 zr_0_461 zr_0_462 rfl w0 hL (by omega) ?_
  refine zl_arg (p := 463) (k := 4) (kz := 4) zr_0_463 zr_0_464 zr_0_465 zr_0_466 zr_0_467 rfl w0 hL (by omega) ?_
  refine zl_arg (p := 468) (k := 5) (kz := 5) zr_0_468 zr_0_469 zr_0_470 zr_0_471 zr_0_472 rfl w0 hL (by omega) ?_
  refine zw_call (pc := 473) (x := 171) (as := [.inr (.inr 141), .inl (W 1 (ix + 1)), .inl (W 1 (ix + 2)), .inl (W 1 (ix + 3)), .inl (W 1 (ix + 4)), .inl (W 1 (ix + 5))]) (r := [.inl z]) (c1 := 0) (c2 := 0) zr_0_473 rfl rfl ⟨by decide, by decide⟩ (Nat.le_of_ble_eq_true rfl) rfl rfl (Nat.le_of_ble_eq_true rfl) ⟨by decide, by decide⟩ rfl (Nat.le_of_ble_eq_true rfl) rfl rfl (by omega) hm (fun z2 X hW => ?_)
  obtain ⟨⟨e, hR⟩, x1, x2, x3⟩ := hW
  refine ze_icmp_eq (pc := 476) (t := 1244) zr_0_476 (by decide) (fun _ => ?_) (fun q => absurd e.symm q)
  exact zw_next (by omega) (h X ⟨hR, (x2 1 (by decide) (by decide)).trans hV.2.1, by rw [x1 1 (by decide) (by decide)]; exact hV.2.2.1, x3⟩)
theorem zw_7 {Q : Int → z_M → Prop} {V : z_M} {ix L kc ks : Nat} (hV : zLo V L) (hL : L ≤ 3072) (hix : ix + 6 ≤ L) (hb : kc + 0 ≤ 600000 ∧ ks + 0 ≤ 7302250) (h : ∀ X, zLo X L → zHd Q X (ix + 6) (kc + 0) (ks + 0)) : z_Ex (z_MS 1800) 0 Q true 481 [some (.inr (.inr 1)), some (.inr (.inr 36)), some (.inr (.inr 141)), some (.inl (ix : Int))] [] kc ks V := by
  have cm := zPs_p hV.2.2.2 (cm_end (d := 1798) hV.1 (V 1 (ix + 1)))
  refine ze_aload_n (pc := 481) zr_0_481 rfl ?_
  refine zl_arg (p := 482) (k := 1) (kz := 1) zr_0_482 zr_0_483 zr_0_484 zr_0_485 zr_0_486 rfl hV.2.1 hL (by omega) ?_
  refine zw_call (pc := 487) (x := 99) (as := [.inr (.inr 36), .inl (V 1 (ix + 1))]) (r := []) (c1 := 0) (c2 := 0) zr_0_487 rfl rfl ⟨by decide, by decide⟩ (Nat.le_of_ble_eq_true rfl) rfl rfl (Nat.le_of_ble_eq_true rfl) ⟨by decide, by decide⟩ rfl (Nat.le_of_ble_eq_true rfl) rfl rfl (by omega) cm (fun z W hW => ?_)
  obtain ⟨⟨w1, w2, w3⟩, hm⟩ := hW
  have w0 : W 0 1 = (L : Int) := (w2 1 (by decide) (by decide)).trans hV.2.1
  rw [← w1 1 (by decide) (by decide)] at hm
  refine ze_aload_n (pc := 490) zr_0_490 rfl ?_
  refine zl_arg (p := 491) (k := 1) (kz := 1) zr_0_491 zr_0_492 zr_0_493 zr_0_494 zr_0_495 rfl w0 hL (by omega) ?_
  refine zw_call (pc := 496) (x := 172) (as := [.inr (.inr 141), .inl (W 1 (ix + 1))]) (r := [.inl z]) (c1 := 0) (c2 := 0) zr_0_496 rfl rfl ⟨by decide, by decide⟩ (Nat.le_of_ble_eq_true rfl) rfl rfl (Nat.le_of_ble_eq_true rfl) ⟨by decide, by decide⟩ rfl (Nat.le_of_ble_eq_true rfl) rfl rfl (by omega) hm (fun z2 X hW => ?_)
  obtain ⟨⟨e, hR⟩, x1, x2, x3⟩ := hW
  refine ze_icmp_eq (pc := 499) (t := 1244) zr_0_499 (by decide) (fun _ => ?_) (fun q => absurd e.symm q)
  exact zw_next (by omega) (h X ⟨hR, (x2 1 (by decide) (by decide)).trans hV.2.1, by rw [x1 1 (by decide) (by decide)]; exact hV.2.2.1, x3⟩)
theorem zw_8 {Q : Int → z_M → Prop} {V : z_M} {ix L kc ks : Nat} (hV : zLo V L) (hL : L ≤ 3072) (hix : ix + 6 ≤ L) (hb : kc + 0 ≤ 600000 ∧ ks + 0 ≤ 7302250) (h : ∀ X, zLo X L → zHd Q X (ix + 6) (kc + 0) (ks + 0)) : z_Ex (z_MS 1800) 0 Q true 504 [some (.inr (.inr 1)), some (.inr (.inr 36)), some (.inr (.inr 141)), some (.inl (ix : Int))] [] kc ks V := by
  have cm := zPs_p hV.2.2.2 (cm_row (d := 1794) hV.1)
  refine ze_aload_n (pc := 504) zr_0_504 rfl ?_
  refine zw_call (pc := 505) (x := 100) (as := [.inr (.inr 36)]) (r := []) (c1 := 0) (c2 := 0) zr_0_505 rfl rfl ⟨by decide, by decide⟩ (Nat.le_of_ble_eq_true rfl) rfl rfl (Nat.le_of_ble_eq_true rfl) ⟨by decide, by decide⟩ rfl (Nat.le_of_ble_eq_true rfl) rfl rfl (by omega) cm (fun z W hW => ?_)
  obtain ⟨⟨w1, w2, w3⟩, hm⟩ := hW
  have w0 : W 0 1 = (L : Int) := (w2 1 (by decide) (by decide)).trans hV.2.1
  refine ze_aload_n (pc := 508) zr_0_508 rfl ?_
  refine zw_call (pc := 509) (x := 168) (as := [.inr (.inr 141)]) (r := [.inl z]) (c1 := 0) (c2 := 0) zr_0_509 rfl rfl ⟨by decide, by decide⟩ (Nat.le_of_ble_eq_true rfl) rfl rfl (Nat.le_of_ble_eq_true rfl) ⟨by decide, by decide⟩ rfl (Nat.le_of_ble_eq_true rfl) rfl rfl (by omega) hm (fun z2 X hW => ?_)
  obtain ⟨⟨e, hR⟩, x1, x2, x3⟩ := hW
  refine ze_icmp_eq (pc := 512) (t := 1244) zr_0_512 (by decide) (fun _ => ?_) (fun q => absurd e.symm q)
  exact zw_next (by omega) (h X ⟨hR, (x2 1 (by decide) (by decide)).trans hV.2.1, by rw [x1 1 (by decide) (by decide)]; exact hV.2.2.1, x3⟩)
theorem zw_9 {Q : Int → z_M → Prop} {V : z_M} {ix L kc ks : Nat} (hV : zLo V L) (hL : L ≤ 3072) (hix : ix + 6 ≤ L) (hb : kc + 0 ≤ 600000 ∧ ks + 0 ≤ 7302250) (h : ∀ X, zLo X L → zHd Q X (ix + 6) (kc + 0) (ks + 0)) : z_Ex (z_MS 1800) 0 Q true 517 [some (.inr (.inr 1)), some (.inr (.inr 36)), some (.inr (.inr 141)), some (.inl (ix : Int))] [] kc ks V := by
  have cm := zPs_p hV.2.2.2 (cm_torn (d := 1798) hV.1)
  refine ze_aload_n (pc := 517) zr_0_517 rfl ?_
  refine zw_call (pc := 518) (x := 101) (as := [.inr (.inr 36)]) (r := []) (c1 := 0) (c2 := 0) zr_0_518 rfl rfl ⟨by decide, by decide⟩ (Nat.le_of_ble_eq_true rfl) rfl rfl (Nat.le_of_ble_eq_true rfl) ⟨by decide, by decide⟩ rfl (Nat.le_of_ble_eq_true rfl) rfl rfl (by omega) cm (fun z W hW => ?_)
  obtain ⟨⟨w1, w2, w3⟩, hm⟩ := hW
  have w0 : W 0 1 = (L : Int) := (w2 1 (by decide) (by decide)).trans hV.2.1
  refine ze_aload_n (pc := 521) zr_0_521 rfl ?_
  refine zw_call (pc := 522) (x := 169) (as := [.inr (.inr 141)]) (r := [.inl z]) (c1 := 0) (c2 := 0) zr_0_522 rfl rfl ⟨by decide, by decide⟩ (Nat.le_of_ble_eq_true rfl) rfl rfl (Nat.le_of_ble_eq_true rfl) ⟨by decide, by decide⟩ rfl (Nat.le_of_ble_eq_true rfl) rfl rfl (by omega) hm (fun z2 X hW => ?_)
  obtain ⟨⟨e, hR⟩, x1, x2, x3⟩ := hW
  refine ze_icmp_eq (pc := 525) (t := 1244) zr_0_525 (by decide) (fun _ => ?_) (fun q => absurd e.symm q)
  exact zw_next (by omega) (h X ⟨hR, (x2 1 (by decide) (by decide)).trans hV.2.1, by rw [x1 1 (by decide) (by decide)]; exact hV.2.2.1, x3⟩)
theorem zw_10 {Q : Int → z_M → Prop} {V : z_M} {ix L kc ks : Nat} (hV : zLo V L) (hL : L ≤ 3072) (hix : ix + 6 ≤ L) (hb : kc + 4 ≤ 600000 ∧ ks + 1203 ≤ 7302250) (h : ∀ X, zLo X L → zHd Q X (ix + 6) (kc + 4) (ks + 1203)) : z_Ex (z_MS 1800) 0 Q true 530 [some (.inr (.inr 1)), some (.inr (.inr 36)), some (.inr (.inr 141)), some (.inl (ix : Int))] [] kc ks V := by
  have cm := zPs_p hV.2.2.2 (cm_law (d := 1300) hV.1)
  refine ze_aload_n (pc := 530) zr_0_530 rfl ?_
  refine zw_call (pc := 531) (x := 102) (as := [.inr (.inr 36)]) (r := []) (c1 := 4) (c2 := 1203) zr_0_531 rfl rfl ⟨by decide, by decide⟩ (Nat.le_of_ble_eq_true rfl) rfl rfl (Nat.le_of_ble_eq_true rfl) ⟨by decide, by decide⟩ rfl (Nat.le_of_ble_eq_true rfl) rfl rfl (by omega) cm (fun z W hW => ?_)
  obtain ⟨⟨w1, w2, w3⟩, hm⟩ := hW
  have w0 : W 0 1 = (L : Int) := (w2 1 (by decide) (by decide)).trans hV.2.1
  refine ze_aload_n (pc := 534) zr_0_534 rfl ?_
  refine zw_call (pc := 535) (x := 196) (as := [.inr (.inr 141)]) (r := [.inl z]) (c1 := 0) (c2 := 0) zr_0_535 rfl rfl ⟨by decide, by decide⟩ (Nat.le_of_ble_eq_true rfl) rfl rfl (Nat.le_of_ble_eq_true rfl) ⟨by decide, by decide⟩ rfl (Nat.le_of_ble_eq_true rfl) rfl rfl (by omega) hm (fun z2 X hW => ?_)
  obtain ⟨⟨e, hR⟩, x1, x2, x3⟩ := hW
  refine ze_icmp_eq (pc := 538) (t := 1244) zr_0_538 (by decide) (fun _ => ?_) (fun q => absurd e.symm q)
  exact zw_next (by omega) (h X ⟨hR, (x2 1 (by decide) (by decide)).trans hV.2.1, by rw [x1 1 (by decide) (by decide)]; exact hV.2.2.1, x3⟩)
theorem zw_11 {Q : Int → z_M → Prop} {V : z_M} {ix L kc ks : Nat} (hV : zLo V L) (hL : L ≤ 3072) (hix : ix + 6 ≤ L) (hb : kc + 0 ≤ 600000 ∧ ks + 0 ≤ 7302250) (h : ∀ X, zLo X L → zHd Q X (ix + 6) (kc + 0) (ks + 0)) : z_Ex (z_MS 1800) 0 Q true 543 [some (.inr (.inr 1)), some (.inr (.inr 36)), some (.inr (.inr 141)), some (.inl (ix : Int))] [] kc ks V := by
  have cm := zPs_p hV.2.2.2 (cm_fault (d := 1798) hV.1)
  refine ze_aload_n (pc := 543) zr_0_543 rfl ?_
  refine zw_call (pc := 544) (x := 103) (as := [.inr (.inr 36)]) (r := []) (c1 := 0) (c2 := 0) zr_0_544 rfl rfl ⟨by decide, by decide⟩ (Nat.le_of_ble_eq_true rfl) rfl rfl (Nat.le_of_ble_eq_true rfl) ⟨by decide, by decide⟩ rfl (Nat.le_of_ble_eq_true rfl) rfl rfl (by omega) cm (fun z W hW => ?_)
  obtain ⟨⟨w1, w2, w3⟩, hm⟩ := hW
  have w0 : W 0 1 = (L : Int) := (w2 1 (by decide) (by decide)).trans hV.2.1
  refine ze_aload_n (pc := 547) zr_0_547 rfl ?_
  refine zw_call (pc := 548) (x := 180) (as := [.inr (.inr 141)]) (r := [.inl z]) (c1 := 0) (c2 := 0) zr_0_548 rfl rfl ⟨by decide, by decide⟩ (Nat.le_of_ble_eq_true rfl) rfl rfl (Nat.le_of_ble_eq_true rfl) ⟨by decide, by decide⟩ rfl (Nat.le_of_ble_eq_true rfl) rfl rfl (by omega) hm (fun z2 X hW => ?_)
  obtain ⟨⟨e, hR⟩, x1, x2, x3⟩ := hW
  refine ze_icmp_eq (pc := 551) (t := 1244) zr_0_551 (by decide) (fun _ => ?_) (fun q => absurd e.symm q)
  exact zw_next (by omega) (h X ⟨hR, (x2 1 (by decide) (by decide)).trans hV.2.1, by rw [x1 1 (by decide) (by decide)]; exact hV.2.2.1, x3⟩)
theorem zw_12 {Q : Int → z_M → Prop} {V : z_M} {ix L kc ks : Nat} (hV : zLo V L) (hL : L ≤ 3072) (hix : ix + 6 ≤ L) (hb : kc + 0 ≤ 600000 ∧ ks + 0 ≤ 7302250) (h : ∀ X, zLo X L → zHd Q X (ix + 6) (kc + 0) (ks + 0)) : z_Ex (z_MS 1800) 0 Q true 556 [some (.inr (.inr 1)), some (.inr (.inr 36)), some (.inr (.inr 141)), some (.inl (ix : Int))] [] kc ks V := by
  have cm := zPs_p hV.2.2.2 (cm_force (d := 1794) hV.1 (V 1 (ix + 1)))
  refine ze_aload_n (pc := 556) zr_0_556 rfl ?_
  refine zl_arg (p := 557) (k := 1) (kz := 1) zr_0_557 zr_0_558 zr_0_559 zr_0_560 zr_0_561 rfl hV.2.1 hL (by omega) ?_
  refine zw_call (pc := 562) (x := 104) (as := [.inr (.inr 36), .inl (V 1 (ix + 1))]) (r := []) (c1 := 0) (c2 := 0) zr_0_562 rfl rfl ⟨by decide, by decide⟩ (Nat.le_of_ble_eq_true rfl) rfl rfl (Nat.le_of_ble_eq_true rfl) ⟨by decide, by decide⟩ rfl (Nat.le_of_ble_eq_true rfl) rfl rfl (by omega) cm (fun z W hW => ?_)
  obtain ⟨⟨w1, w2, w3⟩, hm⟩ := hW
  have w0 : W 0 1 = (L : Int) := (w2 1 (by decide) (by decide)).trans hV.2.1
  rw [← w1 1 (by decide) (by decide)] at hm
  refine ze_aload_n (pc := 565) zr_0_565 rfl ?_
  refine zl_arg (p := 566) (k := 1) (kz := 1) zr_0_566 zr_0_567 zr_0_568 zr_0_569 zr_0_570 rfl w0 hL (by omega) ?_
  refine zw_call (pc := 571) (x := 197) (as := [.inr (.inr 141), .inl (W 1 (ix + 1))]) (r := [.inl z]) (c1 := 0) (c2 := 0) zr_0_571 rfl rfl ⟨by decide, by decide⟩ (Nat.le_of_ble_eq_true rfl) rfl rfl (Nat.le_of_ble_eq_true rfl) ⟨by decide, by decide⟩ rfl (Nat.le_of_ble_eq_true rfl) rfl rfl (by omega) hm (fun z2 X hW => ?_)
  obtain ⟨⟨e, hR⟩, x1, x2, x3⟩ := hW
  refine ze_icmp_eq (pc := 574) (t := 1244) zr_0_574 (by decide) (fun _ => ?_) (fun q => absurd e.symm q)
  exact zw_next (by omega) (h X ⟨hR, (x2 1 (by decide) (by decide)).trans hV.2.1, by rw [x1 1 (by decide) (by decide)]; exact hV.2.2.1, x3⟩)
theorem zw_13 {Q : Int → z_M → Prop} {V : z_M} {ix L kc ks : Nat} (hV : zLo V L) (hL : L ≤ 3072) (hix : ix + 6 ≤ L) (hb : kc + 0 ≤ 600000 ∧ ks + 0 ≤ 7302250) (h : ∀ X, zLo X L → zHd Q X (ix + 6) (kc + 0) (ks + 0)) : z_Ex (z_MS 1800) 0 Q true 579 [some (.inr (.inr 1)), some (.inr (.inr 36)), some (.inr (.inr 141)), some (.inl (ix : Int))] [] kc ks V := by
  have cm := zPs_p hV.2.2.2 (cm_carries (d := 1788) hV.1 (V 1 (ix + 1)) (V 1 (ix + 2)))
  refine ze_aload_n (pc := 579) zr_0_579 rfl ?_
  refine zl_arg (p := 580) (k := 1) (kz := 1) zr_0_580 zr_0_581 zr_0_582 zr_0_583 zr_0_584 rfl hV.2.1 hL (by omega) ?_
  refine zl_arg (p := 585) (k := 2) (kz := 2) zr_0_585 zr_0_586 zr_0_587 zr_0_588 zr_0_589 rfl hV.2.1 hL (by omega) ?_
  refine zw_call (pc := 590) (x := 105) (as := [.inr (.inr 36), .inl (V 1 (ix + 1)), .inl (V 1 (ix + 2))]) (r := []) (c1 := 0) (c2 := 0) zr_0_590 rfl rfl ⟨by decide, by decide⟩ (Nat.le_of_ble_eq_true rfl) rfl rfl (Nat.le_of_ble_eq_true rfl) ⟨by decide, by decide⟩ rfl (Nat.le_of_ble_eq_true rfl) rfl rfl (by omega) cm (fun z W hW => ?_)
  obtain ⟨⟨w1, w2, w3⟩, hm⟩ := hW
  have w0 : W 0 1 = (L : Int) := (w2 1 (by decide) (by decide)).trans hV.2.1
  rw [← w1 1 (by decide) (by decide)] at hm
  refine ze_aload_n (pc := 593) zr_0_593 rfl ?_
  refine zl_arg (p := 594) (k := 1) (kz := 1) zr_0_594 zr_0_595 zr_0_596 zr_0_597 zr_0_598 rfl w0 hL (by omega) ?_
  refine zl_arg (p := 599) (k := 2) (kz := 2) zr_0_599 zr_0_600 zr_0_601 zr_0_602 zr_0_603 rfl w0 hL (by omega) ?_
  refine zw_call (pc := 604) (x := 204) (as := [.inr (.inr 141), .inl (W 1 (ix + 1)), .inl (W 1 (ix + 2))]) (r := [.inl z]) (c1 := 0) (c2 := 0) zr_0_604 rfl rfl ⟨by decide, by decide⟩ (Nat.le_of_ble_eq_true rfl) rfl rfl (Nat.le_of_ble_eq_true rfl) ⟨by decide, by decide⟩ rfl (Nat.le_of_ble_eq_true rfl) rfl rfl (by omega) hm (fun z2 X hW => ?_)
  obtain ⟨⟨e, hR⟩, x1, x2, x3⟩ := hW
  refine ze_icmp_eq (pc := 607) (t := 1244) zr_0_607 (by decide) (fun _ => ?_) (fun q => absurd e.symm q)
  exact zw_next (by omega) (h X ⟨hR, (x2 1 (by decide) (by decide)).trans hV.2.1, by rw [x1 1 (by decide) (by decide)]; exact hV.2.2.1, x3⟩)
theorem zw_14 {Q : Int → z_M → Prop} {V : z_M} {ix L kc ks : Nat} (hV : zLo V L) (hL : L ≤ 3072) (hix : ix + 6 ≤ L) (hb : kc + 0 ≤ 600000 ∧ ks + 0 ≤ 7302250) (h : ∀ X, zLo X L → zHd Q X (ix + 6) (kc + 0) (ks + 0)) : z_Ex (z_MS 1800) 0 Q true 612 [some (.inr (.inr 1)), some (.inr (.inr 36)), some (.inr (.inr 141)), some (.inl (ix : Int))] [] kc ks V := by
  have cm := zPs_p hV.2.2.2 (cm_comes (d := 1788) hV.1 (V 1 (ix + 1)))
  refine ze_aload_n (pc := 612) zr_0_612 rfl ?_
  refine zl_arg (p := 613) (k := 1) (kz := 1) zr_0_613 zr_0_614 zr_0_615 zr_0_616 zr_0_617 rfl hV.2.1 hL (by omega) ?_
  refine zw_call (pc := 618) (x := 106) (as := [.inr (.inr 36), .inl (V 1 (ix + 1))]) (r := []) (c1 := 0) (c2 := 0) zr_0_618 rfl rfl ⟨by decide, by decide⟩ (Nat.le_of_ble_eq_true rfl) rfl rfl (Nat.le_of_ble_eq_true rfl) ⟨by decide, by decide⟩ rfl (Nat.le_of_ble_eq_true rfl) rfl rfl (by omega) cm (fun z W hW => ?_)
  obtain ⟨⟨w1, w2, w3⟩, hm⟩ := hW
  have w0 : W 0 1 = (L : Int) := (w2 1 (by decide) (by decide)).trans hV.2.1
  rw [← w1 1 (by decide) (by decide)] at hm
  refine ze_aload_n (pc := 621) zr_0_621 rfl ?_
  refine zl_arg (p := 622) (k := 1) (kz := 1) zr_0_622 zr_0_623 zr_0_624 zr_0_625 zr_0_626 rfl w0 hL (by omega) ?_
  refine zw_call (pc := 627) (x := 210) (as := [.inr (.inr 141), .inl (W 1 (ix + 1))]) (r := [.inl z]) (c1 := 0) (c2 := 0) zr_0_627 rfl rfl ⟨by decide, by decide⟩ (Nat.le_of_ble_eq_true rfl) rfl rfl (Nat.le_of_ble_eq_true rfl) ⟨by decide, by decide⟩ rfl (Nat.le_of_ble_eq_true rfl) rfl rfl (by omega) hm (fun z2 X hW => ?_)
  obtain ⟨⟨e, hR⟩, x1, x2, x3⟩ := hW
  refine ze_icmp_eq (pc := 630) (t := 1244) zr_0_630 (by decide) (fun _ => ?_) (fun q => absurd e.symm q)
  exact zw_next (by omega) (h X ⟨hR, (x2 1 (by decide) (by decide)).trans hV.2.1, by rw [x1 1 (by decide) (by decide)]; exact hV.2.2.1, x3⟩)
theorem zw_15 {Q : Int → z_M → Prop} {V : z_M} {ix L kc ks : Nat} (hV : zLo V L) (hL : L ≤ 3072) (hix : ix + 6 ≤ L) (hb : kc + 0 ≤ 600000 ∧ ks + 0 ≤ 7302250) (h : ∀ X, zLo X L → zHd Q X (ix + 6) (kc + 0) (ks + 0)) : z_Ex (z_MS 1800) 0 Q true 635 [some (.inr (.inr 1)), some (.inr (.inr 36)), some (.inr (.inr 141)), some (.inl (ix : Int))] [] kc ks V := by
  have cm := zPs_p hV.2.2.2 (cm_way (d := 1786) hV.1 (V 1 (ix + 1)) (V 1 (ix + 2)) (V 1 (ix + 3)) (hV.2.2.1 _))
  refine ze_aload_n (pc := 635) zr_0_635 rfl ?_
  refine zl_arg (p := 636) (k := 1) (kz := 1) zr_0_636 zr_0_637 zr_0_638 zr_0_639 zr_0_640 rfl hV.2.1 hL (by omega) ?_
  refine zl_arg (p := 641) (k := 2) (kz := 2) zr_0_641 zr_0_642 zr_0_643 zr_0_644 zr_0_645 rfl hV.2.1 hL (by omega) ?_
  refine zl_arg (p := 646) (k := 3) (kz := 3) zr_0_646 zr_0_647 zr_0_648 zr_0_649 zr_0_650 rfl hV.2.1 hL (by omega) ?_
  refine zw_call (pc := 651) (x := 107) (as := [.inr (.inr 36), .inl (V 1 (ix + 1)), .inl (V 1 (ix + 2)), .inl (V 1 (ix + 3))]) (r := []) (c1 := 0) (c2 := 0) zr_0_651 rfl rfl ⟨by decide, by decide⟩ (Nat.le_of_ble_eq_true rfl) rfl rfl (Nat.le_of_ble_eq_true rfl) ⟨by decide, by decide⟩ rfl (Nat.le_of_ble_eq_true rfl) rfl rfl (by omega) cm (fun z W hW => ?_)
  obtain ⟨⟨w1, w2, w3⟩, hm⟩ := hW
  have w0 : W 0 1 = (L : Int) := (w2 1 (by decide) (by decide)).trans hV.2.1
  rw [← w1 1 (by decide) (by decide)] at hm
  refine ze_aload_n (pc := 654) zr_0_654 rfl ?_
  refine zl_arg (p := 655) (k := 1) (kz := 1) zr_0_655 zr_0_656 zr_0_657 zr_0_658 zr_0_659 rfl w0 hL (by omega) ?_
  refine zl_arg (p := 660) (k := 2) (kz := 2) zr_0_660 zr_0_661 zr_0_662 zr_0_663 zr_0_664 rfl w0 hL (by omega) ?_
  refine zl_arg (p := 665) (k := 3) (kz := 3) zr_0_665 zr_0_666 zr_0_667 zr_0_668 zr_0_669 rfl w0 hL (by omega) ?_
  refine zw_call (pc := 670) (x := 212) (as := [.inr (.inr 141), .inl (W 1 (ix + 1)), .inl (W 1 (ix + 2)), .inl (W 1 (ix + 3))]) (r := [.inl z]) (c1 := 0) (c2 := 0) zr_0_670 rfl rfl ⟨by decide, by decide⟩ (Nat.le_of_ble_eq_true rfl) rfl rfl (Nat.le_of_ble_eq_true rfl) ⟨by decide, by decide⟩ rfl (Nat.le_of_ble_eq_true rfl) rfl rfl (by omega) hm (fun z2 X hW => ?_)
  obtain ⟨⟨e, hR⟩, x1, x2, x3⟩ := hW
  refine ze_icmp_eq (pc := 673) (t := 1244) zr_0_673 (by decide) (fun _ => ?_) (fun q => absurd e.symm q)
  exact zw_next (by omega) (h X ⟨hR, (x2 1 (by decide) (by decide)).trans hV.2.1, by rw [x1 1 (by decide) (by decide)]; exact hV.2.2.1, x3⟩)
theorem zw_16 {Q : Int → z_M → Prop} {V : z_M} {ix L kc ks : Nat} (hV : zLo V L) (hL : L ≤ 3072) (hix : ix + 6 ≤ L) (hb : kc + 0 ≤ 600000 ∧ ks + 0 ≤ 7302250) (h : ∀ X, zLo X L → zHd Q X (ix + 6) (kc + 0) (ks + 0)) : z_Ex (z_MS 1800) 0 Q true 678 [some (.inr (.inr 1)), some (.inr (.inr 36)), some (.inr (.inr 141)), some (.inl (ix : Int))] [] kc ks V := by
  have cm := zPs_p hV.2.2.2 (cm_108 (d := 1786) hV.1 (V 1 (ix + 1)) (V 1 (ix + 2)))
  refine ze_aload_n (pc := 678) zr_0_678 rfl ?_
  refine zl_arg (p := 679) (k := 1) (kz := 1) zr_0_679 zr_0_680 zr_0_681 zr_0_682 zr_0_683 rfl hV.2.1 hL (by omega) ?_
  refine zl_arg (p := 684) (k := 2) (kz := 2) zr_0_684 zr_0_685 zr_0_686 zr_0_687 zr_0_688 rfl hV.2.1 hL (by omega) ?_
  refine zw_call (pc := 689) (x := 108) (as := [.inr (.inr 36), .inl (V 1 (ix + 1)), .inl (V 1 (ix + 2))]) (r := []) (c1 := 0) (c2 := 0) zr_0_689 rfl rfl ⟨by decide, by decide⟩ (Nat.le_of_ble_eq_true rfl) rfl rfl (Nat.le_of_ble_eq_true rfl) ⟨by decide, by decide⟩ rfl (Nat.le_of_ble_eq_true rfl) rfl rfl (by omega) cm (fun z W hW => ?_)
  obtain ⟨⟨w1, w2, w3⟩, hm⟩ := hW
  have w0 : W 0 1 = (L : Int) := (w2 1 (by decide) (by decide)).trans hV.2.1
  rw [← w1 1 (by decide) (by decide)] at hm
  refine ze_aload_n (pc := 692) zr_0_692 rfl ?_
  refine zl_arg (p := 693) (k := 1) (kz := 1) zr_0_693 zr_0_694 zr_0_695 zr_0_696 zr_0_697 rfl w0 hL (by omega) ?_
  refine zl_arg (p := 698) (k := 2) (kz := 2) zr_0_698 zr_0_699 zr_0_700 zr_0_701 zr_0_702 rfl w0 hL (by omega) ?_
  refine zw_call (pc := 703) (x := 216) (as := [.inr (.inr 141), .inl (W 1 (ix + 1)), .inl (W 1 (ix + 2))]) (r := [.inl z]) (c1 := 0) (c2 := 0) zr_0_703 rfl rfl ⟨by decide, by decide⟩ (Nat.le_of_ble_eq_true rfl) rfl rfl (Nat.le_of_ble_eq_true rfl) ⟨by decide, by decide⟩ rfl (Nat.le_of_ble_eq_true rfl) rfl rfl (by omega) hm (fun z2 X hW => ?_)
  obtain ⟨⟨e, hR⟩, x1, x2, x3⟩ := hW
  refine ze_icmp_eq (pc := 706) (t := 1244) zr_0_706 (by decide) (fun _ => ?_) (fun q => absurd e.symm q)
  exact zw_next (by omega) (h X ⟨hR, (x2 1 (by decide) (by decide)).trans hV.2.1, by rw [x1 1 (by decide) (by decide)]; exact hV.2.2.1, x3⟩)
theorem zw_17 {Q : Int → z_M → Prop} {V : z_M} {ix L kc ks : Nat} (hV : zLo V L) (hL : L ≤ 3072) (hix : ix + 6 ≤ L) (hb : kc + 0 ≤ 600000 ∧ ks + 0 ≤ 7302250) (h : ∀ X, zLo X L → zHd Q X (ix + 6) (kc + 0) (ks + 0)) : z_Ex (z_MS 1800) 0 Q true 711 [some (.inr (.inr 1)), some (.inr (.inr 36)), some (.inr (.inr 141)), some (.inl (ix : Int))] [] kc ks V := by
  have cm := zPs_p hV.2.2.2 (cm_109 (d := 1786) hV.1 (V 1 (ix + 1)) (V 1 (ix + 2)))
  refine ze_aload_n (pc := 711) zr_0_711 rfl ?_
  refine zl_arg (p := 712) (k := 1) (kz := 1) zr_0_712 zr_0_713 zr_0_714 zr_0_715 zr_0_716 rfl hV.2.1 hL (by omega) ?_
  refine zl_arg (p := 717) (k := 2) (kz := 2) zr_0_717 zr_0_718 zr_0_719 zr_0_720 zr_0_721 rfl hV.2.1 hL (by omega) ?_
  refine zw_call (pc := 722) (x := 109) (as := [.inr (.inr 36), .inl (V 1 (ix + 1)), .inl (V 1 (ix + 2))]) (r := []) (c1 := 0) (c2 := 0) zr_0_722 rfl rfl ⟨by decide, by decide⟩ (Nat.le_of_ble_eq_true rfl) rfl rfl (Nat.le_of_ble_eq_true rfl) ⟨by decide, by decide⟩ rfl (Nat.le_of_ble_eq_true rfl) rfl rfl (by omega) cm (fun z W hW => ?_)
  obtain ⟨⟨w1, w2, w3⟩, hm⟩ := hW
  have w0 : W 0 1 = (L : Int) := (w2 1 (by decide) (by decide)).trans hV.2.1
  rw [← w1 1 (by decide) (by decide)] at hm
  refine ze_aload_n (pc := 725) zr_0_725 rfl ?_
  refine zl_arg (p := 726) (k := 1) (kz := 1) zr_0_726 zr_0_727 zr_0_728 zr_0_729 zr_0_730 rfl w0 hL (by omega) ?_
  refine zl_arg (p := 731) (k := 2) (kz := 2) zr_0_731 zr_0_732 zr_0_733 zr_0_734 zr_0_735 rfl w0 hL (by omega) ?_
  refine zw_call (pc := 736) (x := 217) (as := [.inr (.inr 141), .inl (W 1 (ix + 1)), .inl (W 1 (ix + 2))]) (r := [.inl z]) (c1 := 0) (c2 := 0) zr_0_736 rfl rfl ⟨by decide, by decide⟩ (Nat.le_of_ble_eq_true rfl) rfl rfl (Nat.le_of_ble_eq_true rfl) ⟨by decide, by decide⟩ rfl (Nat.le_of_ble_eq_true rfl) rfl rfl (by omega) hm (fun z2 X hW => ?_)
  obtain ⟨⟨e, hR⟩, x1, x2, x3⟩ := hW
  refine ze_icmp_eq (pc := 739) (t := 1244) zr_0_739 (by decide) (fun _ => ?_) (fun q => absurd e.symm q)
  exact zw_next (by omega) (h X ⟨hR, (x2 1 (by decide) (by decide)).trans hV.2.1, by rw [x1 1 (by decide) (by decide)]; exact hV.2.2.1, x3⟩)
theorem zw_18 {Q : Int → z_M → Prop} {V : z_M} {ix L kc ks : Nat} (hV : zLo V L) (hL : L ≤ 3072) (hix : ix + 6 ≤ L) (hb : kc + 0 ≤ 600000 ∧ ks + 0 ≤ 7302250) (h : ∀ X, zLo X L → zHd Q X (ix + 6) (kc + 0) (ks + 0)) : z_Ex (z_MS 1800) 0 Q true 744 [some (.inr (.inr 1)), some (.inr (.inr 36)), some (.inr (.inr 141)), some (.inl (ix : Int))] [] kc ks V := by
  have cm := zPs_p hV.2.2.2 (cm_110 (d := 1786) hV.1 (V 1 (ix + 1)) (V 1 (ix + 2)))
  refine ze_aload_n (pc := 744) zr_0_744 rfl ?_
  refine zl_arg (p := 745) (k := 1) (kz := 1) zr_0_745 zr_0_746 zr_0_747 zr_0_748 zr_0_749 rfl hV.2.1 hL (by omega) ?_
  refine zl_arg (p := 750) (k := 2) (kz := 2) zr_0_750 zr_0_751 zr_0_752 zr_0_753 zr_0_754 rfl hV.2.1 hL (by omega) ?_
  refine zw_call (pc := 755) (x := 110) (as := [.inr (.inr 36), .inl (V 1 (ix + 1)), .inl (V 1 (ix + 2))]) (r := []) (c1 := 0) (c2 := 0) zr_0_755 rfl rfl ⟨by decide, by decide⟩ (Nat.le_of_ble_eq_true rfl) rfl rfl (Nat.le_of_ble_eq_true rfl) ⟨by decide, by decide⟩ rfl (Nat.le_of_ble_eq_true rfl) rfl rfl (by omega) cm (fun z W hW => ?_)
  obtain ⟨⟨w1, w2, w3⟩, hm⟩ := hW
  have w0 : W 0 1 = (L : Int) := (w2 1 (by decide) (by decide)).trans hV.2.1
  rw [← w1 1 (by decide) (by decide)] at hm
  refine ze_aload_n (pc := 758) zr_0_758 rfl ?_
  refine zl_arg (p := 759) (k := 1) (kz := 1) zr_0_759 zr_0_760 zr_0_761 zr_0_762 zr_0_763 rfl w0 hL (by omega) ?_
  refine zl_arg (p := 764) (k := 2) (kz := 2) zr_0_764 zr_0_765 zr_0_766 zr_0_767 zr_0_768 rfl w0 hL (by omega) ?_
  refine zw_call (pc := 769) (x := 218) (as := [.inr (.inr 141), .inl (W 1 (ix + 1)), .inl (W 1 (ix + 2))]) (r := [.inl z]) (c1 := 0) (c2 := 0) zr_0_769 rfl rfl ⟨by decide, by decide⟩ (Nat.le_of_ble_eq_true rfl) rfl rfl (Nat.le_of_ble_eq_true rfl) ⟨by decide, by decide⟩ rfl (Nat.le_of_ble_eq_true rfl) rfl rfl (by omega) hm (fun z2 X hW => ?_)
  obtain ⟨⟨e, hR⟩, x1, x2, x3⟩ := hW
  refine ze_icmp_eq (pc := 772) (t := 1244) zr_0_772 (by decide) (fun _ => ?_) (fun q => absurd e.symm q)
  exact zw_next (by omega) (h X ⟨hR, (x2 1 (by decide) (by decide)).trans hV.2.1, by rw [x1 1 (by decide) (by decide)]; exact hV.2.2.1, x3⟩)
theorem zw_19 {Q : Int → z_M → Prop} {V : z_M} {ix L kc ks : Nat} (hV : zLo V L) (hL : L ≤ 3072) (hix : ix + 6 ≤ L) (hb : kc + 0 ≤ 600000 ∧ ks + 0 ≤ 7302250) (h : ∀ X, zLo X L → zHd Q X (ix + 6) (kc + 0) (ks + 0)) : z_Ex (z_MS 1800) 0 Q true 777 [some (.inr (.inr 1)), some (.inr (.inr 36)), some (.inr (.inr 141)), some (.inl (ix : Int))] [] kc ks V := by
  have cm := zPs_p hV.2.2.2 (cm_ask (d := 1794) hV.1 (V 1 (ix + 1)) (V 1 (ix + 2)))
  refine ze_aload_n (pc := 777) zr_0_777 rfl ?_
  refine zl_arg (p := 778) (k := 1) (kz := 1) zr_0_778 zr_0_779 zr_0_780 zr_0_781 zr_0_782 rfl hV.2.1 hL (by omega) ?_
  refine zl_arg (p := 783) (k := 2) (kz := 2) zr_0_783 zr_0_784 zr_0_785 zr_0_786 zr_0_787 rfl hV.2.1 hL (by omega) ?_
  refine zw_call (pc := 788) (x := 111) (as := [.inr (.inr 36), .inl (V 1 (ix + 1)), .inl (V 1 (ix + 2))]) (r := []) (c1 := 0) (c2 := 0) zr_0_788 rfl rfl ⟨by decide, by decide⟩ (Nat.le_of_ble_eq_true rfl) rfl rfl (Nat.le_of_ble_eq_true rfl) ⟨by decide, by decide⟩ rfl (Nat.le_of_ble_eq_true rfl) rfl rfl (by omega) cm (fun z W hW => ?_)
  obtain ⟨⟨w1, w2, w3⟩, hm⟩ := hW
  have w0 : W 0 1 = (L : Int) := (w2 1 (by decide) (by decide)).trans hV.2.1
  rw [← w1 1 (by decide) (by decide)] at hm
  refine ze_aload_n (pc := 791) zr_0_791 rfl ?_
  refine zl_arg (p := 792) (k := 1) (kz := 1) zr_0_792 zr_0_793 zr_0_794 zr_0_795 zr_0_796 rfl w0 hL (by omega) ?_
  refine zl_arg (p := 797) (k := 2) (kz := 2) zr_0_797 zr_0_798 zr_0_799 zr_0_800 zr_0_801 rfl w0 hL (by omega) ?_
  refine zw_call (pc := 802) (x := 219) (as := [.inr (.inr 141), .inl (W 1 (ix + 1)), .inl (W 1 (ix + 2))]) (r := [.inl z]) (c1 := 0) (c2 := 0) zr_0_802 rfl rfl ⟨by decide, by decide⟩ (Nat.le_of_ble_eq_true rfl) rfl rfl (Nat.le_of_ble_eq_true rfl) ⟨by decide, by decide⟩ rfl (Nat.le_of_ble_eq_true rfl) rfl rfl (by omega) hm (fun z2 X hW => ?_)
  obtain ⟨⟨e, hR⟩, x1, x2, x3⟩ := hW
  refine ze_icmp_eq (pc := 805) (t := 1244) zr_0_805 (by decide) (fun _ => ?_) (fun q => absurd e.symm q)
  exact zw_next (by omega) (h X ⟨hR, (x2 1 (by decide) (by decide)).trans hV.2.1, by rw [x1 1 (by decide) (by decide)]; exact hV.2.2.1, x3⟩)
theorem zw_20 {Q : Int → z_M → Prop} {V : z_M} {ix L kc ks : Nat} (hV : zLo V L) (hL : L ≤ 3072) (hix : ix + 6 ≤ L) (hb : kc + 0 ≤ 600000 ∧ ks + 0 ≤ 7302250) (h : ∀ X, zLo X L → zHd Q X (ix + 6) (kc + 0) (ks + 0)) : z_Ex (z_MS 1800) 0 Q true 810 [some (.inr (.inr 1)), some (.inr (.inr 36)), some (.inr (.inr 141)), some (.inl (ix : Int))] [] kc ks V := by
  have cm := zPs_p hV.2.2.2 (cm_drop (d := 1794) hV.1 (V 1 (ix + 1)))
  refine ze_aload_n (pc := 810) zr_0_810 rfl ?_
  refine zl_arg (p := 811) (k := 1) (kz := 1) zr_0_811 zr_0_812 zr_0_813 zr_0_814 zr_0_815 rfl hV.2.1 hL (by omega) ?_
  refine zw_call (pc := 816) (x := 112) (as := [.inr (.inr 36), .inl (V 1 (ix + 1))]) (r := []) (c1 := 0) (c2 := 0) zr_0_816 rfl rfl ⟨by decide, by decide⟩ (Nat.le_of_ble_eq_true rfl) rfl rfl (Nat.le_of_ble_eq_true rfl) ⟨by decide, by decide⟩ rfl (Nat.le_of_ble_eq_true rfl) rfl rfl (by omega) cm (fun z W hW => ?_)
  obtain ⟨⟨w1, w2, w3⟩, hm⟩ := hW
  have w0 : W 0 1 = (L : Int) := (w2 1 (by decide) (by decide)).trans hV.2.1
  rw [← w1 1 (by decide) (by decide)] at hm
  refine ze_aload_n (pc := 819) zr_0_819 rfl ?_
  refine zl_arg (p := 820) (k := 1) (kz := 1) zr_0_820 zr_0_821 zr_0_822 zr_0_823 zr_0_824 rfl w0 hL (by omega) ?_
  refine zw_call (pc := 825) (x := 220) (as := [.inr (.inr 141), .inl (W 1 (ix + 1))]) (r := [.inl z]) (c1 := 0) (c2 := 0) zr_0_825 rfl rfl ⟨by decide, by decide⟩ (Nat.le_of_ble_eq_true rfl) rfl rfl (Nat.le_of_ble_eq_true rfl) ⟨by decide, by decide⟩ rfl (Nat.le_of_ble_eq_true rfl) rfl rfl (by omega) hm (fun z2 X hW => ?_)
  obtain ⟨⟨e, hR⟩, x1, x2, x3⟩ := hW
  refine ze_icmp_eq (pc := 828) (t := 1244) zr_0_828 (by decide) (fun _ => ?_) (fun q => absurd e.symm q)
  exact zw_next (by omega) (h X ⟨hR, (x2 1 (by decide) (by decide)).trans hV.2.1, by rw [x1 1 (by decide) (by decide)]; exact hV.2.2.1, x3⟩)
theorem zw_21 {Q : Int → z_M → Prop} {V : z_M} {ix L kc ks : Nat} (hV : zLo V L) (hL : L ≤ 3072) (hix : ix + 6 ≤ L) (hb : kc + 0 ≤ 600000 ∧ ks + 0 ≤ 7302250) (h : ∀ X, zLo X L → zHd Q X (ix + 6) (kc + 0) (ks + 0)) : z_Ex (z_MS 1800) 0 Q true 833 [some (.inr (.inr 1)), some (.inr (.inr 36)), some (.inr (.inr 141)), some (.inl (ix : Int))] [] kc ks V := by
  have cm := zPs_p hV.2.2.2 (cm_day (d := 1784) hV.1 (V 1 (ix + 1)))
  refine ze_aload_n (pc := 833) zr_0_833 rfl ?_
  refine zl_arg (p := 834) (k := 1) (kz := 1) zr_0_834 zr_0_835 zr_0_836 zr_0_837 zr_0_838 rfl hV.2.1 hL (by omega) ?_
  refine zw_call (pc := 839) (x := 113) (as := [.inr (.inr 36), .inl (V 1 (ix + 1))]) (r := []) (c1 := 0) (c2 := 0) zr_0_839 rfl rfl ⟨by decide, by decide⟩ (Nat.le_of_ble_eq_true rfl) rfl rfl (Nat.le_of_ble_eq_true rfl) ⟨by decide, by decide⟩ rfl (Nat.le_of_ble_eq_true rfl) rfl rfl (by omega) cm (fun z W hW => ?_)
  obtain ⟨⟨w1, w2, w3⟩, hm⟩ := hW
  have w0 : W 0 1 = (L : Int) := (w2 1 (by decide) (by decide)).trans hV.2.1
  rw [← w1 1 (by decide) (by decide)] at hm
  refine ze_aload_n (pc := 842) zr_0_842 rfl ?_
  refine zl_arg (p := 843) (k := 1) (kz := 1) zr_0_843 zr_0_844 zr_0_845 zr_0_846 zr_0_847 rfl w0 hL (by omega) ?_
  refine zw_call (pc := 848) (x := 227) (as := [.inr (.inr 141), .inl (W 1 (ix + 1))]) (r := [.inl z]) (c1 := 0) (c2 := 0) zr_0_848 rfl rfl ⟨by decide, by decide⟩ (Nat.le_of_ble_eq_true rfl) rfl rfl (Nat.le_of_ble_eq_true rfl) ⟨by decide, by decide⟩ rfl (Nat.le_of_ble_eq_true rfl) rfl rfl (by omega) hm (fun z2 X hW => ?_)
  obtain ⟨⟨e, hR⟩, x1, x2, x3⟩ := hW
  refine ze_icmp_eq (pc := 851) (t := 1244) zr_0_851 (by decide) (fun _ => ?_) (fun q => absurd e.symm q)
  exact zw_next (by omega) (h X ⟨hR, (x2 1 (by decide) (by decide)).trans hV.2.1, by rw [x1 1 (by decide) (by decide)]; exact hV.2.2.1, x3⟩)
theorem zw_22 {Q : Int → z_M → Prop} {V : z_M} {ix L kc ks : Nat} (hV : zLo V L) (hL : L ≤ 3072) (hix : ix + 6 ≤ L) (hb : kc + 0 ≤ 600000 ∧ ks + 0 ≤ 7302250) (h : ∀ X, zLo X L → zHd Q X (ix + 6) (kc + 0) (ks + 0)) : z_Ex (z_MS 1800) 0 Q true 856 [some (.inr (.inr 1)), some (.inr (.inr 36)), some (.inr (.inr 141)), some (.inl (ix : Int))] [] kc ks V := by
  have cm := zPs_p hV.2.2.2 (cm_stands (d := 1784) hV.1 (V 1 (ix + 1)))
  refine ze_aload_n (pc := 856) zr_0_856 rfl ?_
  refine zl_arg (p := 857) (k := 1) (kz := 1) zr_0_857 zr_0_858 zr_0_859 zr_0_860 zr_0_861 rfl hV.2.1 hL (by omega) ?_
  refine zw_call (pc := 862) (x := 114) (as := [.inr (.inr 36), .inl (V 1 (ix + 1))]) (r := []) (c1 := 0) (c2 := 0) zr_0_862 rfl rfl ⟨by decide, by decide⟩ (Nat.le_of_ble_eq_true rfl) rfl rfl (Nat.le_of_ble_eq_true rfl) ⟨by decide, by decide⟩ rfl (Nat.le_of_ble_eq_true rfl) rfl rfl (by omega) cm (fun z W hW => ?_)
  obtain ⟨⟨w1, w2, w3⟩, hm⟩ := hW
  have w0 : W 0 1 = (L : Int) := (w2 1 (by decide) (by decide)).trans hV.2.1
  rw [← w1 1 (by decide) (by decide)] at hm
  refine ze_aload_n (pc := 865) zr_0_865 rfl ?_
  refine zl_arg (p := 866) (k := 1) (kz := 1) zr_0_866 zr_0_867 zr_0_868 zr_0_869 zr_0_870 rfl w0 hL (by omega) ?_
  refine zw_call (pc := 871) (x := 228) (as := [.inr (.inr 141), .inl (W 1 (ix + 1))]) (r := [.inl z]) (c1 := 0) (c2 := 0) zr_0_871 rfl rfl ⟨by decide, by decide⟩ (Nat.le_of_ble_eq_true rfl) rfl rfl (Nat.le_of_ble_eq_true rfl) ⟨by decide, by decide⟩ rfl (Nat.le_of_ble_eq_true rfl) rfl rfl (by omega) hm (fun z2 X hW => ?_)
  obtain ⟨⟨e, hR⟩, x1, x2, x3⟩ := hW
  refine ze_icmp_eq (pc := 874) (t := 1244) zr_0_874 (by decide) (fun _ => ?_) (fun q => absurd e.symm q)
  exact zw_next (by omega) (h X ⟨hR, (x2 1 (by decide) (by decide)).trans hV.2.1, by rw [x1 1 (by decide) (by decide)]; exact hV.2.2.1, x3⟩)
theorem zw_23 {Q : Int → z_M → Prop} {V : z_M} {ix L kc ks : Nat} (hV : zLo V L) (hL : L ≤ 3072) (hix : ix + 6 ≤ L) (hb : kc + 0 ≤ 600000 ∧ ks + 0 ≤ 7302250) (h : ∀ X, zLo X L → zHd Q X (ix + 6) (kc + 0) (ks + 0)) : z_Ex (z_MS 1800) 0 Q true 879 [some (.inr (.inr 1)), some (.inr (.inr 36)), some (.inr (.inr 141)), some (.inl (ix : Int))] [] kc ks V := by
  have cm := zPs_p hV.2.2.2 (cm_best (d := 1781) hV.1 (V 1 (ix + 1)) (hV.2.2.1 _).2)
  refine ze_aload_n (pc := 879) zr_0_879 rfl ?_
  refine zl_arg (p := 880) (k := 1) (kz := 1) zr_0_880 zr_0_881 zr_0_882 zr_0_883 zr_0_884 rfl hV.2.1 hL (by omega) ?_
  refine zw_call (pc := 885) (x := 115) (as := [.inr (.inr 36), .inl (V 1 (ix + 1))]) (r := []) (c1 := 0) (c2 := 0) zr_0_885 rfl rfl ⟨by decide, by decide⟩ (Nat.le_of_ble_eq_true rfl) rfl rfl (Nat.le_of_ble_eq_true rfl) ⟨by decide, by decide⟩ rfl (Nat.le_of_ble_eq_true rfl) rfl rfl (by omega) cm (fun z W hW => ?_)
  obtain ⟨⟨w1, w2, w3⟩, hm⟩ := hW
  have w0 : W 0 1 = (L : Int) := (w2 1 (by decide) (by decide)).trans hV.2.1
  rw [← w1 1 (by decide) (by decide)] at hm
  refine ze_aload_n (pc := 888) zr_0_888 rfl ?_
  refine zl_arg (p := 889) (k := 1) (kz := 1) zr_0_889 zr_0_890 zr_0_891 zr_0_892 zr_0_893 rfl w0 hL (by omega) ?_
  refine zw_call (pc := 894) (x := 233) (as := [.inr (.inr 141), .inl (W 1 (ix + 1))]) (r := [.inl z]) (c1 := 0) (c2 := 0) zr_0_894 rfl rfl ⟨by decide, by decide⟩ (Nat.le_of_ble_eq_true rfl) rfl rfl (Nat.le_of_ble_eq_true rfl) ⟨by decide, by decide⟩ rfl (Nat.le_of_ble_eq_true rfl) rfl rfl (by omega) hm (fun z2 X hW => ?_)
  obtain ⟨⟨e, hR⟩, x1, x2, x3⟩ := hW
  refine ze_icmp_eq (pc := 897) (t := 1244) zr_0_897 (by decide) (fun _ => ?_) (fun q => absurd e.symm q)
  exact zw_next (by omega) (h X ⟨hR, (x2 1 (by decide) (by decide)).trans hV.2.1, by rw [x1 1 (by decide) (by decide)]; exact hV.2.2.1, x3⟩)
theorem zw_24 {Q : Int → z_M → Prop} {V : z_M} {ix L kc ks : Nat} (hV : zLo V L) (hL : L ≤ 3072) (hix : ix + 6 ≤ L) (hb : kc + 0 ≤ 600000 ∧ ks + 0 ≤ 7302250) (h : ∀ X, zLo X L → zHd Q X (ix + 6) (kc + 0) (ks + 0)) : z_Ex (z_MS 1800) 0 Q true 902 [some (.inr (.inr 1)), some (.inr (.inr 36)), some (.inr (.inr 141)), some (.inl (ix : Int))] [] kc ks V := by
  have cm := zPs_p hV.2.2.2 (cm_built (d := 1781) hV.1 (V 1 (ix + 1)) (hV.2.2.1 _).2)
  refine ze_aload_n (pc := 902) zr_0_902 rfl ?_
  refine zl_arg (p := 903) (k := 1) (kz := 1) zr_0_903 zr_0_904 zr_0_905 zr_0_906 zr_0_907 rfl hV.2.1 hL (by omega) ?_
  refine zw_call (pc := 908) (x := 116) (as := [.inr (.inr 36), .inl (V 1 (ix + 1))]) (r := []) (c1 := 0) (c2 := 0) zr_0_908 rfl rfl ⟨by decide, by decide⟩ (Nat.le_of_ble_eq_true rfl) rfl rfl (Nat.le_of_ble_eq_true rfl) ⟨by decide, by decide⟩ rfl (Nat.le_of_ble_eq_true rfl) rfl rfl (by omega) cm (fun z W hW => ?_)
  obtain ⟨⟨w1, w2, w3⟩, hm⟩ := hW
  have w0 : W 0 1 = (L : Int) := (w2 1 (by decide) (by decide)).trans hV.2.1
  rw [← w1 1 (by decide) (by decide)] at hm
  refine ze_aload_n (pc := 911) zr_0_911 rfl ?_
  refine zl_arg (p := 912) (k := 1) (kz := 1) zr_0_912 zr_0_913 zr_0_914 zr_0_915 zr_0_916 rfl w0 hL (by omega) ?_
  refine zw_call (pc := 917) (x := 235) (as := [.inr (.inr 141), .inl (W 1 (ix + 1))]) (r := [.inl z]) (c1 := 0) (c2 := 0) zr_0_917 rfl rfl ⟨by decide, by decide⟩ (Nat.le_of_ble_eq_true rfl) rfl rfl (Nat.le_of_ble_eq_true rfl) ⟨by decide, by decide⟩ rfl (Nat.le_of_ble_eq_true rfl) rfl rfl (by omega) hm (fun z2 X hW => ?_)
  obtain ⟨⟨e, hR⟩, x1, x2, x3⟩ := hW
  refine ze_icmp_eq (pc := 920) (t := 1244) zr_0_920 (by decide) (fun _ => ?_) (fun q => absurd e.symm q)
  exact zw_next (by omega) (h X ⟨hR, (x2 1 (by decide) (by decide)).trans hV.2.1, by rw [x1 1 (by decide) (by decide)]; exact hV.2.2.1, x3⟩)
theorem zw_25 {Q : Int → z_M → Prop} {V : z_M} {ix L kc ks : Nat} (hV : zLo V L) (hL : L ≤ 3072) (hix : ix + 6 ≤ L) (hb : kc + 0 ≤ 600000 ∧ ks + 0 ≤ 7302250) (h : ∀ X, zLo X L → zHd Q X (ix + 6) (kc + 0) (ks + 0)) : z_Ex (z_MS 1800) 0 Q true 925 [some (.inr (.inr 1)), some (.inr (.inr 36)), some (.inr (.inr 141)), some (.inl (ix : Int))] [] kc ks V := by
  have cm := zPs_p hV.2.2.2 (cm_build (d := 1782) hV.1)
  refine ze_aload_n (pc := 925) zr_0_925 rfl ?_
  refine zw_call (pc := 926) (x := 117) (as := [.inr (.inr 36)]) (r := []) (c1 := 0) (c2 := 0) zr_0_926 rfl rfl ⟨by decide, by decide⟩ (Nat.le_of_ble_eq_true rfl) rfl rfl (Nat.le_of_ble_eq_true rfl) ⟨by decide, by decide⟩ rfl (Nat.le_of_ble_eq_true rfl) rfl rfl (by omega) cm (fun z W hW => ?_)
  obtain ⟨⟨w1, w2, w3⟩, hm⟩ := hW
  have w0 : W 0 1 = (L : Int) := (w2 1 (by decide) (by decide)).trans hV.2.1
  refine ze_aload_n (pc := 929) zr_0_929 rfl ?_
  refine zw_call (pc := 930) (x := 236) (as := [.inr (.inr 141)]) (r := [.inl z]) (c1 := 0) (c2 := 0) zr_0_930 rfl rfl ⟨by decide, by decide⟩ (Nat.le_of_ble_eq_true rfl) rfl rfl (Nat.le_of_ble_eq_true rfl) ⟨by decide, by decide⟩ rfl (Nat.le_of_ble_eq_true rfl) rfl rfl (by omega) hm (fun z2 X hW => ?_)
  obtain ⟨⟨e, hR⟩, x1, x2, x3⟩ := hW
  refine ze_icmp_eq (pc := 933) (t := 1244) zr_0_933 (by decide) (fun _ => ?_) (fun q => absurd e.symm q)
  exact zw_next (by omega) (h X ⟨hR, (x2 1 (by decide) (by decide)).trans hV.2.1, by rw [x1 1 (by decide) (by decide)]; exact hV.2.2.1, x3⟩)
theorem zw_26 {Q : Int → z_M → Prop} {V : z_M} {ix L kc ks : Nat} (hV : zLo V L) (hL : L ≤ 3072) (hix : ix + 6 ≤ L) (hb : kc + 0 ≤ 600000 ∧ ks + 0 ≤ 7302250) (h : ∀ X, zLo X L → zHd Q X (ix + 6) (kc + 0) (ks + 0)) : z_Ex (z_MS 1800) 0 Q true 938 [some (.inr (.inr 1)), some (.inr (.inr 36)), some (.inr (.inr 141)), some (.inl (ix : Int))] [] kc ks V := by
  have cm := zPs_p hV.2.2.2 (cm_swap (d := 1794) hV.1 (V 1 (ix + 1)) (V 1 (ix + 2)))
  refine ze_aload_n (pc := 938) zr_0_938 rfl ?_
  refine zl_arg (p := 939) (k := 1) (kz := 1) zr_0_939 zr_0_940 zr_0_941 zr_0_942 zr_0_943 rfl hV.2.1 hL (by omega) ?_
  refine zl_arg (p := 944) (k := 2) (kz := 2) zr_0_944 zr_0_945 zr_0_946 zr_0_947 zr_0_948 rfl hV.2.1 hL (by omega) ?_
  refine zw_call (pc := 949) (x := 118) (as := [.inr (.inr 36), .inl (V 1 (ix + 1)), .inl (V 1 (ix + 2))]) (r := []) (c1 := 0) (c2 := 0) zr_0_949 rfl rfl ⟨by decide, by decide⟩ (Nat.le_of_ble_eq_true rfl) rfl rfl (Nat.le_of_ble_eq_true rfl) ⟨by decide, by decide⟩ rfl (Nat.le_of_ble_eq_true rfl) rfl rfl (by omega) cm (fun z W hW => ?_)
  obtain ⟨⟨w1, w2, w3⟩, hm⟩ := hW
  have w0 : W 0 1 = (L : Int) := (w2 1 (by decide) (by decide)).trans hV.2.1
  rw [← w1 1 (by decide) (by decide)] at hm
  refine ze_aload_n (pc := 952) zr_0_952 rfl ?_
  refine zl_arg (p := 953) (k := 1) (kz := 1) zr_0_953 zr_0_954 zr_0_955 zr_0_956 zr_0_957 rfl w0 hL (by omega) ?_
  refine zl_arg (p := 958) (k := 2) (kz := 2) zr_0_958 zr_0_959 zr_0_960 zr_0_961 zr_0_962 rfl w0 hL (by omega) ?_
  refine zw_call (pc := 963) (x := 237) (as := [.inr (.inr 141), .inl (W 1 (ix + 1)), .inl (W 1 (ix + 2))]) (r := [.inl z]) (c1 := 0) (c2 := 0) zr_0_963 rfl rfl ⟨by decide, by decide⟩ (Nat.le_of_ble_eq_true rfl) rfl rfl (Nat.le_of_ble_eq_true rfl) ⟨by decide, by decide⟩ rfl (Nat.le_of_ble_eq_true rfl) rfl rfl (by omega) hm (fun z2 X hW => ?_)
  obtain ⟨⟨e, hR⟩, x1, x2, x3⟩ := hW
  refine ze_icmp_eq (pc := 966) (t := 1244) zr_0_966 (by decide) (fun _ => ?_) (fun q => absurd e.symm q)
  exact zw_next (by omega) (h X ⟨hR, (x2 1 (by decide) (by decide)).trans hV.2.1, by rw [x1 1 (by decide) (by decide)]; exact hV.2.2.1, x3⟩)
theorem zw_27 {Q : Int → z_M → Prop} {V : z_M} {ix L kc ks : Nat} (hV : zLo V L) (hL : L ≤ 3072) (hix : ix + 6 ≤ L) (hb : kc + 0 ≤ 600000 ∧ ks + 0 ≤ 7302250) (h : ∀ X, zLo X L → zHd Q X (ix + 6) (kc + 0) (ks + 0)) : z_Ex (z_MS 1800) 0 Q true 971 [some (.inr (.inr 1)), some (.inr (.inr 36)), some (.inr (.inr 141)), some (.inl (ix : Int))] [] kc ks V := by
  have cm := zPs_p hV.2.2.2 (cm_tracks (d := 1791) hV.1 (V 1 (ix + 1)) (V 1 (ix + 2)) (hV.2.2.1 _).2)
  refine ze_aload_n (pc := 971) zr_0_971 rfl ?_
  refine zl_arg (p := 972) (k := 1) (kz := 1) zr_0_972 zr_0_973 zr_0_974 zr_0_975 zr_0_976 rfl hV.2.1 hL (by omega) ?_
  refine zl_arg (p := 977) (k := 2) (kz := 2) zr_0_977 zr_0_978 zr_0_979 zr_0_980 zr_0_981 rfl hV.2.1 hL (by omega) ?_
  refine zw_call (pc := 982) (x := 119) (as := [.inr (.inr 36), .inl (V 1 (ix + 1)), .inl (V 1 (ix + 2))]) (r := []) (c1 := 0) (c2 := 0) zr_0_982 rfl rfl ⟨by decide, by decide⟩ (Nat.le_of_ble_eq_true rfl) rfl rfl (Nat.le_of_ble_eq_true rfl) ⟨by decide, by decide⟩ rfl (Nat.le_of_ble_eq_true rfl) rfl rfl (by omega) cm (fun z W hW => ?_)
  obtain ⟨⟨w1, w2, w3⟩, hm⟩ := hW
  have w0 : W 0 1 = (L : Int) := (w2 1 (by decide) (by decide)).trans hV.2.1
  rw [← w1 1 (by decide) (by decide)] at hm
  refine ze_aload_n (pc := 985) zr_0_985 rfl ?_
  refine zl_arg (p := 986) (k := 1) (kz := 1) zr_0_986 zr_0_987 zr_0_988 zr_0_989 zr_0_990 rfl w0 hL (by omega) ?_
  refine zl_arg (p := 991) (k := 2) (kz := 2) zr_0_991 zr_0_992 zr_0_993 zr_0_994 zr_0_995 rfl w0 hL (by omega) ?_
  refine zw_call (pc := 996) (x := 238) (as := [.inr (.inr 141), .inl (W 1 (ix + 1)), .inl (W 1 (ix + 2))]) (r := [.inl z]) (c1 := 0) (c2 := 0) zr_0_996 rfl rfl ⟨by decide, by decide⟩ (Nat.le_of_ble_eq_true rfl) rfl rfl (Nat.le_of_ble_eq_true rfl) ⟨by decide, by decide⟩ rfl (Nat.le_of_ble_eq_true rfl) rfl rfl (by omega) hm (fun z2 X hW => ?_)
  obtain ⟨⟨e, hR⟩, x1, x2, x3⟩ := hW
  refine ze_icmp_eq (pc := 999) (t := 1244) zr_0_999 (by decide) (fun _ => ?_) (fun q => absurd e.symm q)
  exact zw_next (by omega) (h X ⟨hR, (x2 1 (by decide) (by decide)).trans hV.2.1, by rw [x1 1 (by decide) (by decide)]; exact hV.2.2.1, x3⟩)
theorem zw_28 {Q : Int → z_M → Prop} {V : z_M} {ix L kc ks : Nat} (hV : zLo V L) (hL : L ≤ 3072) (hix : ix + 6 ≤ L) (hb : kc + 0 ≤ 600000 ∧ ks + 0 ≤ 7302250) (h : ∀ X, zLo X L → zHd Q X (ix + 6) (kc + 0) (ks + 0)) : z_Ex (z_MS 1800) 0 Q true 1004 [some (.inr (.inr 1)), some (.inr (.inr 36)), some (.inr (.inr 141)), some (.inl (ix : Int))] [] kc ks V := by
  have cm := zPs_p hV.2.2.2 (cm_sorted (d := 1795) hV.1 (V 1 (ix + 1)))
  refine ze_aload_n (pc := 1004) zr_0_1004 rfl ?_
  refine zl_arg (p := 1005) (k := 1) (kz := 1) zr_0_1005 zr_0_1006 zr_0_1007 zr_0_1008 zr_0_1009 rfl hV.2.1 hL (by omega) ?_
  refine zw_call (pc := 1010) (x := 120) (as := [.inr (.inr 36), .inl (V 1 (ix + 1))]) (r := []) (c1 := 0) (c2 := 0) zr_0_1010 rfl rfl ⟨by decide, by decide⟩ (Nat.le_of_ble_eq_true rfl) rfl rfl (Nat.le_of_ble_eq_true rfl) ⟨by decide, by decide⟩ rfl (Nat.le_of_ble_eq_true rfl) rfl rfl (by omega) cm (fun z W hW => ?_)
  obtain ⟨⟨w1, w2, w3⟩, hm⟩ := hW
  have w0 : W 0 1 = (L : Int) := (w2 1 (by decide) (by decide)).trans hV.2.1
  rw [← w1 1 (by decide) (by decide)] at hm
  refine ze_aload_n (pc := 1013) zr_0_1013 rfl ?_
  refine zl_arg (p := 1014) (k := 1) (kz := 1) zr_0_1014 zr_0_1015 zr_0_1016 zr_0_1017 zr_0_1018 rfl w0 hL (by omega) ?_
  refine zw_call (pc := 1019) (x := 240) (as := [.inr (.inr 141), .inl (W 1 (ix + 1))]) (r := [.inl z]) (c1 := 0) (c2 := 0) zr_0_1019 rfl rfl ⟨by decide, by decide⟩ (Nat.le_of_ble_eq_true rfl) rfl rfl (Nat.le_of_ble_eq_true rfl) ⟨by decide, by decide⟩ rfl (Nat.le_of_ble_eq_true rfl) rfl rfl (by omega) hm (fun z2 X hW => ?_)
  obtain ⟨⟨e, hR⟩, x1, x2, x3⟩ := hW
  refine ze_icmp_eq (pc := 1022) (t := 1244) zr_0_1022 (by decide) (fun _ => ?_) (fun q => absurd e.symm q)
  exact zw_next (by omega) (h X ⟨hR, (x2 1 (by decide) (by decide)).trans hV.2.1, by rw [x1 1 (by decide) (by decide)]; exact hV.2.2.1, x3⟩)
theorem zw_29 {Q : Int → z_M → Prop} {V : z_M} {ix L kc ks : Nat} (hV : zLo V L) (hL : L ≤ 3072) (hix : ix + 6 ≤ L) (hb : kc + 0 ≤ 600000 ∧ ks + 0 ≤ 7302250) (h : ∀ X, zLo X L → zHd Q X (ix + 6) (kc + 0) (ks + 0)) : z_Ex (z_MS 1800) 0 Q true 1027 [some (.inr (.inr 1)), some (.inr (.inr 36)), some (.inr (.inr 141)), some (.inl (ix : Int))] [] kc ks V := by
  have cm := zPs_p hV.2.2.2 (cm_toe (d := 1794) hV.1 (V 1 (ix + 1)))
  refine ze_aload_n (pc := 1027) zr_0_1027 rfl ?_
  refine zl_arg (p := 1028) (k := 1) (kz := 1) zr_0_1028 zr_0_1029 zr_0_1030 zr_0_1031 zr_0_1032 rfl hV.2.1 hL (by omega) ?_
  refine zw_call (pc := 1033) (x := 121) (as := [.inr (.inr 36), .inl (V 1 (ix + 1))]) (r := []) (c1 := 0) (c2 := 0) zr_0_1033 rfl rfl ⟨by decide, by decide⟩ (Nat.le_of_ble_eq_true rfl) rfl rfl (Nat.le_of_ble_eq_true rfl) ⟨by decide, by decide⟩ rfl (Nat.le_of_ble_eq_true rfl) rfl rfl (by omega) cm (fun z W hW => ?_)
  obtain ⟨⟨w1, w2, w3⟩, hm⟩ := hW
  have w0 : W 0 1 = (L : Int) := (w2 1 (by decide) (by decide)).trans hV.2.1
  rw [← w1 1 (by decide) (by decide)] at hm
  refine ze_aload_n (pc := 1036) zr_0_1036 rfl ?_
  refine zl_arg (p := 1037) (k := 1) (kz := 1) zr_0_1037 zr_0_1038 zr_0_1039 zr_0_1040 zr_0_1041 rfl w0 hL (by omega) ?_
  refine zw_call (pc := 1042) (x := 241) (as := [.inr (.inr 141), .inl (W 1 (ix + 1))]) (r := [.inl z]) (c1 := 0) (c2 := 0) zr_0_1042 rfl rfl ⟨by decide, by decide⟩ (Nat.le_of_ble_eq_true rfl) rfl rfl (Nat.le_of_ble_eq_true rfl) ⟨by decide, by decide⟩ rfl (Nat.le_of_ble_eq_true rfl) rfl rfl (by omega) hm (fun z2 X hW => ?_)
  obtain ⟨⟨e, hR⟩, x1, x2, x3⟩ := hW
  refine ze_icmp_eq (pc := 1045) (t := 1244) zr_0_1045 (by decide) (fun _ => ?_) (fun q => absurd e.symm q)
  exact zw_next (by omega) (h X ⟨hR, (x2 1 (by decide) (by decide)).trans hV.2.1, by rw [x1 1 (by decide) (by decide)]; exact hV.2.2.1, x3⟩)
theorem zw_30 {Q : Int → z_M → Prop} {V : z_M} {ix L kc ks : Nat} (hV : zLo V L) (hL : L ≤ 3072) (hix : ix + 6 ≤ L) (hb : kc + 0 ≤ 600000 ∧ ks + 0 ≤ 7302250) (h : ∀ X, zLo X L → zHd Q X (ix + 6) (kc + 0) (ks + 0)) : z_Ex (z_MS 1800) 0 Q true 1050 [some (.inr (.inr 1)), some (.inr (.inr 36)), some (.inr (.inr 141)), some (.inl (ix : Int))] [] kc ks V := by
  have cm := zPs_p hV.2.2.2 (cm_lift (d := 1799) hV.1)
  refine ze_aload_n (pc := 1050) zr_0_1050 rfl ?_
  refine zw_call (pc := 1051) (x := 122) (as := [.inr (.inr 36)]) (r := []) (c1 := 0) (c2 := 0) zr_0_1051 rfl rfl ⟨by decide, by decide⟩ (Nat.le_of_ble_eq_true rfl) rfl rfl (Nat.le_of_ble_eq_true rfl) ⟨by decide, by decide⟩ rfl (Nat.le_of_ble_eq_true rfl) rfl rfl (by omega) cm (fun z W hW => ?_)
  obtain ⟨⟨w1, w2, w3⟩, hm⟩ := hW
  have w0 : W 0 1 = (L : Int) := (w2 1 (by decide) (by decide)).trans hV.2.1
  refine ze_aload_n (pc := 1054) zr_0_1054 rfl ?_
  refine zw_call (pc := 1055) (x := 242) (as := [.inr (.inr 141)]) (r := [.inl z]) (c1 := 0) (c2 := 0) zr_0_1055 rfl rfl ⟨by decide, by decide⟩ (Nat.le_of_ble_eq_true rfl) rfl rfl (Nat.le_of_ble_eq_true rfl) ⟨by decide, by decide⟩ rfl (Nat.le_of_ble_eq_true rfl) rfl rfl (by omega) hm (fun z2 X hW => ?_)
  obtain ⟨⟨e, hR⟩, x1, x2, x3⟩ := hW
  refine ze_icmp_eq (pc := 1058) (t := 1244) zr_0_1058 (by decide) (fun _ => ?_) (fun q => absurd e.symm q)
  exact zw_next (by omega) (h X ⟨hR, (x2 1 (by decide) (by decide)).trans hV.2.1, by rw [x1 1 (by decide) (by decide)]; exact hV.2.2.1, x3⟩)
theorem zw_31 {Q : Int → z_M → Prop} {V : z_M} {ix L kc ks : Nat} (hV : zLo V L) (hL : L ≤ 3072) (hix : ix + 6 ≤ L) (hb : kc + 0 ≤ 600000 ∧ ks + 0 ≤ 7302250) (h : ∀ X, zLo X L → zHd Q X (ix + 6) (kc + 0) (ks + 0)) : z_Ex (z_MS 1800) 0 Q true 1063 [some (.inr (.inr 1)), some (.inr (.inr 36)), some (.inr (.inr 141)), some (.inl (ix : Int))] [] kc ks V := by
  have cm := zPs_p hV.2.2.2 (cm_places (d := 1794) hV.1 (V 1 (ix + 1)) (V 1 (ix + 2)) (hV.2.2.1 _))
  refine ze_aload_n (pc := 1063) zr_0_1063 rfl ?_
  refine zl_arg (p := 1064) (k := 1) (kz := 1) zr_0_1064 zr_0_1065 zr_0_1066 zr_0_1067 zr_0_1068 rfl hV.2.1 hL (by omega) ?_
  refine zl_arg (p := 1069) (k := 2) (kz := 2) zr_0_1069 zr_0_1070 zr_0_1071 zr_0_1072 zr_0_1073 rfl hV.2.1 hL (by omega) ?_
  refine zw_call (pc := 1074) (x := 123) (as := [.inr (.inr 36), .inl (V 1 (ix + 1)), .inl (V 1 (ix + 2))]) (r := []) (c1 := 0) (c2 := 0) zr_0_1074 rfl rfl ⟨by decide, by decide⟩ (Nat.le_of_ble_eq_true rfl) rfl rfl (Nat.le_of_ble_eq_true rfl) ⟨by decide, by decide⟩ rfl (Nat.le_of_ble_eq_true rfl) rfl rfl (by omega) cm (fun z W hW => ?_)
  obtain ⟨⟨w1, w2, w3⟩, hm⟩ := hW
  have w0 : W 0 1 = (L : Int) := (w2 1 (by decide) (by decide)).trans hV.2.1
  rw [← w1 1 (by decide) (by decide)] at hm
  refine ze_aload_n (pc := 1077) zr_0_1077 rfl ?_
  refine zl_arg (p := 1078) (k := 1) (kz := 1) zr_0_1078 zr_0_1079 zr_0_1080 zr_0_1081 zr_0_1082 rfl w0 hL (by omega) ?_
  refine zl_arg (p := 1083) (k := 2) (kz := 2) zr_0_1083 zr_0_1084 zr_0_1085 zr_0_1086 zr_0_1087 rfl w0 hL (by omega) ?_
  refine zw_call (pc := 1088) (x := 243) (as := [.inr (.inr 141), .inl (W 1 (ix + 1)), .inl (W 1 (ix + 2))]) (r := [.inl z]) (c1 := 0) (c2 := 0) zr_0_1088 rfl rfl ⟨by decide, by decide⟩ (Nat.le_of_ble_eq_true rfl) rfl rfl (Nat.le_of_ble_eq_true rfl) ⟨by decide, by decide⟩ rfl (Nat.le_of_ble_eq_true rfl) rfl rfl (by omega) hm (fun z2 X hW => ?_)
  obtain ⟨⟨e, hR⟩, x1, x2, x3⟩ := hW
  refine ze_icmp_eq (pc := 1091) (t := 1244) zr_0_1091 (by decide) (fun _ => ?_) (fun q => absurd e.symm q)
  exact zw_next (by omega) (h X ⟨hR, (x2 1 (by decide) (by decide)).trans hV.2.1, by rw [x1 1 (by decide) (by decide)]; exact hV.2.2.1, x3⟩)
theorem zw_32 {Q : Int → z_M → Prop} {V : z_M} {ix L kc ks : Nat} (hV : zLo V L) (hL : L ≤ 3072) (hix : ix + 6 ≤ L) (hb : kc + 0 ≤ 600000 ∧ ks + 0 ≤ 7302250) (h : ∀ X, zLo X L → zHd Q X (ix + 6) (kc + 0) (ks + 0)) : z_Ex (z_MS 1800) 0 Q true 1096 [some (.inr (.inr 1)), some (.inr (.inr 36)), some (.inr (.inr 141)), some (.inl (ix : Int))] [] kc ks V := by
  have cm := zPs_p hV.2.2.2 (cm_days (d := 1780) hV.1 (V 1 (ix + 1)) (V 1 (ix + 2)))
  refine ze_aload_n (pc := 1096) zr_0_1096 rfl ?_
  refine zl_arg (p := 1097) (k := 1) (kz := 1) zr_0_1097 zr_0_1098 zr_0_1099 zr_0_1100 zr_0_1101 rfl hV.2.1 hL (by omega) ?_
  refine zl_arg (p := 1102) (k := 2) (kz := 2) zr_0_1102 zr_0_1103 zr_0_1104 zr_0_1105 zr_0_1106 rfl hV.2.1 hL (by omega) ?_
  refine zw_call (pc := 1107) (x := 124) (as := [.inr (.inr 36), .inl (V 1 (ix + 1)), .inl (V 1 (ix + 2))]) (r := []) (c1 := 0) (c2 := 0) zr_0_1107 rfl rfl ⟨by decide, by decide⟩ (Nat.le_of_ble_eq_true rfl) rfl rfl (Nat.le_of_ble_eq_true rfl) ⟨by decide, by decide⟩ rfl (Nat.le_of_ble_eq_true rfl) rfl rfl (by omega) cm (fun z W hW => ?_)
  obtain ⟨⟨w1, w2, w3⟩, hm⟩ := hW
  have w0 : W 0 1 = (L : Int) := (w2 1 (by decide) (by decide)).trans hV.2.1
  rw [← w1 1 (by decide) (by decide)] at hm
  refine ze_aload_n (pc := 1110) zr_0_1110 rfl ?_
  refine zl_arg (p := 1111) (k := 1) (kz := 1) zr_0_1111 zr_0_1112 zr_0_1113 zr_0_1114 zr_0_1115 rfl w0 hL (by omega) ?_
  refine zl_arg (p := 1116) (k := 2) (kz := 2) zr_0_1116 zr_0_1117 zr_0_1118 zr_0_1119 zr_0_1120 rfl w0 hL (by omega) ?_
  refine zw_call (pc := 1121) (x := 245) (as := [.inr (.inr 141), .inl (W 1 (ix + 1)), .inl (W 1 (ix + 2))]) (r := [.inl z]) (c1 := 0) (c2 := 0) zr_0_1121 rfl rfl ⟨by decide, by decide⟩ (Nat.le_of_ble_eq_true rfl) rfl rfl (Nat.le_of_ble_eq_true rfl) ⟨by decide, by decide⟩ rfl (Nat.le_of_ble_eq_true rfl) rfl rfl (by omega) hm (fun z2 X hW => ?_)
  obtain ⟨⟨e, hR⟩, x1, x2, x3⟩ := hW
  refine ze_icmp_eq (pc := 1124) (t := 1244) zr_0_1124 (by decide) (fun _ => ?_) (fun q => absurd e.symm q)
  exact zw_next (by omega) (h X ⟨hR, (x2 1 (by decide) (by decide)).trans hV.2.1, by rw [x1 1 (by decide) (by decide)]; exact hV.2.2.1, x3⟩)
theorem zw_33 {Q : Int → z_M → Prop} {V : z_M} {ix L kc ks : Nat} (hV : zLo V L) (hL : L ≤ 3072) (hix : ix + 6 ≤ L) (hb : kc + 0 ≤ 600000 ∧ ks + 0 ≤ 7302250) (h : ∀ X, zLo X L → zHd Q X (ix + 6) (kc + 0) (ks + 0)) : z_Ex (z_MS 1800) 0 Q true 1129 [some (.inr (.inr 1)), some (.inr (.inr 36)), some (.inr (.inr 141)), some (.inl (ix : Int))] [] kc ks V := by
  have cm := zPs_p hV.2.2.2 (cm_drawn (d := 1796) hV.1 (V 1 (ix + 1)) (V 1 (ix + 2)))
  refine ze_aload_n (pc := 1129) zr_0_1129 rfl ?_
  refine zl_arg (p := 1130) (k := 1) (kz := 1) zr_0_1130 zr_0_1131 zr_0_1132 zr_0_1133 zr_0_1134 rfl hV.2.1 hL (by omega) ?_
  refine zl_arg (p := 1135) (k := 2) (kz := 2) zr_0_1135 zr_0_1136 zr_0_1137 zr_0_1138 zr_0_1139 rfl hV.2.1 hL (by omega) ?_
  refine zw_call (pc := 1140) (x := 125) (as := [.inr (.inr 36), .inl (V 1 (ix + 1)), .inl (V 1 (ix + 2))]) (r := []) (c1 := 0) (c2 := 0) zr_0_1140 rfl rfl ⟨by decide, by decide⟩ (Nat.le_of_ble_eq_true rfl) rfl rfl (Nat.le_of_ble_eq_true rfl) ⟨by decide, by decide⟩ rfl (Nat.le_of_ble_eq_true rfl) rfl rfl (by omega) cm (fun z W hW => ?_)
  obtain ⟨⟨w1, w2, w3⟩, hm⟩ := hW
  have w0 : W 0 1 = (L : Int) := (w2 1 (by decide) (by decide)).trans hV.2.1
  rw [← w1 1 (by decide) (by decide)] at hm
  refine ze_aload_n (pc := 1143) zr_0_1143 rfl ?_
  refine zl_arg (p := 1144) (k := 1) (kz := 1) zr_0_1144 zr_0_1145 zr_0_1146 zr_0_1147 zr_0_1148 rfl w0 hL (by omega) ?_
  refine zl_arg (p := 1149) (k := 2) (kz := 2) zr_0_1149 zr_0_1150 zr_0_1151 zr_0_1152 zr_0_1153 rfl w0 hL (by omega) ?_
  refine zw_call (pc := 1154) (x := 246) (as := [.inr (.inr 141), .inl (W 1 (ix + 1)), .inl (W 1 (ix + 2))]) (r := [.inl z]) (c1 := 0) (c2 := 0) zr_0_1154 rfl rfl ⟨by decide, by decide⟩ (Nat.le_of_ble_eq_true rfl) rfl rfl (Nat.le_of_ble_eq_true rfl) ⟨by decide, by decide⟩ rfl (Nat.le_of_ble_eq_true rfl) rfl rfl (by omega) hm (fun z2 X hW => ?_)
  obtain ⟨⟨e, hR⟩, x1, x2, x3⟩ := hW
  refine ze_icmp_eq (pc := 1157) (t := 1244) zr_0_1157 (by decide) (fun _ => ?_) (fun q => absurd e.symm q)
  exact zw_next (by omega) (h X ⟨hR, (x2 1 (by decide) (by decide)).trans hV.2.1, by rw [x1 1 (by decide) (by decide)]; exact hV.2.2.1, x3⟩)
theorem zw_34 {Q : Int → z_M → Prop} {V : z_M} {ix L kc ks : Nat} (hV : zLo V L) (hL : L ≤ 3072) (hix : ix + 6 ≤ L) (hb : kc + 0 ≤ 600000 ∧ ks + 0 ≤ 7302250) (h : ∀ X, zLo X L → zHd Q X (ix + 6) (kc + 0) (ks + 0)) : z_Ex (z_MS 1800) 0 Q true 1162 [some (.inr (.inr 1)), some (.inr (.inr 36)), some (.inr (.inr 141)), some (.inl (ix : Int))] [] kc ks V := by
  have cm := zPs_p hV.2.2.2 (cm_image (d := 1796) hV.1 (V 1 (ix + 1)))
  refine ze_aload_n (pc := 1162) zr_0_1162 rfl ?_
  refine zl_arg (p := 1163) (k := 1) (kz := 1) zr_0_1163 zr_0_1164 zr_0_1165 zr_0_1166 zr_0_1167 rfl hV.2.1 hL (by omega) ?_
  refine zw_call (pc := 1168) (x := 126) (as := [.inr (.inr 36), .inl (V 1 (ix + 1))]) (r := []) (c1 := 0) (c2 := 0) zr_0_1168 rfl rfl ⟨by decide, by decide⟩ (Nat.le_of_ble_eq_true rfl) rfl rfl (Nat.le_of_ble_eq_true rfl) ⟨by decide, by decide⟩ rfl (Nat.le_of_ble_eq_true rfl) rfl rfl (by omega) cm (fun z W hW => ?_)
  obtain ⟨⟨w1, w2, w3⟩, hm⟩ := hW
  have w0 : W 0 1 = (L : Int) := (w2 1 (by decide) (by decide)).trans hV.2.1
  rw [← w1 1 (by decide) (by decide)] at hm
  refine ze_aload_n (pc := 1171) zr_0_1171 rfl ?_
  refine zl_arg (p := 1172) (k := 1) (kz := 1) zr_0_1172 zr_0_1173 zr_0_1174 zr_0_1175 zr_0_1176 rfl w0 hL (by omega) ?_
  refine zw_call (pc := 1177) (x := 152) (as := [.inr (.inr 141), .inl (W 1 (ix + 1))]) (r := [.inl z]) (c1 := 0) (c2 := 0) zr_0_1177 rfl rfl ⟨by decide, by decide⟩ (Nat.le_of_ble_eq_true rfl) rfl rfl (Nat.le_of_ble_eq_true rfl) ⟨by decide, by decide⟩ rfl (Nat.le_of_ble_eq_true rfl) rfl rfl (by omega) hm (fun z2 X hW => ?_)
  obtain ⟨⟨e, hR⟩, x1, x2, x3⟩ := hW
  refine ze_icmp_eq (pc := 1180) (t := 1244) zr_0_1180 (by decide) (fun _ => ?_) (fun q => absurd e.symm q)
  exact zw_next (by omega) (h X ⟨hR, (x2 1 (by decide) (by decide)).trans hV.2.1, by rw [x1 1 (by decide) (by decide)]; exact hV.2.2.1, x3⟩)
theorem zw_35 {Q : Int → z_M → Prop} {V : z_M} {ix L kc ks : Nat} (hV : zLo V L) (hL : L ≤ 3072) (hix : ix + 6 ≤ L) (hb : kc + 0 ≤ 600000 ∧ ks + 0 ≤ 7302250) (h : ∀ X, zLo X L → zHd Q X (ix + 6) (kc + 0) (ks + 0)) : z_Ex (z_MS 1800) 0 Q true 1185 [some (.inr (.inr 1)), some (.inr (.inr 36)), some (.inr (.inr 141)), some (.inl (ix : Int))] [] kc ks V := by
  have cm := zPs_p hV.2.2.2 (cm_back (d := 1796) hV.1 (V 1 (ix + 1)))
  refine ze_aload_n (pc := 1185) zr_0_1185 rfl ?_
  refine zl_arg (p := 1186) (k := 1) (kz := 1) zr_0_1186 zr_0_1187 zr_0_1188 zr_0_1189 zr_0_1190 rfl hV.2.1 hL (by omega) ?_
  refine zw_call (pc := 1191) (x := 127) (as := [.inr (.inr 36), .inl (V 1 (ix + 1))]) (r := []) (c1 := 0) (c2 := 0) zr_0_1191 rfl rfl ⟨by decide, by decide⟩ (Nat.le_of_ble_eq_true rfl) rfl rfl (Nat.le_of_ble_eq_true rfl) ⟨by decide, by decide⟩ rfl (Nat.le_of_ble_eq_true rfl) rfl rfl (by omega) cm (fun z W hW => ?_)
  obtain ⟨⟨w1, w2, w3⟩, hm⟩ := hW
  have w0 : W 0 1 = (L : Int) := (w2 1 (by decide) (by decide)).trans hV.2.1
  rw [← w1 1 (by decide) (by decide)] at hm
  refine ze_aload_n (pc := 1194) zr_0_1194 rfl ?_
  refine zl_arg (p := 1195) (k := 1) (kz := 1) zr_0_1195 zr_0_1196 zr_0_1197 zr_0_1198 zr_0_1199 rfl w0 hL (by omega) ?_
  refine zw_call (pc := 1200) (x := 153) (as := [.inr (.inr 141), .inl (W 1 (ix + 1))]) (r := [.inl z]) (c1 := 0) (c2 := 0) zr_0_1200 rfl rfl ⟨by decide, by decide⟩ (Nat.le_of_ble_eq_true rfl) rfl rfl (Nat.le_of_ble_eq_true rfl) ⟨by decide, by decide⟩ rfl (Nat.le_of_ble_eq_true rfl) rfl rfl (by omega) hm (fun z2 X hW => ?_)
  obtain ⟨⟨e, hR⟩, x1, x2, x3⟩ := hW
  refine ze_icmp_eq (pc := 1203) (t := 1244) zr_0_1203 (by decide) (fun _ => ?_) (fun q => absurd e.symm q)
  exact zw_next (by omega) (h X ⟨hR, (x2 1 (by decide) (by decide)).trans hV.2.1, by rw [x1 1 (by decide) (by decide)]; exact hV.2.2.1, x3⟩)
theorem zw_36 {Q : Int → z_M → Prop} {V : z_M} {ix L kc ks : Nat} (hV : zLo V L) (hL : L ≤ 3072) (hix : ix + 6 ≤ L) (hb : kc + 0 ≤ 600000 ∧ ks + 0 ≤ 7302250) (h : ∀ X, zLo X L → zHd Q X (ix + 6) (kc + 0) (ks + 0)) : z_Ex (z_MS 1800) 0 Q true 1208 [some (.inr (.inr 1)), some (.inr (.inr 36)), some (.inr (.inr 141)), some (.inl (ix : Int))] [] kc ks V := by
  have cm := zPs_p hV.2.2.2 (cm_count (d := 1794) hV.1 (V 1 (ix + 1)))
  refine ze_aload_n (pc := 1208) zr_0_1208 rfl ?_
  refine zl_arg (p := 1209) (k := 1) (kz := 1) zr_0_1209 zr_0_1210 zr_0_1211 zr_0_1212 zr_0_1213 rfl hV.2.1 hL (by omega) ?_
  refine zw_call (pc := 1214) (x := 128) (as := [.inr (.inr 36), .inl (V 1 (ix + 1))]) (r := []) (c1 := 0) (c2 := 0) zr_0_1214 rfl rfl ⟨by decide, by decide⟩ (Nat.le_of_ble_eq_true rfl) rfl rfl (Nat.le_of_ble_eq_true rfl) ⟨by decide, by decide⟩ rfl (Nat.le_of_ble_eq_true rfl) rfl rfl (by omega) cm (fun z W hW => ?_)
  obtain ⟨⟨w1, w2, w3⟩, hm⟩ := hW
  have w0 : W 0 1 = (L : Int) := (w2 1 (by decide) (by decide)).trans hV.2.1
  rw [← w1 1 (by decide) (by decide)] at hm
  refine ze_aload_n (pc := 1217) zr_0_1217 rfl ?_
  refine zl_arg (p := 1218) (k := 1) (kz := 1) zr_0_1218 zr_0_1219 zr_0_1220 zr_0_1221 zr_0_1222 rfl w0 hL (by omega) ?_
  refine zw_call (pc := 1223) (x := 247) (as := [.inr (.inr 141), .inl (W 1 (ix + 1))]) (r := [.inl z]) (c1 := 0) (c2 := 0) zr_0_1223 rfl rfl ⟨by decide, by decide⟩ (Nat.le_of_ble_eq_true rfl) rfl rfl (Nat.le_of_ble_eq_true rfl) ⟨by decide, by decide⟩ rfl (Nat.le_of_ble_eq_true rfl) rfl rfl (by omega) hm (fun z2 X hW => ?_)
  obtain ⟨⟨e, hR⟩, x1, x2, x3⟩ := hW
  refine ze_icmp_eq (pc := 1226) (t := 1244) zr_0_1226 (by decide) (fun _ => ?_) (fun q => absurd e.symm q)
  exact zw_next (by omega) (h X ⟨hR, (x2 1 (by decide) (by decide)).trans hV.2.1, by rw [x1 1 (by decide) (by decide)]; exact hV.2.2.1, x3⟩)
theorem zw_37 {Q : Int → z_M → Prop} {V : z_M} {ix L kc ks : Nat} (hV : zLo V L) (hL : L ≤ 3072) (hix : ix + 6 ≤ L) (hb : kc + 0 ≤ 600000 ∧ ks + 0 ≤ 7302250) (h : ∀ X, zLo X L → zHd Q X (ix + 6) (kc + 0) (ks + 0)) : z_Ex (z_MS 1800) 0 Q true 1231 [some (.inr (.inr 1)), some (.inr (.inr 36)), some (.inr (.inr 141)), some (.inl (ix : Int))] [] kc ks V := by
  have cm := zPs_p hV.2.2.2 (cm_status (d := 1798) hV.1)
  refine ze_aload_n (pc := 1231) zr_0_1231 rfl ?_
  refine zw_call (pc := 1232) (x := 129) (as := [.inr (.inr 36)]) (r := []) (c1 := 0) (c2 := 0) zr_0_1232 rfl rfl ⟨by decide, by decide⟩ (Nat.le_of_ble_eq_true rfl) rfl rfl (Nat.le_of_ble_eq_true rfl) ⟨by decide, by decide⟩ rfl (Nat.le_of_ble_eq_true rfl) rfl rfl (by omega) cm (fun z W hW => ?_)
  obtain ⟨⟨w1, w2, w3⟩, hm⟩ := hW
  have w0 : W 0 1 = (L : Int) := (w2 1 (by decide) (by decide)).trans hV.2.1
  refine ze_aload_n (pc := 1235) zr_0_1235 rfl ?_
  refine zw_call (pc := 1236) (x := 248) (as := [.inr (.inr 141)]) (r := [.inl z]) (c1 := 0) (c2 := 0) zr_0_1236 rfl rfl ⟨by decide, by decide⟩ (Nat.le_of_ble_eq_true rfl) rfl rfl (Nat.le_of_ble_eq_true rfl) ⟨by decide, by decide⟩ rfl (Nat.le_of_ble_eq_true rfl) rfl rfl (by omega) hm (fun z2 X hW => ?_)
  obtain ⟨⟨e, hR⟩, x1, x2, x3⟩ := hW
  refine ze_icmp_eq (pc := 1239) (t := 1244) zr_0_1239 (by decide) (fun _ => ?_) (fun q => absurd e.symm q)
  exact zw_next (by omega) (h X ⟨hR, (x2 1 (by decide) (by decide)).trans hV.2.1, by rw [x1 1 (by decide) (by decide)]; exact hV.2.2.1, x3⟩)
theorem zw_loop {L : Nat} (hL : L ≤ 3072) : ∀ (n ix kc ks : Nat) (V : z_M), L ≤ ix + 6 * n → zLo V L → kc + 4 * n ≤ 600000 → ks + 1203 * n ≤ 7302250 → ix ≤ 3078 → zHd (fun z _ => z = 1) V ix kc ks
  | 0, ix, kc, ks, V, h, hV, _, _, hix => zw_end hL hix hV (by omega)
  | n + 1, ix, kc, ks, V, h, hV, hkc, hks, hix => by
    by_cases hi : ix + 6 ≤ L
    · have ih := fun kc2 ks2 (a : kc2 + 4 * n ≤ 600000) (b : ks2 + 1203 * n ≤ 7302250) X hX => zw_loop hL n (ix + 6) kc2 ks2 X (by omega) hX a b (by omega)
      refine zw_head hL hi hV ?_
      refine zq_sw (pc := 33) (l := [167, 200, 243, 276, 309, 352, 385, 448, 471, 484, 497, 510, 523, 546, 579, 602, 645, 678, 711, 744, 777, 800, 823, 846, 869, 892, 905, 938, 971, 994, 1017, 1030, 1063, 1096, 1129, 1152, 1175, 1198]) zr_0_33 (by decide) rfl ?_
      refine zw_sw (n := 1) rfl (fun _ => zq_to (t := 200) (by decide) (zw_0 hV hL hi (by omega) (fun X hX => ih _ _ (by omega) (by omega) X hX))) (fun _ => ?_)
      refine zw_sw (n := 2) rfl (fun _ => zq_to (t := 233) (by decide) (zw_1 hV hL hi (by omega) (fun X hX => ih _ _ (by omega) (by omega) X hX))) (fun _ => ?_)
      refine zw_sw (n := 3) rfl (fun _ => zq_to (t := 276) (by decide) (zw_2 hV hL hi (by omega) (fun X hX => ih _ _ (by omega) (by omega) X hX))) (fun _ => ?_)
      refine zw_sw (n := 4) rfl (fun _ => zq_to (t := 309) (by decide) (zw_3 hV hL hi (by omega) (fun X hX => ih _ _ (by omega) (by omega) X hX))) (fun _ => ?_)
      refine zw_sw (n := 5) rfl (fun _ => zq_to (t := 342) (by decide) (zw_4 hV hL hi (by omega) (fun X hX => ih _ _ (by omega) (by omega) X hX))) (fun _ => ?_)
      refine zw_sw (n := 6) rfl (fun _ => zq_to (t := 385) (by decide) (zw_5 hV hL hi (by omega) (fun X hX => ih _ _ (by omega) (by omega) X hX))) (fun _ => ?_)
      refine zw_sw (n := 7) rfl (fun _ => zq_to (t := 418) (by decide) (zw_6 hV hL hi (by omega) (fun X hX => ih _ _ (by omega) (by omega) X hX))) (fun _ => ?_)
      refine zw_sw (n := 8) rfl (fun _ => zq_to (t := 481) (by decide) (zw_7 hV hL hi (by omega) (fun X hX => ih _ _ (by omega) (by omega) X hX))) (fun _ => ?_)
      refine zw_sw (n := 9) rfl (fun _ => zq_to (t := 504) (by decide) (zw_8 hV hL hi (by omega) (fun X hX => ih _ _ (by omega) (by omega) X hX))) (fun _ => ?_)
      refine zw_sw (n := 10) rfl (fun _ => zq_to (t := 517) (by decide) (zw_9 hV hL hi (by omega) (fun X hX => ih _ _ (by omega) (by omega) X hX))) (fun _ => ?_)
      refine zw_sw (n := 11) rfl (fun _ => zq_to (t := 530) (by decide) (zw_10 hV hL hi (by omega) (fun X hX => ih _ _ (by omega) (by omega) X hX))) (fun _ => ?_)
      refine zw_sw (n := 12) rfl (fun _ => zq_to (t := 543) (by decide) (zw_11 hV hL hi (by omega) (fun X hX => ih _ _ (by omega) (by omega) X hX))) (fun _ => ?_)
      refine zw_sw (n := 13) rfl (fun _ => zq_to (t := 556) (by decide) (zw_12 hV hL hi (by omega) (fun X hX => ih _ _ (by omega) (by omega) X hX))) (fun _ => ?_)
      refine zw_sw (n := 14) rfl (fun _ => zq_to (t := 579) (by decide) (zw_13 hV hL hi (by omega) (fun X hX => ih _ _ (by omega) (by omega) X hX))) (fun _ => ?_)
      refine zw_sw (n := 15) rfl (fun _ => zq_to (t := 612) (by decide) (zw_14 hV hL hi (by omega) (fun X hX => ih _ _ (by omega) (by omega) X hX))) (fun _ => ?_)
      refine zw_sw (n := 16) rfl (fun _ => zq_to (t := 635) (by decide) (zw_15 hV hL hi (by omega) (fun X hX => ih _ _ (by omega) (by omega) X hX))) (fun _ => ?_)
      refine zw_sw (n := 17) rfl (fun _ => zq_to (t := 678) (by decide) (zw_16 hV hL hi (by omega) (fun X hX => ih _ _ (by omega) (by omega) X hX))) (fun _ => ?_)
      refine zw_sw (n := 18) rfl (fun _ => zq_to (t := 711) (by decide) (zw_17 hV hL hi (by omega) (fun X hX => ih _ _ (by omega) (by omega) X hX))) (fun _ => ?_)
      refine zw_sw (n := 19) rfl (fun _ => zq_to (t := 744) (by decide) (zw_18 hV hL hi (by omega) (fun X hX => ih _ _ (by omega) (by omega) X hX))) (fun _ => ?_)
      refine zw_sw (n := 20) rfl (fun _ => zq_to (t := 777) (by decide) (zw_19 hV hL hi (by omega) (fun X hX => ih _ _ (by omega) (by omega) X hX))) (fun _ => ?_)
      refine zw_sw (n := 21) rfl (fun _ => zq_to (t := 810) (by decide) (zw_20 hV hL hi (by omega) (fun X hX => ih _ _ (by omega) (by omega) X hX))) (fun _ => ?_)
      refine zw_sw (n := 22) rfl (fun _ => zq_to (t := 833) (by decide) (zw_21 hV hL hi (by omega) (fun X hX => ih _ _ (by omega) (by omega) X hX))) (fun _ => ?_)
      refine zw_sw (n := 23) rfl (fun _ => zq_to (t := 856) (by decide) (zw_22 hV hL hi (by omega) (fun X hX => ih _ _ (by omega) (by omega) X hX))) (fun _ => ?_)
      refine zw_sw (n := 24) rfl (fun _ => zq_to (t := 879) (by decide) (zw_23 hV hL hi (by omega) (fun X hX => ih _ _ (by omega) (by omega) X hX))) (fun _ => ?_)
      refine zw_sw (n := 25) rfl (fun _ => zq_to (t := 902) (by decide) (zw_24 hV hL hi (by omega) (fun X hX => ih _ _ (by omega) (by omega) X hX))) (fun _ => ?_)
      refine zw_sw (n := 26) rfl (fun _ => zq_to (t := 925) (by decide) (zw_25 hV hL hi (by omega) (fun X hX => ih _ _ (by omega) (by omega) X hX))) (fun _ => ?_)
      refine zw_sw (n := 27) rfl (fun _ => zq_to (t := 938) (by decide) (zw_26 hV hL hi (by omega) (fun X hX => ih _ _ (by omega) (by omega) X hX))) (fun _ => ?_)
      refine zw_sw (n := 28) rfl (fun _ => zq_to (t := 971) (by decide) (zw_27 hV hL hi (by omega) (fun X hX => ih _ _ (by omega) (by omega) X hX))) (fun _ => ?_)
      refine zw_sw (n := 29) rfl (fun _ => zq_to (t := 1004) (by decide) (zw_28 hV hL hi (by omega) (fun X hX => ih _ _ (by omega) (by omega) X hX))) (fun _ => ?_)
      refine zw_sw (n := 30) rfl (fun _ => zq_to (t := 1027) (by decide) (zw_29 hV hL hi (by omega) (fun X hX => ih _ _ (by omega) (by omega) X hX))) (fun _ => ?_)
      refine zw_sw (n := 31) rfl (fun _ => zq_to (t := 1050) (by decide) (zw_30 hV hL hi (by omega) (fun X hX => ih _ _ (by omega) (by omega) X hX))) (fun _ => ?_)
      refine zw_sw (n := 32) rfl (fun _ => zq_to (t := 1063) (by decide) (zw_31 hV hL hi (by omega) (fun X hX => ih _ _ (by omega) (by omega) X hX))) (fun _ => ?_)
      refine zw_sw (n := 33) rfl (fun _ => zq_to (t := 1096) (by decide) (zw_32 hV hL hi (by omega) (fun X hX => ih _ _ (by omega) (by omega) X hX))) (fun _ => ?_)
      refine zw_sw (n := 34) rfl (fun _ => zq_to (t := 1129) (by decide) (zw_33 hV hL hi (by omega) (fun X hX => ih _ _ (by omega) (by omega) X hX))) (fun _ => ?_)
      refine zw_sw (n := 35) rfl (fun _ => zq_to (t := 1162) (by decide) (zw_34 hV hL hi (by omega) (fun X hX => ih _ _ (by omega) (by omega) X hX))) (fun _ => ?_)
      refine zw_sw (n := 36) rfl (fun _ => zq_to (t := 1185) (by decide) (zw_35 hV hL hi (by omega) (fun X hX => ih _ _ (by omega) (by omega) X hX))) (fun _ => ?_)
      refine zw_sw (n := 37) rfl (fun _ => zq_to (t := 1208) (by decide) (zw_36 hV hL hi (by omega) (fun X hX => ih _ _ (by omega) (by omega) X hX))) (fun _ => ?_)
      refine zw_sw (n := 38) rfl (fun _ => zq_to (t := 1231) (by decide) (zw_37 hV hL hi (by omega) (fun X hX => ih _ _ (by omega) (by omega) X hX))) (fun _ => ?_)
      exact zq_swn (zq_to (t := 1244) (by decide) (zw_next (by omega) (ih _ _ (by omega) (by omega) V hV)))
    · exact zw_end hL hix hV (by omega)
