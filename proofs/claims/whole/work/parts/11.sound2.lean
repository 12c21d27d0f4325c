theorem z_word {w : z_Wd} {s : State} (hT : z_TB w s) {x : Cond} (h : x ∈ lw_tbl ∧ z_ok x = true) (ho : x.onTables = true) {A : Array Value} : x.before A s = true := va_Nw.use ho (hT.1 x h.1 h.2)
theorem z_isA {w : z_Wd} {s : State} (hT : z_TB w s) {a : Nat} (ha : 0 < a) (h : 101 ≤ z_kd a) (h2 : z_kd a ≤ 107) : z_IsA s (z_cls w a) (z_ety (z_kd a)) := by
  unfold z_cls
  rw [if_pos h]
  by_cases q : a < 36
  · rw [if_pos q]; exact hT.2.2.2.1 a ha q h
  · rw [if_neg q]; exact (hT.2.2.1 _ h h2).1
theorem z_isArr {w : z_Wd} {s : State} (hT : z_TB w s) {a : Nat} (ha : 0 < a) (h : 101 ≤ z_kd a) (h2 : z_kd a ≤ 107) {cell : Cell} (hc : cell.cls = z_cls w a) (hv : cell.vm.isStatics = false) : s.isArrayOf cell (z_ety (z_kd a)) := by
  obtain ⟨k, comp, h1, h3⟩ := z_isA hT ha h h2
  exact ⟨fun q e => (by rw [e] at hv; cases hv), k, (by rw [hc]; exact h1), comp, h3⟩
theorem z_rr_md {V : z_M} {md : Bool} (h : md = true → z_Gr V) (a k : Nat) : z_rr md V a k = z_rr false V a k := by
  unfold z_rr
  cases md with
  | false => rfl
  | true =>
    show cond (Nat.beq (z_rf a k) 0) _ _ = _
    cases hb : Nat.beq (z_rf a k) 0 with
    | true => rfl
    | false =>
      have := h rfl a k (fun q => by rw [q] at hb; cases hb)
      show z_rf a k = (V a k).toNat
      omega
theorem z_rd_md {V : z_M} {md : Bool} (h : md = true → z_Gr V) (ty : FieldType) (a k : Nat) : z_rd md ty V a k = z_rd false ty V a k := by
  cases ty <;> simp only [z_rd, z_rr_md h]
theorem z_rd_ok {V : z_M} {ty : FieldType} {a k : Nat} (h : z_oks V ty (V a k)) : z_okv V (z_rd false ty V a k) := by
  cases ty <;> simp only [z_oks] at h <;> simp only [z_rd, z_okv, z_rr, cond_false] <;> omega
theorem z_kd_range (a : Nat) : z_kd a ≤ 14 ∨ z_kd a = 99 ∨ (101 ≤ z_kd a ∧ z_kd a ≤ 107) := by
  by_cases h : a < z_N0
  · have := (by decide +kernel : ∀ a, a < 169 → z_kd a ≤ 14 ∨ z_kd a = 99 ∨ (101 ≤ z_kd a ∧ z_kd a ≤ 107)) a h
    exact this
  · unfold z_kd
    rw [show Nat.blt a z_N0 = false from Bool.eq_false_iff.mpr (fun q => h ((Nat.blt_eq).mp q))]
    cases Nat.beq ((a - z_N0) % 4) 0
    · exact Or.inr (Or.inr ⟨Nat.le_of_ble_eq_true rfl, Nat.le_of_ble_eq_true rfl⟩)
    · exact Or.inl (Nat.le_of_ble_eq_true rfl)
section Sound2
variable {p : Program} {l : Launch} {e : Env} {R : Room} {s : State} {m : MethodId} {args : Array Value} {below : List Frame} {meth : Method} {c : Code} {QQ : State → Prop} {w : z_Wd} {i : Nat} {n0 : Int}
variable {md : Bool} {pc : Nat} {ls : z_L} {st : List z_V} {kc ks : Nat} {V : z_M}
theorem z_Fc.cell {H : Heap} {locs : List Loc} {LS : Array Slot} (hF : z_Fc w s i n0 md ls st kc ks V H locs LS) {a : Nat} (ha : z_okv V (.inr (.inr a))) (hk : ¬ z_kd a = 0) (hk2 : ¬ z_kd a = 99) : 0 < a ∧ ¬ a = 7 ∧ z_rv w a = .ref (z_ad w a) ∧ z_CH w V H a := by
  obtain ⟨h1, h2⟩ := z_kd_pos hk hk2
  exact ⟨h1, h2, z_rv_hi h1 h2, hF.1.2.2.1 a h1 ha h2⟩
theorem z_Fc.len {H : Heap} {locs : List Loc} {LS : Array Slot} (hF : z_Fc w s i n0 md ls st kc ks V H locs LS) {a : Nat} (ha : z_okv V (.inr (.inr a))) (h0 : 0 < a) (hk : 101 ≤ z_kd a) : 0 ≤ z_len' V a ∧ z_len' V a < 20000 ∧ z_nS V a = (z_len' V a).toNat := by
  have := hF.1.2.2.2.2.1 a h0 ha hk
  exact ⟨this.1, this.2, by unfold z_nS; rw [if_pos hk]⟩
theorem z_s_ifnull (hx : p.tables.exec = Jvm.exec) (hb : c.code = z_by i) {off : Int} (hd : decode (z_by i) pc = .ok (.ifnull off, 3)) (h : z_r1 st fun a r => z_g (¬ a = 7) <| z_to pc off fun t => z_br .eq (a : Int) 0 (z_WP p l e R s m args below meth c QQ w i n0 md t ls r kc ks V) (z_WP p l e R s m args below meth c QQ w i n0 md (pc + 3) ls r kc ks V)) : z_WP p l e R s m args below meth c QQ w i n0 md pc ls st kc ks V := by
  unfold z_r1 at h
  split at h
  · rename_i a r
    obtain ⟨q7, h⟩ := z_g_e h
    obtain ⟨h1, h2⟩ := z_g_e h
    intro H locs LS hF
    have hF' := hF.stk (z_ok_tl hF.2.2.2.1)
    unfold z_br at h2
    dsimp only at h2
    by_cases q : a = 0
    · rw [if_pos (by omega)] at h2
      subst q
      exact lv_ifnullN hx hb hd (by omega) (h2 H locs LS hF')
    · rw [if_neg (by omega)] at h2
      show W p l e R s m args below meth c H locs kc ks QQ (F0 m pc LS (z_rv w a :: r.map (z_enc w)))
      rw [z_rv_hi (by omega) q7]
      exact lv_ifnull hx hb hd (h2 H locs LS hF')
  · exact h.elim
theorem z_s_ifnonnull (hx : p.tables.exec = Jvm.exec) (hb : c.code = z_by i) {off : Int} (hd : decode (z_by i) pc = .ok (.ifnonnull off, 3)) (h : z_r1 st fun a r => z_g (¬ a = 7) <| z_to pc off fun t => z_br .eq (a : Int) 0 (z_WP p l e R s m args below meth c QQ w i n0 md (pc + 3) ls r kc ks V) (z_WP p l e R s m args below meth c QQ w i n0 md t ls r kc ks V)) : z_WP p l e R s m args below meth c QQ w i n0 md pc ls st kc ks V := by
  unfold z_r1 at h
  split at h
  · rename_i a r
    obtain ⟨q7, h⟩ := z_g_e h
    obtain ⟨h1, h2⟩ := z_g_e h
    intro H locs LS hF
    have hF' := hF.stk (z_ok_tl hF.2.2.2.1)
    unfold z_br at h2
    dsimp only at h2
    by_cases q : a = 0
    · rw [if_pos (by omega)] at h2
      subst q
      exact lv_ifnonnullN hx hb hd (h2 H locs LS hF')
    · rw [if_neg (by omega)] at h2
      show W p l e R s m args below meth c H locs kc ks QQ (F0 m pc LS (z_rv w a :: r.map (z_enc w)))
      rw [z_rv_hi (by omega) q7]
      exact lv_ifnonnull hx hb hd (by omega) (h2 H locs LS hF')
  · exact h.elim
theorem z_sw_e {a : Int} {f : Int → Prop} {d : Prop} : ∀ (l : List Int) (lo : Int), z_sw a lo l f d → ((a < lo ∨ lo + l.length ≤ a) ∧ d) ∨ (∃ o, lo ≤ a ∧ a < lo + l.length ∧ l[(a - lo).toNat]? = some o ∧ f o)
  | [], lo, h => by
    refine Or.inl ⟨?_, h⟩
    simp only [List.length_nil]
    omega
  | o :: t, lo, h => by
    unfold z_sw at h
    by_cases q : a = lo
    · rw [if_pos q] at h
      subst q
      exact Or.inr ⟨o, by omega, by simp only [List.length_cons]; omega, by simp, h⟩
    · rw [if_neg q] at h
      rcases z_sw_e t (lo + 1) h with ⟨h1, h2⟩ | ⟨o2, h1, h2, h3, h4⟩
      · refine Or.inl ⟨?_, h2⟩
        simp only [List.length_cons]
        omega
      · refine Or.inr ⟨o2, by omega, by simp only [List.length_cons]; omega, ?_, h4⟩
        have e : (a - lo).toNat = (a - (lo + 1)).toNat + 1 := by omega
        rw [e, List.getElem?_cons_succ]
        exact h3
theorem z_s_sw (hx : p.tables.exec = Jvm.exec) (hb : c.code = z_by i) {d lo hi : Int} {offs : Array Int} {len : Nat} (hd : decode (z_by i) pc = .ok (.tableswitch d lo hi offs, len)) (h : z_i1 st fun a r => z_g (hi + 1 = lo + (offs.toList.length : Int)) (z_sw a lo offs.toList (fun o => z_to pc o fun t => z_WP p l e R s m args below meth c QQ w i n0 md t ls r kc ks V) (z_to pc d fun t => z_WP p l e R s m args below meth c QQ w i n0 md t ls r kc ks V))) : z_WP p l e R s m args below meth c QQ w i n0 md pc ls st kc ks V := by
  unfold z_i1 at h
  split at h
  · rename_i a r
    obtain ⟨h1, h2⟩ := z_g_e h
    intro H locs LS hF
    have hF' := hF.stk (z_ok_tl hF.2.2.2.1)
    have ha := z_ok_hd hF.2.2.2.1
    have e : (Int32.ofInt a).toInt = a := z_t32 ha.1 ha.2
    rcases z_sw_e _ _ h2 with ⟨g1, g2⟩ | ⟨o, g1, g2, g3, g4⟩
    · obtain ⟨k1, k2⟩ := z_g_e g2
      refine lv_tableOut hx hb hd ?_ (tgt := ((pc : Int) + d).toNat) (by omega) (k2 H locs LS hF')
      rw [e]
      omega
    · obtain ⟨k1, k2⟩ := z_g_e g4
      refine lv_tableIn hx hb hd (by rw [e]; omega) (by rw [e]; omega) (off := o) ?_ (tgt := ((pc : Int) + o).toNat) (by omega) (k2 H locs LS hF')
      rw [e, ← Array.getElem?_toList]
      exact g3
  · exact h.elim
/-- a field is read -/
theorem z_s_getf (hT : z_TB w s) (hx : p.tables.exec = Jvm.exec) (hb : c.code = z_by i) (hown : s.vm.findClass (z_own i) = some m.cls) {idx x y : Nat} (hxy : x < 14 ∧ y < z_nf x) (hd : decode (z_by i) pc = .ok (.getfield idx, 3)) (hn : z_fl i idx x y ∈ lw_tbl ∧ z_ok (z_fl i idx x y) = true)
    (h : z_r1 st fun a r => z_g (z_kd a = x + 1) (z_WP p l e R s m args below meth c QQ w i n0 md (pc + 3) ls (z_rd md (z_Y x y) V a y :: r) kc ks V)) : z_WP p l e R s m args below meth c QQ w i n0 md pc ls st kc ks V := by
  unfold z_r1 at h
  split at h
  · rename_i a r
    obtain ⟨hk, h⟩ := z_g_e h
    intro H locs LS hF
    obtain ⟨a1, a2, a3, cell, q1, q2, q3, q4, q5, q6, q7⟩ := hF.cell (z_ok_hd hF.2.2.2.1) (by omega) (by omega)
    have hns : z_nS V a = z_nf x := by unfold z_nS; rw [if_neg (by omega), hk]; rfl
    obtain ⟨q8, q9⟩ := q7 y (by rw [hns]; exact hxy.2)
    have hsm : z_sm w a y = z_dI w x y := by unfold z_sm; rw [if_neg (by omega), hk]; rfl
    have hty : z_sty a y = z_Y x y := by unfold z_sty; rw [if_neg (by omega), hk]; rfl
    rw [hsm, hty] at q8
    rw [hty] at q9
    obtain ⟨cf, kf, fi, f, f1, f2, f3⟩ := z_fld hT hxy.1 hxy.2
    show W p l e R s m args below meth c H locs kc ks QQ (F0 m pc LS (z_rv w a :: r.map (z_enc w)))
    rw [a3]
    refine W.getf hx hb hown (z_word hT hn rfl) f1 f2 q1 q4 (v := z_enc w (z_rd false (z_Y x y) V a y)) (by rw [f3]; exact q8) rfl rfl hd ?_
    rw [← z_rd_md hF.1.2.2.2.2.2]
    exact h H locs LS (hF.stk (z_ok_cons (by rw [z_rd_md hF.1.2.2.2.2.2]; exact z_rd_ok q9) (z_ok_tl hF.2.2.2.1)))
  · exact h.elim
theorem z_ZS.kept {H H1 : Heap} (h : z_ZS w s H) (hq : ∀ a : Nat, a < H.size → ¬ z_base w ≤ a → H1[a]? = H[a]?) : z_ZS w s H1 := fun x hx => (h x hx).kept hq
/-- behind a store -/
theorem z_Fc.put (hw : z_WV w) (hT : z_TB w s) {H H' : Heap} {locs : List Loc} {LS : Array Slot} {st' : List z_V} (hF : z_Fc w s i n0 md ls st kc ks V H locs LS) {a k : Nat} {z : Int} (ha : 36 ≤ a) (han : (a : Int) < V 0 0) (hk : k < z_nS V a) (hkd : 101 ≤ z_kd a ∨ (0 < z_kd a ∧ z_kd a ≤ 13)) (hz : z_oks V (z_sty a k) z) (hrf : md = true → z_rf a k = 0)
    {cell : Cell} (hc : H[z_ad w a]? = some cell) (h1 : H'[z_ad w a]? = some (cell.setSlot (z_sm w a k) (z_enc w (z_rd false (z_sty a k) (z_up V a k z) a k)))) (h2 : H'.size = H.size) (h3 : ∀ q : Nat, q ≠ z_ad w a → H'[q]? = H[q]?) (hst : ∀ v ∈ st', z_okv V v) (q0 : Nat) :
    z_Fc w s i n0 md ls st' kc ks (z_up V a k z) H' (locs ++ [⟨z_ad w a, q0⟩]) LS := by
  have e0 : z_up V a k z 0 0 = V 0 0 := z_up_r (by omega)
  have hb : z_base w ≤ z_ad w a := by rw [z_ad_hi ha]; omega
  refine ⟨hF.1.put hw hT ha han hk hkd hz hrf hc h1 h2 h3, hF.2.1.kept (fun q g1 g2 => h3 q (fun e => g2 (by rw [e]; exact hb))), hF.2.2.1, fun v hv => z_okv_mono (by rw [e0]; exact Int.le_refl _) (hst v hv), fun k' v hv => z_okv_mono (by rw [e0]; exact Int.le_refl _) (hF.2.2.2.2.1 k' v hv), hF.2.2.2.2.2.1, hF.2.2.2.2.2.2.1, hF.2.2.2.2.2.2.2.1.put h2 h3 hb, by rw [e0]; exact hF.2.2.2.2.2.2.2.2⟩
theorem z_wr_e {a k : Nat} {ty : FieldType} {v : z_V} {f : Int → Prop} (h : z_wr md ty a k v f) (hv : z_okv V v) (hno : ty = .int ∨ ty = .boolean ∨ ty = .long ∨ (∃ n, ty = .object n) ∨ (∃ t, ty = .array t)) : ∃ z, f z ∧ z_oks V ty z ∧ ((∃ n, ty = .object n) ∨ (∃ t, ty = .array t) → md = true → z_rf a k = 0) ∧ (∀ V', V' a k = z → z_enc w (z_rd false ty V' a k) = z_enc w v) ∧ narrow ty (z_enc w v) = z_enc w v ∧ (z_WV w → fits ty (z_enc w v) = true) := by
  rcases hno with rfl | rfl | rfl | ⟨n, rfl⟩ | ⟨t, rfl⟩ <;> rcases v with u | u | u <;> first | exact h.elim | skip
  · exact ⟨u, h, hv, fun q => (by rcases q with ⟨_, q⟩ | ⟨_, q⟩ <;> cases q), fun V' e => (by simp only [z_rd, e]), rfl, fun _ => rfl⟩
  · obtain ⟨h1, h2⟩ := z_g_e h
    refine ⟨u, h2, h1, fun q => (by rcases q with ⟨_, q⟩ | ⟨_, q⟩ <;> cases q), fun V' e => (by simp only [z_rd, e]), ?_, fun _ => ?_⟩
    · rcases h1 with rfl | rfl <;> rfl
    · rcases h1 with rfl | rfl <;> rfl
  · exact ⟨u, h, hv, fun q => (by rcases q with ⟨_, q⟩ | ⟨_, q⟩ <;> cases q), fun V' e => (by simp only [z_rd, e]), rfl, fun _ => rfl⟩
  · obtain ⟨h1, h2⟩ := z_g_e h
    refine ⟨(u : Int), h2, ⟨Int.natCast_nonneg _, hv⟩, fun _ => h1, fun V' e => (by simp only [z_rd, z_rr, e, cond_false]; rfl), rfl, fun hw => ?_⟩
    show fits _ (z_rv w u) = true
    rcases z_rv_cases hw u with q | ⟨q, e⟩
    · rw [q]; rfl
    · rw [e]; rfl
  · obtain ⟨h1, h2⟩ := z_g_e h
    refine ⟨(u : Int), h2, ⟨Int.natCast_nonneg _, hv⟩, fun _ => h1, fun V' e => (by simp only [z_rd, z_rr, e, cond_false]; rfl), rfl, fun hw => ?_⟩
    show fits _ (z_rv w u) = true
    rcases z_rv_cases hw u with q | ⟨q, e⟩
    · rw [q]; rfl
    · rw [e]; rfl
theorem z_Yok : ∀ c, c < 13 → ∀ k, k < z_nf c → z_Y c k = .int ∨ z_Y c k = .boolean ∨ z_Y c k = .long ∨ (∃ n, z_Y c k = .object n) ∨ (∃ t, z_Y c k = .array t) := by
  have h : ∀ c, c < 13 → ∀ k, k < z_nf c → (match z_Y c k with | .int => true | .boolean => true | .long => true | .object _ => true | .array _ => true | _ => false) = true := by decide +kernel
  intro c hc k hk
  have := h c hc k hk
  cases hy : z_Y c k <;> rw [hy] at this <;> first | (cases this; done) | simp
theorem z_rf_int : ∀ c, c < 13 → ∀ a, a < 169 → z_kd a = c + 1 → ∀ k, k < z_nf c → (z_Y c k = .int ∨ z_Y c k = .boolean ∨ z_Y c k = .long) → z_rf a k = 0 := by
  have h : ∀ a, a < 169 → (Nat.ble 1 (z_kd a) && Nat.ble (z_kd a) 13) = true → ∀ k, k < z_nf (z_kd a - 1) → (match z_Y (z_kd a - 1) k with | .int => true | .boolean => true | .long => true | _ => false) = true → z_rf a k = 0 := by decide +kernel
  intro c hc a ha hk k hkk ht
  refine h a ha ?_ k (by rw [hk]; exact hkk) ?_
  · rw [hk]; simp only [Bool.and_eq_true]; exact ⟨Nat.ble_eq_true_of_le (by omega), Nat.ble_eq_true_of_le (by omega)⟩
  · rw [hk]
    show (match z_Y c k with | .int => true | .boolean => true | .long => true | _ => false) = true
    rcases ht with q | q | q <;> rw [q]
theorem z_rf_big {a k : Nat} (h : 169 ≤ a) : z_rf a k = 0 := by
  unfold z_rf
  rw [show Nat.blt a z_N0 = false from Bool.eq_false_iff.mpr (fun q => by have := (Nat.blt_eq).mp q; unfold z_N0 at this; omega)]
  rfl
end Sound2
