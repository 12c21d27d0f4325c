/-! a law that is made: new cells -/
section ZK
variable {d i : Nat} {Q : Int → z_M → Prop} {md : Bool} {pc : Nat} {ls : z_L} {st r : List z_V} {kc ks : Nat} {V : z_M} {kk x y : Nat} {ps : List Nat}
theorem zk_new {k : _} {c nf : Nat} (hco : z_co i pc = (.new k, kk, x, y, ps)) (hc : z_nx V = c) (hk : z_kd c = x + 1 ∧ x < 13) (hn : z_nf x = nf) (hb : kc + 1 ≤ (z_al i).1 ∧ ks + nf ≤ (z_al i).2) (h : z_Ex (z_MS d) i Q md (pc + 3) ls (.inr (.inr c) :: st) (kc + 1) (ks + nf) (z_up V 0 0 (V 0 0 + 1))) : z_Ex (z_MS d) i Q md pc ls st kc ks V := ze_step (by subst hc; subst hn; unfold z_Stp; rw [hco]; dsimp only; exact z_g_p hk (z_g_p hb h))
theorem zk_newI {c : Nat} {n : Int} (hco : z_co i pc = (.newarray .int, kk, x, y, ps)) (hc : z_nx V = c) (hk : z_kd c = 101) (hn : 0 ≤ n ∧ n < 20000 ∧ (z_LN c = 0 ∨ z_LN c = n.toNat + 1)) (hb : kc + 1 ≤ (z_al i).1 ∧ ks + n.toNat ≤ (z_al i).2) (h : z_Ex (z_MS d) i Q md (pc + 2) ls (.inr (.inr c) :: r) (kc + 1) (ks + n.toNat) (z_mk V n)) : z_Ex (z_MS d) i Q md pc ls (.inl n :: r) kc ks V := ze_step (by subst hc; unfold z_Stp; rw [hco]; dsimp only; unfold z_i1; dsimp only; exact z_g_p hk (z_g_p hn (z_g_p hb h)))
theorem zk_clone {k : _} {a c : Nat} (hco : z_co i pc = (.invokevirtual k, kk, 1002, y, ps)) (hc : z_nx V = c) (hk : z_kd a = 101 ∧ 36 ≤ a ∧ z_kd c = 101 ∧ z_LN c = 0 ∧ z_sum r ≤ 8 ∧ z_len' V a < 20000) (hb : kc + 1 ≤ (z_al i).1 ∧ ks + (z_len' V a).toNat ≤ (z_al i).2) (h : z_Ex (z_MS d) i Q md (pc + 3) ls (.inr (.inr c) :: r) (kc + 1) (ks + (z_len' V a).toNat) (z_cln V a)) : z_Ex (z_MS d) i Q md pc ls (.inr (.inr a) :: r) kc ks V := ze_step (by subst hc; unfold z_Stp; rw [hco]; exact z_g_p hk (z_g_p hb h))
theorem zk_cast {k : _} {a : Nat} (hco : z_co i pc = (.checkcast k, kk, x, y, ps)) (hk : z_kd a = 101 ∧ 36 ≤ a) (h : z_Ex (z_MS d) i Q md (pc + 3) ls (.inr (.inr a) :: r) kc ks V) : z_Ex (z_MS d) i Q md pc ls (.inr (.inr a) :: r) kc ks V := ze_step (by unfold z_Stp; rw [hco]; dsimp only; unfold z_r1; dsimp only; exact z_g_p hk h)
end ZK
theorem z_blt_n {a : Nat} (h : 169 ≤ a) : Nat.blt a z_N0 = false := by
  have h0 : z_N0 = 169 := rfl
  rw [h0]
  exact Bool.eq_false_iff.mpr (fun x => absurd (Nat.le_of_ble_eq_true x) (by omega))
theorem z_LN_n {a : Nat} (h : 169 ≤ a) : z_LN a = 0 := by unfold z_LN; rw [z_blt_n h]; rfl
theorem z_rf_n {a k : Nat} (h : 169 ≤ a) : z_rf a k = 0 := by unfold z_rf; rw [z_blt_n h]; rfl
theorem z_kd_n {a : Nat} (h : 169 ≤ a) : z_kd a = cond (Nat.beq ((a - 169) % 4) 0) 5 101 := by unfold z_kd; rw [z_blt_n h, cond_false]; show cond (Nat.beq ((a - 169) % 4) 0) 5 101 = _; rfl
theorem z_kd_q0 (q : Nat) : z_kd (169 + 4 * q) = 5 := by
  rw [z_kd_n (by omega), show (169 + 4 * q - 169) % 4 = 0 by omega]
  rfl
theorem z_kd_q1 {q i : Nat} (h : 0 < i ∧ i < 4) : z_kd (169 + 4 * q + i) = 101 := by
  rw [z_kd_n (by omega), show (169 + 4 * q + i - 169) % 4 = i by omega]
  rcases (by omega : i = 1 ∨ i = 2 ∨ i = 3) with rfl | rfl | rfl <;> rfl
theorem z_len_v {V : z_M} {a : Nat} (h : 169 ≤ a) : z_len' V a = V 0 a := by unfold z_len'; rw [z_LN_n h]; rfl
/-- what a copy of n numbers of the cell a in the cell c leaves -/
def zCpA (V W : z_M) (a c n : Nat) : Prop := W 0 0 = ((c + 1 : Nat) : Int) ∧ W 0 c = (n : Int) ∧ (∀ k, ¬ k = 0 → ¬ k = c → W 0 k = V 0 k) ∧ (∀ x, ¬ x = 0 → ¬ x = c → W x = V x) ∧ ∀ j, j < n → W c j = V a j
theorem sp258 {d : Nat} {Q : Int → z_M → Prop} {V : z_M} {a n c len : Nat} (ha : z_kd a = 101 ∧ 36 ≤ a) (hac : ¬ a = c) (hl : z_len' V a = (len : Int)) (hlen : len < 20000) (hn : n ≤ len) (hn4 : n ≤ 400) (h00 : V 0 0 = (c : Int)) (hc : 169 ≤ c) (hkc : z_kd c = 101) (h : ∀ W, zCpA V W a c n → Q (c : Int) W) : z_MS (d + 1) 258 true [.inr (.inr a), .inl (n : Int)] V Q := by
  have hx : z_nx V = c := by unfold z_nx; rw [h00]; rfl
  have al : z_al 258 = (1, 400) := by decide
  show z_Ex (z_MS d) 258 Q true 0 [some (.inr (.inr a)), some (.inl (n : Int)), none] [] 0 0 V
  refine ze_iload_n (pc := 0) zr_258_0 rfl ?_
  refine ze_aload_n (pc := 1) zr_258_1 rfl ?_
  refine ze_length (pc := 2) (z := (len : Int)) zr_258_2 (by rw [ha.1]; decide) hl ?_
  refine ze_icmp_ne (pc := 3) (t := 14) zr_258_3 (by decide) (fun hq => ?_) (fun hq => ?_)
  · have e : n = len := by omega
    refine ze_aload_n (pc := 6) zr_258_6 rfl ?_
    refine zk_clone (pc := 7) (c := c) zr_258_7 hx ⟨ha.1, ha.2, hkc, z_LN_n hc, Nat.le_of_ble_eq_true rfl, by omega⟩ (by rw [al, hl]; exact ⟨by decide, by simp; omega⟩) ?_
    refine zk_cast (pc := 10) zr_258_10 ⟨hkc, by omega⟩ ?_
    refine ze_aret (pc := 13) zr_258_13 ⟨rfl, by omega⟩ (h _ ?_)
    have r0 : ∀ j, z_cln V a 0 j = z_mk V (len : Int) 0 j := fun j => by unfold z_cln; rw [if_neg (by rw [hx]; omega), hl]
    have m0 : ∀ j, z_mk V (len : Int) 0 j = if j = c then (len : Int) else if j = 0 then (c : Int) + 1 else V 0 j := fun j => by
      unfold z_mk
      rw [hx, h00, z_up_rd, if_pos rfl, z_up_rd, if_pos rfl]
    refine ⟨by rw [r0, m0, if_neg (by omega), if_pos rfl]; rfl, by rw [r0, m0, if_pos rfl, e], fun k h1 h2 => by rw [r0, m0, if_neg h2, if_neg h1], fun x h1 h2 => ?_, fun j hj => ?_⟩
    · funext j
      unfold z_cln z_mk
      rw [if_neg (by rw [hx]; exact h2), z_up_cell h1, z_up_cell h1]
    · unfold z_cln
      rw [if_pos hx.symm, hl, if_pos (by omega)]
  · refine ze_iload_n (pc := 14) zr_258_14 rfl ?_
    refine zk_newI (pc := 15) (c := c) zr_258_15 hx hkc ⟨by omega, by omega, Or.inl (z_LN_n hc)⟩ (by rw [al]; exact ⟨by decide, by simp; omega⟩) ?_
    refine zq_astore_n (pc := 17) (ls2 := [some (.inr (.inr a)), some (.inl (n : Int)), some (.inr (.inr c))]) zr_258_17 rfl rfl ?_
    refine ze_aload_n (pc := 18) zr_258_18 rfl ?_
    refine ze_iconst (pc := 19) zr_258_19 (by decide) ?_
    refine ze_aload_n (pc := 20) zr_258_20 rfl ?_
    refine ze_iconst (pc := 21) zr_258_21 (by decide) ?_
    refine ze_aload_n (pc := 22) zr_258_22 rfl ?_
    have m0 : ∀ j, z_mk V (n : Int) 0 j = if j = c then (n : Int) else if j = 0 then (c : Int) + 1 else V 0 j := fun j => by
      unfold z_mk
      rw [hx, h00, z_up_rd, if_pos rfl, z_up_rd, if_pos rfl]
    have ma : z_len' (z_mk V (n : Int)) a = (len : Int) := by
      unfold z_len' at hl ⊢
      rw [m0, if_neg hac, if_neg (by omega)]
      exact hl
    have mc : z_len' (z_mk V (n : Int)) c = (n : Int) := by rw [z_len_v hc, m0, if_pos rfl]
    refine ze_length (pc := 23) (z := (len : Int)) zr_258_23 (by rw [ha.1]; decide) ma ?_
    refine ze_iload_n (pc := 24) zr_258_24 rfl ?_
    refine zq_min (pc := 25) zr_258_25 (Nat.le_of_ble_eq_true rfl) ?_
    have emin : z_min (len : Int) (n : Int) = (n : Int) := by unfold z_min; split <;> omega
    rw [emin]
    refine zq_acopyv (pc := 28) (F := fun W => zCpA V W a c n) zr_258_28 ⟨ha.1, hkc, by omega, Nat.le_of_ble_eq_true rfl⟩ (by rw [ma, mc]; omega) rfl rfl rfl (fun W hW => ?_) (fun W hW => ?_)
    · subst hW
      refine ⟨by rw [z_cpy_cell (by omega), m0, if_neg (by omega), if_pos rfl]; rfl, by rw [z_cpy_cell (by omega), m0, if_pos rfl], fun k h1 h2 => by rw [z_cpy_cell (by omega), m0, if_neg h2, if_neg h1], fun x h1 h2 => ?_, fun j hj => ?_⟩
      · rw [z_cpy_cell h2]
        unfold z_mk
        rw [z_up_cell h1, z_up_cell h1]
      · rw [z_cpy_rd, if_pos rfl, if_pos (by simp; omega)]
        unfold z_mk
        rw [z_up_cell (by omega), z_up_cell (by omega)]
        simp
    · refine ze_aload_n (pc := 31) zr_258_31 rfl ?_
      exact ze_aret (pc := 32) zr_258_32 ⟨rfl, by omega⟩ (h _ hW)
theorem sp23 {d : Nat} {Q : Int → z_M → Prop} {V : z_M} {c a1 a2 a3 : Nat} (hc : 169 ≤ c) (hk : z_kd c = 5) (h : Q 0 (z_up (z_up (z_up V c 0 (a1 : Nat)) c 1 (a2 : Nat)) c 2 (a3 : Nat))) : z_MS (d + 1) 23 true [.inr (.inr c), .inr (.inr a1), .inr (.inr a2), .inr (.inr a3)] V Q := by
  have hr : ∀ k, true = true → z_rf c k = 0 := fun k _ => z_rf_n hc
  show z_Ex (z_MS d) 23 Q true 0 [some (.inr (.inr c)), some (.inr (.inr a1)), some (.inr (.inr a2)), some (.inr (.inr a3))] [] 0 0 V
  refine ze_aload_n (pc := 0) zr_23_0 rfl ?_
  refine zq_oinit (pc := 1) zr_23_1 ⟨by omega, by omega, Nat.le_of_ble_eq_true rfl⟩ ?_
  refine ze_aload_n (pc := 4) zr_23_4 rfl ?_
  refine ze_aload_n (pc := 5) zr_23_5 rfl ?_
  refine ze_putA (pc := 6) zr_23_6 ⟨hk, by omega⟩ rfl (hr 0) ?_
  refine ze_aload_n (pc := 9) zr_23_9 rfl ?_
  refine ze_aload_n (pc := 10) zr_23_10 rfl ?_
  refine ze_putA (pc := 11) zr_23_11 ⟨hk, by omega⟩ rfl (hr 1) ?_
  refine ze_aload_n (pc := 14) zr_23_14 rfl ?_
  refine ze_aload_n (pc := 15) zr_23_15 rfl ?_
  refine ze_putA (pc := 16) zr_23_16 ⟨hk, by omega⟩ rfl (hr 2) ?_
  exact ze_vret (pc := 19) zr_23_19 rfl h
/-- what a law that is made leaves -/
def zMkL (V W : z_M) (c s n : Nat) : Prop := W 0 0 = ((c + 4 : Nat) : Int) ∧ W 0 (c + 1) = (s : Int) ∧ W 0 (c + 2) = (s : Int) ∧ W 0 (c + 3) = (n : Int) ∧ (∀ k, ¬ k = 0 → k < c → W 0 k = V 0 k) ∧ (∀ x, ¬ x = 0 → x < c → W x = V x) ∧ W c 0 = (c : Int) + 1 ∧ W c 1 = (c : Int) + 2 ∧ W c 2 = (c : Int) + 3 ∧ (∀ j, j < s → W (c + 1) j = V 90 j ∧ W (c + 2) j = V 91 j) ∧ ∀ j, j < n → W (c + 3) j = V 92 j
theorem sp25_98 {d : Nat} {Q : Int → z_M → Prop} {V : z_M} {q s m : Nat} {o1 : Option z_V} (h00 : V 0 0 = ((169 + 4 * q : Nat) : Int)) (h3 : V 89 3 = (s : Int)) (hs : s ≤ 400) (hm : m < 12) (h : ∀ W, zMkL V W (169 + 4 * q) s (m + 2) → Q ((169 + 4 * q : Nat) : Int) W) : z_Ex (z_MS (d + 1)) 25 Q true 98 [some (.inr (.inr 89)), o1, some (.inl (m : Int))] [] 0 0 V := by
  have l90 : ∀ U : z_M, z_len' U 90 = ((400 : Nat) : Int) := fun U => z_len_n (n := 400) (by decide)
  have l91 : ∀ U : z_M, z_len' U 91 = ((400 : Nat) : Int) := fun U => z_len_n (n := 400) (by decide)
  have l92 : ∀ U : z_M, z_len' U 92 = ((13 : Nat) : Int) := fun U => z_len_n (n := 13) (by decide)
  refine zk_new (pc := 98) (c := 169 + 4 * q) (nf := 3) zr_25_98 (by unfold z_nx; rw [h00]; rfl) ⟨z_kd_q0 q, by decide⟩ (by decide) (by decide) ?_
  rw [h00]
  refine ze_dup (pc := 101) zr_25_101 rfl ?_
  refine ze_aload_n (pc := 102) zr_25_102 rfl ?_
  refine ze_getfield (pc := 103) (v := .inr (.inr 90)) zr_25_103 (by decide) rfl ?_
  refine ze_aload_n (pc := 106) zr_25_106 rfl ?_
  refine ze_getfield (pc := 107) (v := .inl (s : Int)) zr_25_107 (by decide) (by show Sum.inl (z_up V 0 0 _ 89 3) = _; rw [z_up_cell (by decide), h3]) ?_
  have e0 : z_up V 0 0 (((169 + 4 * q : Nat) : Int) + 1) 0 0 = ((169 + 4 * q + 1 : Nat) : Int) := by rw [zUp_s]; rfl
  have e1 : ∀ k, ¬ k = 0 → z_up V 0 0 (((169 + 4 * q : Nat) : Int) + 1) 0 k = V 0 k := fun k hk => zUp_o (by omega)
  have e2 : ∀ x, ¬ x = 0 → z_up V 0 0 (((169 + 4 * q : Nat) : Int) + 1) x = V x := fun x hx => z_up_cell hx
  generalize z_up V 0 0 (((169 + 4 * q : Nat) : Int) + 1) = U at e0 e1 e2 ⊢
  refine zq_callS3 (pc := 110) (as := [.inr (.inr 90), .inl (s : Int)]) (r := [.inr (.inr (169 + 4 * q)), .inr (.inr (169 + 4 * q))]) (kc2 := 2) (ks2 := 403) (G := fun z W => z = ((169 + 4 * q + 1 : Nat) : Int) ∧ zCpA U W 90 (169 + 4 * q + 1) s) zr_25_110 rfl rfl rfl rfl ⟨rfl, rfl⟩ ⟨rfl, rfl, rfl⟩ (sp258 (d := d) (a := 90) (c := 169 + 4 * q + 1) ⟨by decide, by decide⟩ (by omega) (l90 U) (by decide) hs hs e0 (by omega) (z_kd_q1 (by omega)) (fun W hW => ⟨rfl, hW⟩)) (fun z W hW => ?_)
  obtain ⟨rfl, w1, w2, w3, w4, w5⟩ := hW
  rw [Int.toNat_natCast]
  refine ze_aload_n (pc := 113) zr_25_113 rfl ?_
  refine ze_getfield (pc := 114) (v := .inr (.inr 91)) zr_25_114 (by decide) rfl ?_
  refine ze_aload_n (pc := 117) zr_25_117 rfl ?_
  refine ze_getfield (pc := 118) (v := .inl (s : Int)) zr_25_118 (by decide) (by show Sum.inl (W 89 3) = _; rw [w4 89 (by omega) (by omega), e2 89 (by decide), h3]) ?_
  refine zq_callS3 (pc := 121) (as := [.inr (.inr 91), .inl (s : Int)]) (r := [.inr (.inr (169 + 4 * q + 1)), .inr (.inr (169 + 4 * q)), .inr (.inr (169 + 4 * q))]) (kc2 := 3) (ks2 := 803) (G := fun z X => z = ((169 + 4 * q + 2 : Nat) : Int) ∧ zCpA W X 91 (169 + 4 * q + 2) s) zr_25_121 rfl rfl rfl rfl ⟨rfl, rfl⟩ ⟨rfl, rfl, rfl⟩ (sp258 (d := d) (a := 91) (c := 169 + 4 * q + 2) ⟨by decide, by decide⟩ (by omega) (l91 W) (by decide) hs hs (by rw [w1]) (by omega) (z_kd_q1 (by omega)) (fun W hW => ⟨rfl, hW⟩)) (fun z X hX => ?_)
  obtain ⟨rfl, x1, x2, x3, x4, x5⟩ := hX
  rw [Int.toNat_natCast]
  refine ze_aload_n (pc := 124) zr_25_124 rfl ?_
  refine ze_getfield (pc := 125) (v := .inr (.inr 92)) zr_25_125 (by decide) rfl ?_
  refine ze_iload_n (pc := 128) zr_25_128 rfl ?_
  refine ze_iconst (pc := 129) zr_25_129 (by decide) ?_
  refine ze_iadd (pc := 130) zr_25_130 ?_
  rw [z_add_e (by omega), show (m : Int) + 2 = ((m + 2 : Nat) : Int) by omega]
  refine zq_callS3 (pc := 131) (as := [.inr (.inr 92), .inl ((m + 2 : Nat) : Int)]) (r := [.inr (.inr (169 + 4 * q + 2)), .inr (.inr (169 + 4 * q + 1)), .inr (.inr (169 + 4 * q)), .inr (.inr (169 + 4 * q))]) (kc2 := 4) (ks2 := 1203) (G := fun z Y => z = ((169 + 4 * q + 3 : Nat) : Int) ∧ zCpA X Y 92 (169 + 4 * q + 3) (m + 2)) zr_25_131 rfl rfl rfl rfl ⟨rfl, rfl⟩ ⟨rfl, rfl, rfl⟩ (sp258 (d := d) (a := 92) (c := 169 + 4 * q + 3) ⟨by decide, by decide⟩ (by omega) (l92 X) (by decide) (by omega) (by omega) (by rw [x1]) (by omega) (z_kd_q1 (by omega)) (fun W hW => ⟨rfl, hW⟩)) (fun z Y hY => ?_)
  obtain ⟨rfl, y1, y2, y3, y4, y5⟩ := hY
  rw [Int.toNat_natCast]
  refine zq_callI0 (pc := 134) (as := [.inr (.inr (169 + 4 * q)), .inr (.inr (169 + 4 * q + 1)), .inr (.inr (169 + 4 * q + 2)), .inr (.inr (169 + 4 * q + 3))]) (r := [.inr (.inr (169 + 4 * q))]) (kc2 := 4) (ks2 := 1203) (G := fun _ Z => Z = z_up (z_up (z_up Y (169 + 4 * q) 0 ((169 + 4 * q + 1 : Nat) : Int)) (169 + 4 * q) 1 ((169 + 4 * q + 2 : Nat) : Int)) (169 + 4 * q) 2 ((169 + 4 * q + 3 : Nat) : Int)) zr_25_134 rfl ⟨by omega, by omega⟩ rfl rfl rfl rfl ⟨rfl, rfl⟩ rfl (sp23 (d := d) (by omega) (z_kd_q0 q) rfl) (fun z Z hZ => ?_)
  refine ze_aret (pc := 137) zr_25_137 ⟨rfl, by omega⟩ (h Z ?_)
  have z1 : ∀ x, ¬ x = 169 + 4 * q → Z x = Y x := fun x hx => by rw [hZ, z_up_cell hx, z_up_cell hx, z_up_cell hx]
  refine ⟨by rw [z1 0 (by omega), y1], ?_, ?_, by rw [z1 0 (by omega), y2], fun k k1 k2 => ?_, fun x k1 k2 => ?_, ?_, ?_, ?_, fun j hj => ⟨?_, ?_⟩, fun j hj => ?_⟩
  · rw [z1 0 (by omega), y3 _ (by omega) (by omega), x3 _ (by omega) (by omega), w2]
  · rw [z1 0 (by omega), y3 _ (by omega) (by omega), x2]
  · rw [z1 0 (by omega), y3 k k1 (by omega), x3 k k1 (by omega), w3 k k1 (by omega), e1 k k1]
  · rw [z1 x (by omega), y4 x k1 (by omega), x4 x k1 (by omega), w4 x k1 (by omega), e2 x k1]
  · rw [hZ, zUp_o (by omega), zUp_o (by omega), zUp_s]; rfl
  · rw [hZ, zUp_o (by omega), zUp_s]; rfl
  · rw [hZ, zUp_s]; rfl
  · rw [z1 _ (by omega), y4 _ (by omega) (by omega), x4 _ (by omega) (by omega), w5 j hj, e2 90 (by decide)]
  · rw [z1 _ (by omega), y4 _ (by omega) (by omega), x5 j hj, w4 91 (by omega) (by omega), e2 91 (by decide)]
  · rw [z1 _ (by omega), y5 j hj, x4 92 (by omega) (by omega), w4 92 (by omega) (by omega), e2 92 (by decide)]
