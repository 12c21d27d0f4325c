theorem z_ea_args {w : z_Wd} (hw : z_WV w) : ∀ (as : List z_V) (off k : Nat) (v : z_V), z_at (z_ea as) k = some v → (off + k, z_enc w v) ∈ lv_args off (as.map (z_enc w))
  | [], _, _, _, h => by cases h
  | v0 :: t, off, k, v, h => by
    cases hv : z_is2 v0 with
    | false =>
      have e : z_ea (v0 :: t) = some v0 :: z_ea t := by simp only [z_ea, hv, cond_false]
      rw [e] at h
      have hc : ¬ (z_enc w v0).category = 2 := by rw [z_cat1 hw hv]; decide
      simp only [List.map_cons, lv_args, hc, if_false]
      cases k with
      | zero =>
        have h' : some v0 = some v := h
        cases h'
        exact List.mem_cons_self
      | succ k =>
        have := z_ea_args hw t (off + 1) k v h
        rw [show off + (k + 1) = off + 1 + k by omega]
        exact List.mem_cons_of_mem _ this
    | true =>
      have e : z_ea (v0 :: t) = some v0 :: none :: z_ea t := by simp only [z_ea, hv, cond_true]
      rw [e] at h
      have hc : (z_enc w v0).category = 2 := z_cat2 hv
      simp only [List.map_cons, lv_args, hc, if_true]
      match k, h with
      | 0, h =>
        have h' : some v0 = some v := h
        cases h'
        exact List.mem_cons_self
      | 1, h => cases h
      | k + 2, h =>
        have := z_ea_args hw t (off + 2) k v h
        rw [show off + (k + 2) = off + 2 + k by omega]
        exact List.mem_cons_of_mem _ this
theorem z_at_rep : ∀ (n k : Nat) (v : z_V), ¬ z_at (List.replicate n none) k = some v
  | 0, _, _, h => by cases h
  | n + 1, 0, _, h => by cases h
  | n + 1, k + 1, v, h => z_at_rep n k v h
theorem z_at_app : ∀ (l : z_L) (n k : Nat) (v : z_V), z_at (l ++ List.replicate n none) k = some v → z_at l k = some v
  | [], n, k, v, h => (z_at_rep n k v h).elim
  | _ :: t, n, 0, v, h => h
  | _ :: t, n, k + 1, v, h => z_at_app t n k v h
theorem z_ea_len {w : z_Wd} (hw : z_WV w) : ∀ as : List z_V, (lg_sl (as.map (z_enc w))).length = (z_ea as).length
  | [] => rfl
  | v0 :: t => by
    have ih := z_ea_len hw t
    unfold lg_sl at ih ⊢
    cases hv : z_is2 v0 with
    | false =>
      have hc : ¬ (z_enc w v0).category = 2 := by rw [z_cat1 hw hv]; decide
      simp only [List.map_cons, List.flatMap_cons, hc, if_false, z_ea, hv, cond_false, List.length_append, List.length_cons, List.length_nil, ih]
      omega
    | true =>
      have hc : (z_enc w v0).category = 2 := z_cat2 hv
      simp only [List.map_cons, List.flatMap_cons, hc, if_true, z_ea, hv, cond_true, List.length_append, List.length_cons, List.length_nil, ih]
      omega
theorem z_ent_LR {w : z_Wd} (hw : z_WV w) {as : List z_V} {n : Nat} (h : (z_ea as).length ≤ n) {LS : Array Slot} (hl : lv_has LS n (lv_args 0 (as.map (z_enc w)))) : z_LR w LS (z_ent as n) n := by
  refine ⟨hl.1, hl.2.1, by unfold z_ent; rw [List.length_append, List.length_replicate]; omega, fun k v hk => ?_⟩
  have h1 := z_ea_args hw as 0 k v (z_at_app _ _ _ _ hk)
  rw [Nat.zero_add] at h1
  exact hl.2.2 _ h1
theorem z_ent_ok {V : z_M} {as : List z_V} {n : Nat} (h : ∀ v ∈ as, z_okv V v) : ∀ k v, z_at (z_ent as n) k = some v → z_okv V v := by
  have mem : ∀ (as : List z_V) (k : Nat) (v : z_V), z_at (z_ea as) k = some v → v ∈ as := by
    intro as
    induction as with
    | nil => intro k v h; cases h
    | cons v0 t ih =>
      intro k v h
      cases hv : z_is2 v0 with
      | false =>
        have e : z_ea (v0 :: t) = some v0 :: z_ea t := by simp only [z_ea, hv, cond_false]
        rw [e] at h
        cases k with
        | zero => have h' : some v0 = some v := h; cases h'; exact List.mem_cons_self
        | succ k => exact List.mem_cons_of_mem _ (ih k v h)
      | true =>
        have e : z_ea (v0 :: t) = some v0 :: none :: z_ea t := by simp only [z_ea, hv, cond_true]
        rw [e] at h
        match k, h with
        | 0, h => have h' : some v0 = some v := h; cases h'; exact List.mem_cons_self
        | 1, h => cases h
        | k + 2, h => exact List.mem_cons_of_mem _ (ih k v h)
  exact fun k v hk => h v (mem as k v (z_at_app _ _ _ _ hk))
theorem z_nbyte {z : Int} (h : -128 ≤ z ∧ z < 128) : narrow .byte (.int (Int32.ofInt z)) = .int (Int32.ofInt z) := by
  show Value.int _ = _
  congr 1
  apply Int32.toInt_inj.mp
  rw [Int8.toInt_toInt32, z_t32 (by omega) (by omega)]
  show ((Int32.ofInt z).toInt8).toInt = z
  rw [Int32.toInt_toInt8, z_t32 (by omega) (by omega)]
  simp only [Int.bmod]
  omega
theorem z_nchar {z : Int} (h : 0 ≤ z ∧ z < 65536) : narrow .char (.int (Int32.ofInt z)) = .int (Int32.ofInt z) := by
  have e : Int32.ofInt z = nI z.toNat := by
    unfold nI
    rw [← Int32.ofInt_eq_ofNat]
    congr 1
    omega
  rw [e]
  exact (pk_charN (q := z.toNat) (by omega)).1
theorem z_rtc_at {j : Nat} (h : z_rtc j = true) : (z_rk j = 0 → z_rt j = none) ∧ (z_rk j = 1 → z_rt j = some .int) ∧ (z_rk j = 2 → z_rt j = some .long) ∧ (z_rk j = 3 → (∃ n, z_rt j = some (.object n)) ∨ ∃ t, z_rt j = some (.array t)) ∧ (z_rk j = 4 → z_rt j = some .boolean) ∧ (z_rk j = 5 → z_rt j = some .char) ∧ (z_rk j = 6 → z_rt j = some .byte) := by
  unfold z_rtc at h
  split at h <;> rename_i h1 h2 <;> first | (rw [h1, h2]; simp) | (cases h)
theorem z_switch {p : Program} {l : Launch} {e : Env} {R : Room} {s : State} {m : MethodId} {args : Array Value} {below : List Frame} {meth : Method} {c : Code} {QQ : State → Prop} {w : z_Wd} {i : Nat} {n0 : Int} (pc : Nat) (ls : z_L) (st : List z_V) (kc ks : Nat) (V : z_M) (hG : z_Gr V) (h : z_WP p l e R s m args below meth c QQ w i n0 true pc ls st kc ks V) : z_WP p l e R s m args below meth c QQ w i n0 false pc ls st kc ks V :=
  fun H locs LS hF => h H locs LS ⟨⟨hF.1.1, hF.1.2.1, hF.1.2.2.1, hF.1.2.2.2.1, hF.1.2.2.2.2.1, fun _ => hG⟩, hF.2⟩
/-- the small machine's runs are the machine's -/
theorem z_sound (l : Launch) (w : z_Wd) (hw : z_WV w) : ∀ d, z_IH (z_MS d) l w d
  | 0 => fun _ _ _ _ _ h => h.elim
  | d + 1 => fun j md as V Q h hok h0 h1 hlen => by
    obtain ⟨d1, d2, d3, d4, d5, d6, d7⟩ := z_dec_at h1
    obtain ⟨t0, t1, t2, t3, t4, t5, t6⟩ := z_rtc_at d4
    refine Met.ofW (cc := z_by j) (maxL := z_ml j) (ret := z_rt j) d2 rfl ?_
    intro p e s m args below meth c s₁ B hml hv
    obtain ⟨hargs, hHR, hZS, hTB⟩ := hv
    subst hargs
    have hown : s.vm.findClass (z_own j) = some m.cls := findClass_of_methodNamed B.named
    have hname : meth.name = (z_my j).name := (name_of_methodNamed B.named B.method).1
    have hret := B.returns
    have hlocks := B.notSynchronized
    have hlv := lv_entry (as.map (z_enc w)) (n := z_ml j) (by rw [z_ea_len hw]; exact hlen)
    rw [lg_entry_eq]
    generalize (lg_sl (as.map (z_enc w)) ++ List.replicate (z_ml j - (lg_sl (as.map (z_enc w))).length) Slot.unset).toArray = LS at hlv ⊢
    have hFc : z_Fc w s j (V 0 0) md (z_ent as (z_ml j)) [] 0 0 V s.heap [] LS := ⟨hHR, hZS, z_ent_LR hw hlen hlv, fun v hv => (by cases hv), z_ent_ok hok, Nat.zero_le _, Nat.zero_le _, va_S.rf, Int.le_refl _⟩
    have hHRmd : ∀ {md' : Bool} {V' : z_M} {H : Heap}, z_HR w md' V' H → (md = true → md' = true) → z_HR w md V' H := fun h q => ⟨h.1, h.2.1, h.2.2.1, h.2.2.2.1, h.2.2.2.2.1, fun z => h.2.2.2.2.2 (q z)⟩
    have hQc : ∀ {md' : Bool} {ls : z_L} {st : List z_V} {kc ks : Nat} {V' : z_M} {H : Heap} {locs : List Loc} {LS : Array Slot} {v : Option Value} {z : Int}, (md = true → md' = true) → z_Fc w s j (V 0 0) md' ls st kc ks V' H locs LS → v.toList = (z_push (z_rk j) z []).map (z_enc w) → (∀ x ∈ z_push (z_rk j) z [], z_okv V' x) → Q z V' → ∀ t : State, t.heap = H → z_Qc w md V j Q (as.map (z_enc w)).toArray s (.returned v) t := by
      intro md' ls st kc ks V' H locs LS v z hm hF e1 e2 hq t ht
      exact ⟨v, z, V', rfl, e1, e2, hq, by rw [ht]; exact hHRmd hF.1 hm, hF.2.2.2.2.2.2.2.2, hF.2.2.2.2.2.2.2.1.F ht⟩
    refine h (fun md' pc ls st kc ks V' => (md = true → md' = true) → z_WP p l e (headSpec (z_wsM j) (z_rm (d + 1) j)).room s m (as.map (z_enc w)).toArray below meth c (MQ below (z_Qc w md V j Q) (as.map (z_enc w)).toArray s (z_al j).1 (z_al j).2 (fun q => z_base w ≤ q)) w j (V 0 0) md' pc ls st kc ks V') ?_ ?_ id s.heap [] LS hFc
    · intro md' pc ls st kc ks V' hst hm
      refine z_sound1 (C := z_MS d) (d := d) (Q := fun z V' => Q z V') hw hTB B.exec B.bytes hml hown (fun q => hname.trans q) ⟨Nat.le_refl _, Nat.le_refl _⟩ ⟨Nat.le_refl _, Nat.le_refl _⟩ (z_sound l w hw d) ?_ ?_ ?_ ?_ (z_Stp_m (z_MS.mono d) (fun _ _ => id) md' (fun _ _ _ _ _ _ k => k hm) _ _ _ _ _ _ hst)
      · intro pc ls LS kc ks z V' H locs hd hz hF
        have hok0 : z_okv V' (.inl z) := z_ok_hd hF.2.2.2.1
        have hrk : (z_rk j = 1 ∨ z_rk j = 4 ∨ z_rk j = 5 ∨ z_rk j = 6) ∧ Q z V' ∧ (z_rk j = 4 → z = 0 ∨ z = 1) ∧ (z_rk j = 5 → 0 ≤ z ∧ z < 65536) ∧ (z_rk j = 6 → -128 ≤ z ∧ z < 128) := by
          unfold z_ret at hz
          cases e1 : Nat.beq (z_rk j) 1 with
          | true => rw [e1] at hz; have := Nat.eq_of_beq_eq_true e1; exact ⟨Or.inl this, hz, fun q => by omega, fun q => by omega, fun q => by omega⟩
          | false =>
            rw [e1] at hz
            dsimp only [cond_false] at hz
            cases e4 : Nat.beq (z_rk j) 4 with
            | true => rw [e4] at hz; have := Nat.eq_of_beq_eq_true e4; obtain ⟨g1, g2⟩ := z_g_e hz; exact ⟨Or.inr (Or.inl this), g2, fun _ => g1, fun q => by omega, fun q => by omega⟩
            | false =>
              rw [e4] at hz
              dsimp only [cond_false] at hz
              cases e5 : Nat.beq (z_rk j) 5 with
              | true => rw [e5] at hz; have := Nat.eq_of_beq_eq_true e5; obtain ⟨g1, g2⟩ := z_g_e hz; exact ⟨Or.inr (Or.inr (Or.inl this)), g2, fun q => by omega, fun _ => g1, fun q => by omega⟩
              | false =>
                rw [e5] at hz
                dsimp only [cond_false] at hz
                cases e6 : Nat.beq (z_rk j) 6 with
                | true => rw [e6] at hz; have := Nat.eq_of_beq_eq_true e6; obtain ⟨g1, g2⟩ := z_g_e hz; exact ⟨Or.inr (Or.inr (Or.inr this)), g2, fun q => by omega, fun q => by omega, fun _ => g1⟩
                | false => rw [e6] at hz; exact hz.elim
        obtain ⟨hr, hq, h4, h5, h6⟩ := hrk
        have epush : z_push (z_rk j) z [] = [.inl z] := by rcases hr with q | q | q | q <;> rw [q] <;> rfl
        have fin := hQc (v := some (.int (Int32.ofInt z))) (z := z) hm hF (by rw [epush]; rfl) (by rw [epush]; exact z_ok_cons hok0 (fun _ q => by cases q)) hq
        refine W.widen hF.2.2.2.2.2.1 hF.2.2.2.2.2.2.1 ?_
        rcases hr with q | q | q | q
        · exact W.iret B.exec B.bytes (hret.trans (t1 q)) (fun t ht _ => fin t ht) hF.2.2.2.2.2.2.2.1.2.2 hd hlocks
        · exact W.zret B.exec B.bytes (hret.trans (t4 q)) (by rcases h4 q with rfl | rfl <;> rfl) (fun t ht _ => fin t ht) hF.2.2.2.2.2.2.2.1.2.2 hd hlocks
        · exact W.zret B.exec B.bytes (hret.trans (t5 q)) (z_nchar (h5 q)) (fun t ht _ => fin t ht) hF.2.2.2.2.2.2.2.1.2.2 hd hlocks
        · exact W.zret B.exec B.bytes (hret.trans (t6 q)) (z_nbyte (h6 q)) (fun t ht _ => fin t ht) hF.2.2.2.2.2.2.2.1.2.2 hd hlocks
      · intro pc ls LS kc ks z V' H locs hd hr hq hF
        have hok0 : z_okv V' (.inr (.inl z)) := z_ok_hd hF.2.2.2.1
        have epush : z_push (z_rk j) z [] = [.inr (.inl z)] := by rw [hr]; rfl
        have fin := hQc (v := some (.long (Int64.ofInt z))) (z := z) hm hF (by rw [epush]; rfl) (by rw [epush]; exact z_ok_cons hok0 (fun _ q => by cases q)) hq
        refine W.widen hF.2.2.2.2.2.1 hF.2.2.2.2.2.2.1 ?_
        exact W.lret B.exec B.bytes (hret.trans (t2 hr)) (fun t ht _ => fin t ht) hF.2.2.2.2.2.2.2.1.2.2 hd hlocks
      · intro pc ls LS kc ks a V' H locs hd hr hq hF
        have hok0 : z_okv V' (.inr (.inr a)) := z_ok_hd hF.2.2.2.1
        have epush : z_push (z_rk j) (a : Int) [] = [.inr (.inr a)] := by rw [hr]; rfl
        have fin := hQc (v := some (z_rv w a)) (z := (a : Int)) hm hF (by rw [epush]; rfl) (by rw [epush]; exact z_ok_cons hok0 (fun _ q => by cases q)) hq
        refine W.widen hF.2.2.2.2.2.1 hF.2.2.2.2.2.2.1 ?_
        have hrt : ∃ rt, z_rt j = some rt ∧ ((∃ n, rt = .object n) ∨ ∃ t, rt = .array t) := by
          rcases t3 hr with ⟨n, q⟩ | ⟨t, q⟩
          · exact ⟨_, q, Or.inl ⟨n, rfl⟩⟩
          · exact ⟨_, q, Or.inr ⟨t, rfl⟩⟩
        obtain ⟨rt, hrt1, hrt2⟩ := hrt
        exact W.aret B.exec B.bytes (hret.trans hrt1) hrt2 (z_rv_cases hw a) (fun t ht _ => fin t ht) hF.2.2.2.2.2.2.2.1.2.2 hd hlocks
      · intro pc ls LS kc ks V' H locs hd hr hq hF
        have epush : z_push (z_rk j) 0 [] = [] := by rw [hr]; rfl
        have fin := hQc (v := none) (z := 0) hm hF (by rw [epush]; rfl) (by rw [epush]; exact fun _ q => by cases q) hq
        refine W.widen hF.2.2.2.2.2.1 hF.2.2.2.2.2.2.1 ?_
        exact W.vret B.exec B.bytes (hret.trans (t0 hr)) (fun t ht _ => fin t ht) hF.2.2.2.2.2.2.2.1.2.2 hd hlocks
    · intro pc ls st kc ks V' hG k hm
      exact z_switch pc ls st kc ks V' hG (k (fun _ => rfl))
