/-! the makers' program is sound -/
section ZM
variable {d i : Nat} {Q : Int → z_M → Prop} {md : Bool} {pc : Nat} {ls : z_L} {st r : List z_V} {kc ks : Nat} {V : z_M} {kk x y : Nat} {ps : List Nat}
theorem zk_newA {t : _} {c : Nat} {n : Int} (hco : z_co i pc = (.newarray t, kk, x, y, ps)) (hc : z_nx V = c) (hk : z_kd c = z_atk t) (hn : 0 ≤ n ∧ n < 20000 ∧ (z_LN c = 0 ∨ z_LN c = n.toNat + 1)) (hb : kc + 1 ≤ (z_al i).1 ∧ ks + n.toNat ≤ (z_al i).2) (h : z_Ex (z_MS d) i Q md (pc + 2) ls (.inr (.inr c) :: r) (kc + 1) (ks + n.toNat) (z_mk V n)) : z_Ex (z_MS d) i Q md pc ls (.inl n :: r) kc ks V := ze_step (by subst hc; unfold z_Stp; rw [hco]; dsimp only; unfold z_i1; dsimp only; exact z_g_p hk (z_g_p hn (z_g_p hb h)))
theorem zk_anewA {k : _} {c : Nat} {n : Int} (hco : z_co i pc = (.anewarray k, kk, x, y, ps)) (hc : z_nx V = c) (hk : z_kd c = x ∧ (x = 106 ∨ x = 107)) (hn : 0 ≤ n ∧ n < 20000 ∧ (z_LN c = 0 ∨ z_LN c = n.toNat + 1)) (hb : kc + 1 ≤ (z_al i).1 ∧ ks + n.toNat ≤ (z_al i).2) (h : z_Ex (z_MS d) i Q md (pc + 3) ls (.inr (.inr c) :: r) (kc + 1) (ks + n.toNat) (z_mk V n)) : z_Ex (z_MS d) i Q md pc ls (.inl n :: r) kc ks V := ze_step (by subst hc; unfold z_Stp; rw [hco]; dsimp only; unfold z_i1; dsimp only; exact z_g_p hk (z_g_p hn (z_g_p hb h)))
theorem zk_mna {kx : _} {dims : _} {c : Nat} {n k : Int} (hco : z_co i pc = (.multianewarray kx dims, kk, x, y, ps)) (hc : z_nx V = c) (hd : dims = 2 ∧ 0 ≤ n ∧ n < 20 ∧ 0 ≤ k ∧ k < 20000) (hk : z_kd c = 105 ∧ z_LN c = n.toNat + 1 ∧ (List.range n.toNat).all (fun q => Nat.beq (z_kd (c + 1 + q)) 101 && Nat.beq (z_LN (c + 1 + q)) (k.toNat + 1)) = true) (hb : kc + (1 + n.toNat) ≤ (z_al i).1 ∧ ks + (n.toNat + n.toNat * k.toNat) ≤ (z_al i).2) (h : z_Ex (z_MS d) i Q false (pc + 4) ls (.inr (.inr c) :: r) (kc + (1 + n.toNat)) (ks + (n.toNat + n.toNat * k.toNat)) (z_mna V n.toNat k.toNat)) : z_Ex (z_MS d) i Q false pc ls (.inl k :: .inl n :: r) kc ks V := ze_step (by subst hc; unfold z_Stp; rw [hco]; dsimp only; unfold z_i2; dsimp only; exact z_g_p ⟨hd.1, hd.2.1, hd.2.2.1, hd.2.2.2.1, hd.2.2.2.2, rfl⟩ (z_g_p hk (z_g_p hb h)))
theorem zk_aastore {a v : Nat} {j : Int} (hco : z_co i pc = (.aastore, kk, x, y, ps)) (hk : (z_kd a = 106 ∨ z_kd a = 107) ∧ 36 ≤ a) (hv : v = 0 ∨ (36 ≤ v ∧ z_kd v = cond (Nat.beq (z_kd a) 106) 5 11)) (hj : 0 ≤ j ∧ j < z_len' V a) (h : z_Ex (z_MS d) i Q false (pc + 1) ls r kc ks (z_up V a j.toNat v)) : z_Ex (z_MS d) i Q false pc ls (.inr (.inr v) :: .inl j :: .inr (.inr a) :: r) kc ks V := ze_step (by unfold z_Stp; rw [hco]; dsimp only; unfold z_avr; dsimp only; exact z_g_p hk (z_g_p hv (z_g_p (fun q => by cases q) (z_g_p hj h))))
theorem zk_len {a : Nat} (h : ¬ z_LN a = 0) : z_len' V a = ((z_LN a - 1 : Nat) : Int) := by
  obtain ⟨m, hm⟩ : ∃ m, z_LN a = m + 1 := ⟨z_LN a - 1, by omega⟩
  rw [z_len_n hm, hm]
  rfl
end ZM
theorem xU_nx {V0 : z_M} {l : List xOp} {nx : Nat} (h : xU V0 l 0 0 = (nx : Int)) : z_nx (xU V0 l) = nx := by unfold z_nx; rw [h]; rfl
theorem xU_mna {V : z_M} {nx n k : Nat} (h : V 0 0 = (nx : Int)) : z_mna V n k = xMna nx n k V := by
  have hx : z_nx V = nx := by unfold z_nx; rw [h]; rfl
  unfold z_mna xMna
  rw [hx, h]
set_option maxHeartbeats 2000000 in
theorem xrun_s {V0 : z_M} : ∀ (n d i pc : Nat) (ls : z_L) (st : List z_V) (kc ks nx : Nat) (l : List xOp) (x : Nat × Nat × Nat × List xOp) (Q : Int → z_M → Prop), n ≤ d → xrun n i pc ls st kc ks nx l = some x → xU V0 l 0 0 = (nx : Int) → (xU V0 x.2.2.2 0 0 = (x.2.2.1 : Int) → Q 0 (xU V0 x.2.2.2)) → z_Ex (z_MS d) i Q false pc ls st kc ks (xU V0 l)
  | 0, _, _, _, _, _, _, _, _, _, _, _, _, e, _, _ => nomatch e
  | n + 1, d, i, pc, ls, st, kc, ks, nx, l, w, Q, hd, e, h0, h => by
    have ih := fun pc ls st kc ks nx l e h0 => xrun_s (V0 := V0) n d i pc ls st kc ks nx l w Q (by omega) e h0 h
    unfold xrun at e
    split at e
    · rename_i k c1 c2 c3 c4 hco
      split at e
      · rename_i a ha
        exact ze_aload_n hco ha (ih _ _ _ _ _ _ _ e h0)
      · cases e
    · rename_i z c1 c2 c3 c4 hco
      split at e
      · rename_i hz
        exact ze_iconst hco hz (ih _ _ _ _ _ _ _ e h0)
      · cases e
    · rename_i z c1 c2 c3 c4 hco
      split at e
      · rename_i hz
        exact ze_bipush hco hz (ih _ _ _ _ _ _ _ e h0)
      · cases e
    · rename_i z c1 c2 c3 c4 hco
      split at e
      · rename_i hz
        exact ze_sipush hco hz (ih _ _ _ _ _ _ _ e h0)
      · cases e
    · rename_i c1 c2 c3 c4 hco
      split at e
      · exact ze_dup hco rfl (ih _ _ _ _ _ _ _ e h0)
      · cases e
    · rename_i k c1 x y c4 hco
      split at e
      · rename_i hx
        exact ze_ldc2 hco hx rfl (ih _ _ _ _ _ _ _ e h0)
      · cases e
    · rename_i k c1 x y c4 hco
      split at e
      · rename_i hx
        refine zk_new hco (xU_nx h0) hx.1 rfl hx.2 ?_
        rw [h0]
        exact ih _ _ _ _ _ _ _ e (by show z_up _ 0 0 _ 0 0 = _; rw [zUp_s]; rfl)
      · cases e
    · rename_i t c1 x y c4 hco
      split at e
      · split at e
        · rename_i hx
          refine zk_newA hco (xU_nx h0) hx.2.1 hx.2.2.1 hx.2.2.2 ?_
          unfold z_mk
          rw [xU_nx h0, h0]
          refine ih _ _ _ _ _ _ _ e ?_
          show z_up (z_up _ 0 0 _) 0 nx _ 0 0 = _
          rw [zUp_o (by omega), zUp_s]; rfl
        · cases e
      · cases e
    · rename_i t c1 x y c4 hco
      split at e
      · split at e
        · rename_i hx
          refine zk_anewA hco (xU_nx h0) hx.2.1 hx.2.2.1 hx.2.2.2 ?_
          unfold z_mk
          rw [xU_nx h0, h0]
          refine ih _ _ _ _ _ _ _ e ?_
          show z_up (z_up _ 0 0 _) 0 nx _ 0 0 = _
          rw [zUp_o (by omega), zUp_s]; rfl
        · cases e
      · cases e
    · rename_i k dims c1 x y c4 hco
      split at e
      · split at e
        · rename_i hx
          refine zk_mna hco (xU_nx h0) hx.1 hx.2.1 hx.2.2 ?_
          rw [xU_mna h0]
          refine ih _ _ _ _ _ _ _ e ?_
          show (nx : Int) + 1 + _ = _
          rfl
        · cases e
      · cases e
    · rename_i k c1 x y c4 hco
      split at e
      · split at e
        · rename_i hx
          split at e
          · rename_i n1 c hY
            exact ze_putO hco hx hY (fun q => by cases q) (ih _ _ _ _ _ _ _ e (by show z_up _ _ _ _ 0 0 = _; rw [z_up_cell (by omega)]; exact h0))
          · rename_i n1 c hY
            exact ze_putA hco hx hY (fun q => by cases q) (ih _ _ _ _ _ _ _ e (by show z_up _ _ _ _ 0 0 = _; rw [z_up_cell (by omega)]; exact h0))
          · rename_i z hY
            exact ze_putI hco hx hY (ih _ _ _ _ _ _ _ e (by show z_up _ _ _ _ 0 0 = _; rw [z_up_cell (by omega)]; exact h0))
          · cases e
        · cases e
      · cases e
    · rename_i k c1 x y c4 hco
      split at e
      · split at e
        · rename_i hx
          split at e
          · rename_i n1 hY
            split at e
            · rename_i v hv
              refine ze_getfield hco hx ?_ (ih _ _ _ _ _ _ _ e h0)
              rw [hY]
              show Sum.inr (Sum.inr (xU V0 l _ y).toNat) = _
              rw [xU_rd, hv]
              rfl
            · cases e
          · cases e
        · cases e
      · cases e
    · rename_i c1 x y c4 hco
      split at e
      · split at e
        · rename_i hx
          refine ze_iastore hco hx.1 (by rw [zk_len hx.2.1]; exact hx.2.2) rfl (ih _ _ _ _ _ _ _ e (by show z_up _ _ _ _ 0 0 = _; rw [z_up_cell (by omega)]; exact h0))
        · cases e
      · cases e
    · rename_i c1 x y c4 hco
      split at e
      · split at e
        · rename_i hx
          refine ze_lastore hco hx.1 (by rw [zk_len hx.2.1]; exact hx.2.2) rfl (ih _ _ _ _ _ _ _ e (by show z_up _ _ _ _ 0 0 = _; rw [z_up_cell (by omega)]; exact h0))
        · cases e
      · cases e
    · rename_i c1 x y c4 hco
      split at e
      · split at e
        · rename_i hx
          refine zk_aastore hco hx.1 hx.2.1 (by rw [zk_len hx.2.2.1]; exact hx.2.2.2) (ih _ _ _ _ _ _ _ e (by show z_up _ _ _ _ 0 0 = _; rw [z_up_cell (by omega)]; exact h0))
        · cases e
      · cases e
    · rename_i k c1 x y c4 hco
      split at e
      · rename_i a r
        split at e
        · rename_i hx
          split at e
          · rename_i hy
            have hx2 : x = 1000 := Nat.eq_of_beq_eq_true hx
            subst hx2
            exact zq_oinit hco hy (ih _ _ _ _ _ _ _ e h0)
          · cases e
        · rename_i hx
          split at e
          · rename_i hy
            split at e
            · rename_i k1 k2 nx2 l2 hr
              obtain ⟨⟨y1, y2, y3, y4, y5, y6, y7, y8, y9⟩, y10⟩ := hy
              obtain ⟨d, rfl⟩ : ∃ d2, d = d2 + 1 := ⟨d - 1, by omega⟩
              refine ze_callI (as := [.inr (.inr a)]) (r := r) hco (Bool.eq_false_iff.mpr hx) rfl ⟨y8, y9⟩ (by rw [y1]; simp) (by rw [y1]; rfl) (by rw [y1]; rfl) y2 ⟨y3, y4⟩ y5 y6 y10 ?_
              show z_Ex (z_MS d) x _ false 0 (z_ent [.inr (.inr a)] (z_ml x)) [] 0 0 (xU V0 l)
              refine xrun_s (V0 := V0) n d x 0 _ _ 0 0 nx l (k1, k2, nx2, l2) _ (by omega) hr h0 (fun h2 => ?_)
              unfold z_push
              rw [y7]
              exact ih _ _ _ _ _ _ _ e h2
            · cases e
          · cases e
      · cases e
    · rename_i c1 x y c4 hco
      split at e
      · split at e
        · rename_i hx
          cases e
          exact ze_vret hco hx (h h0)
        · cases e
      · cases e
    · cases e
