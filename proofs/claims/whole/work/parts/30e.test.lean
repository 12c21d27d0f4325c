/-- a guard and a fork that say nothing of deciding -/
def zGu (c q : Prop) : Prop := c ∧ q
def zI (c A B : Prop) : Prop := (c → A) ∧ (¬ c → B)
theorem z_gk {c q P : Prop} (h : zGu c q) (k : c → q → P) : P := k h.1 h.2
theorem z_gp {c q : Prop} (h : c) (k : q) : zGu c q := ⟨h, k⟩
theorem z_toif {c A B : Prop} {i : Decidable c} (h : zI c A B) : @ite Prop c i A B := by
  by_cases hc : c
  · rw [if_pos hc]; exact h.1 hc
  · rw [if_neg hc]; exact h.2 hc
theorem z_ifp {c A B : Prop} (h : c) (k : A) : zI c A B := ⟨fun _ => k, fun n => absurd h n⟩
theorem z_ifn {c A B : Prop} (h : ¬ c) (k : B) : zI c A B := ⟨fun n => absurd n h, fun _ => k⟩
theorem z_ifc {c A B : Prop} (h1 : c → A) (h2 : ¬ c → B) : zI c A B := ⟨h1, h2⟩
/-! constants of the pool; a test of a chain -/
section ZG
variable {d i : Nat} {Q : Int → z_M → Prop} {md : Bool} {pc : Nat} {ls : z_L} {st r : List z_V} {kc ks : Nat} {V : z_M} {kk x y : Nat} {ps : List Nat}
theorem ze_ldc {k : _} {z : Int} (hco : z_co i pc = (.ldc k, kk, x, y, ps)) (e : Nat.beq y 2 = false) (hx : x < 2147483648) (hz : cond (Nat.beq y 0) (x : Int) (-(x : Int)) = z) (h : z_Ex (z_MS d) i Q md (pc + 2) ls (.inl z :: st) kc ks V) : z_Ex (z_MS d) i Q md pc ls st kc ks V :=
  ze_step (by unfold z_Stp; rw [hco]; dsimp only; rw [e]; subst hz; exact z_g_p hx h)
theorem ze_ldcS {k : _} (hco : z_co i pc = (.ldc k, kk, x, y, ps)) (e : Nat.beq y 2 = true) (hx : 7 < x ∧ x < 22) (h : z_Ex (z_MS d) i Q md (pc + 2) ls (.inr (.inr x) :: st) kc ks V) : z_Ex (z_MS d) i Q md pc ls st kc ks V :=
  ze_step (by unfold z_Stp; rw [hco]; dsimp only; rw [e]; exact z_g_p hx h)
theorem ze_ldcw {k : _} {z : Int} (hco : z_co i pc = (.ldc_w k, kk, x, y, ps)) (hx : x < 2147483648) (hz : cond (Nat.beq y 0) (x : Int) (-(x : Int)) = z) (h : z_Ex (z_MS d) i Q md (pc + 3) ls (.inl z :: st) kc ks V) : z_Ex (z_MS d) i Q md pc ls st kc ks V :=
  ze_step (by unfold z_Stp; rw [hco]; dsimp only; subst hz; exact z_g_p hx h)
theorem ze_ldc2 {k : _} {z : Int} (hco : z_co i pc = (.ldc2_w k, kk, x, y, ps)) (hx : x < 9223372036854775808) (hz : cond (Nat.beq y 0) (x : Int) (-(x : Int)) = z) (h : z_Ex (z_MS d) i Q md (pc + 3) ls (.inr (.inl z) :: st) kc ks V) : z_Ex (z_MS d) i Q md pc ls st kc ks V :=
  ze_step (by unfold z_Stp; rw [hco]; dsimp only; subst hz; exact z_g_p hx h)
end ZG
theorem zt14 {d : Nat} {Q : Int → z_M → Prop} (a0 : Int) {V : z_M} (h : let W1 := z_up V 134 2 (z_rem (z_add (z_mul (V 134 2) 1103) 12345) 1000003); if 0 < a0 then (z_g (¬ a0 = 0) (Q (z_rem (W1 134 2) a0) W1)) else (Q 0 W1)) : z_MS (d + 1) 14 true [.inr (.inr 134), .inl a0] V Q := by
  show z_Ex (z_MS d) 14 Q true 0 [some (.inr (.inr 134)), some (.inl a0)] [] 0 0 V
  refine ze_aload_n zr_14_0 rfl ?_
  refine ze_aload_n (pc := 1) zr_14_1 rfl ?_
  refine ze_getfield (pc := 2) zr_14_2 rfl rfl ?_
  refine ze_sipush (pc := 5) zr_14_5 (by decide) ?_
  refine ze_imul (pc := 8) zr_14_8 ?_
  refine ze_sipush (pc := 9) zr_14_9 (by decide) ?_
  refine ze_iadd (pc := 12) zr_14_12 ?_
  refine ze_ldc (pc := 13) (z := 1000003) zr_14_13 rfl (by decide) rfl ?_
  refine ze_irem (pc := 15) zr_14_15 (by decide) ?_
  refine ze_putI (pc := 16) zr_14_16 (by decide) rfl ?_
  refine ze_iload_n (pc := 19) zr_14_19 rfl ?_
  refine ze_if_le (pc := 20) (t := 32) zr_14_20 (by decide) (fun hc => ?_) (fun hc => ?_)
  · replace h := (if_pos hc) ▸ h
    refine ze_aload_n (pc := 23) zr_14_23 rfl ?_
    refine ze_getfield (pc := 24) zr_14_24 rfl rfl ?_
    refine ze_iload_n (pc := 27) zr_14_27 rfl ?_
    obtain ⟨g, h⟩ := z_g_e h
    refine ze_irem (pc := 28) zr_14_28 g ?_
    refine ze_goto (pc := 29) (t := 33) zr_14_29 (by decide) ?_
    refine ze_iret zr_14_33 ?_
    exact h
  · replace h := (if_neg hc) ▸ h
    refine ze_iconst (pc := 32) zr_14_32 (by decide) ?_
    refine ze_iret (pc := 33) zr_14_33 ?_
    exact h
