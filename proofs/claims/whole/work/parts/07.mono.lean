theorem z_g_m {c : Prop} [Decidable c] {q r : Prop} (h : q → r) : z_g c q → z_g c r := by unfold z_g; split; exact h; exact id
theorem z_g_p {c : Prop} [Decidable c] {q : Prop} (hc : c) (h : q) : z_g c q := by unfold z_g; rw [if_pos hc]; exact h
theorem z_g_e {c : Prop} [Decidable c] {q : Prop} (h : z_g c q) : c ∧ q := by
  unfold z_g at h
  split at h
  · exact ⟨by assumption, h⟩
  · exact h.elim
theorem z_i1_m {st : List z_V} {f g : Int → List z_V → Prop} (h : ∀ a r, f a r → g a r) : z_i1 st f → z_i1 st g := by unfold z_i1; split; exact h _ _; exact id
theorem z_i2_m {st : List z_V} {f g : Int → Int → List z_V → Prop} (h : ∀ a b r, f a b r → g a b r) : z_i2 st f → z_i2 st g := by unfold z_i2; split; exact h _ _ _; exact id
theorem z_l1_m {st : List z_V} {f g : Int → List z_V → Prop} (h : ∀ a r, f a r → g a r) : z_l1 st f → z_l1 st g := by unfold z_l1; split; exact h _ _; exact id
theorem z_l2_m {st : List z_V} {f g : Int → Int → List z_V → Prop} (h : ∀ a b r, f a b r → g a b r) : z_l2 st f → z_l2 st g := by unfold z_l2; split; exact h _ _ _; exact id
theorem z_r1_m {st : List z_V} {f g : Nat → List z_V → Prop} (h : ∀ a r, f a r → g a r) : z_r1 st f → z_r1 st g := by unfold z_r1; split; exact h _ _; exact id
theorem z_ai_m {st : List z_V} {f g : Nat → Int → List z_V → Prop} (h : ∀ a b r, f a b r → g a b r) : z_ai st f → z_ai st g := by unfold z_ai; split; exact h _ _ _; exact id
theorem z_avi_m {st : List z_V} {f g : Nat → Int → Int → List z_V → Prop} (h : ∀ a b v r, f a b v r → g a b v r) : z_avi st f → z_avi st g := by unfold z_avi; split; exact h _ _ _ _; exact id
theorem z_avl_m {st : List z_V} {f g : Nat → Int → Int → List z_V → Prop} (h : ∀ a b v r, f a b v r → g a b v r) : z_avl st f → z_avl st g := by unfold z_avl; split; exact h _ _ _ _; exact id
theorem z_avr_m {st : List z_V} {f g : Nat → Int → Nat → List z_V → Prop} (h : ∀ a b v r, f a b v r → g a b v r) : z_avr st f → z_avr st g := by unfold z_avr; split; exact h _ _ _ _; exact id
theorem z_fv_m {st : List z_V} {f g : Nat → z_V → List z_V → Prop} (h : ∀ a v r, f a v r → g a v r) : z_fv st f → z_fv st g := by unfold z_fv; split; exact h _ _ _; exact id
theorem z_cond_m {b : Bool} {q r q' r' : Prop} (h : q → q') (h2 : r → r') : cond b q r → cond b q' r' := by cases b; exact h2; exact h
theorem z_k1_m {st : List z_V} {f g : z_V → List z_V → Prop} (h : ∀ v r, f v r → g v r) : z_k1 st f → z_k1 st g := by unfold z_k1; split; exact z_cond_m id (h _ _); exact id
theorem z_k2_m {st : List z_V} {f g : z_V → z_V → List z_V → Prop} (h : ∀ v v2 r, f v v2 r → g v v2 r) : z_k2 st f → z_k2 st g := by unfold z_k2; split; exact z_cond_m id (z_cond_m id (h _ _ _)); exact id
theorem z_li_m {ls : z_L} {k : Nat} {f g : Int → Prop} (h : ∀ a, f a → g a) : z_li ls k f → z_li ls k g := by unfold z_li; split; exact h _; exact id
theorem z_ll_m {ls : z_L} {k : Nat} {f g : Int → Prop} (h : ∀ a, f a → g a) : z_ll ls k f → z_ll ls k g := by unfold z_ll; split; exact h _; exact id
theorem z_lr1_m {ls : z_L} {k : Nat} {f g : Nat → Prop} (h : ∀ a, f a → g a) : z_lr1 ls k f → z_lr1 ls k g := by unfold z_lr1; split; exact h _; exact id
theorem z_br_m {c : ClassFile.Cond} {a b : Int} {q r q' r' : Prop} (h : q → q') (h2 : r → r') : z_br c a b q r → z_br c a b q' r' := by
  unfold z_br; cases c <;> dsimp only <;> split <;> first | exact h | exact h2
theorem z_sw_m {a : Int} {f g : Int → Prop} {d d' : Prop} (h : ∀ o, f o → g o) (h2 : d → d') : ∀ (l : List Int) (lo : Int), z_sw a lo l f d → z_sw a lo l g d'
  | [], _ => h2
  | o :: t, lo => by
    unfold z_sw
    split
    · exact h _
    · exact z_sw_m h h2 t _
theorem z_to_m {pc : Nat} {off : Int} {f g : Nat → Prop} (h : ∀ t, f t → g t) : z_to pc off f → z_to pc off g := z_g_m (h _)
theorem z_wr_m {md : Bool} {ty : FieldType} {a k : Nat} {v : z_V} {f g : Int → Prop} (h : ∀ z, f z → g z) : z_wr md ty a k v f → z_wr md ty a k v g := by
  unfold z_wr; split <;> first | exact z_g_m (h _) | exact h _ | exact id
theorem z_head_m {v : List z_V} {f g : Nat → Prop} (h : ∀ a, f a → g a) : z_head v f → z_head v g := by unfold z_head; split; exact h _; exact id
theorem z_ret_m {rk : Nat} {z : Int} {q r : Prop} (h : q → r) : z_ret rk z q → z_ret rk z r := z_cond_m h (z_cond_m (z_g_m h) (z_cond_m (z_g_m h) (z_cond_m (z_g_m h) id)))
theorem z_call_m {C C' : z_C} {i j rv : Nat} {P P' : z_P} {md : Bool} {pc : Nat} {ls : z_L} {st : List z_V} {kc ks : Nat} {V : z_M} (hC : ∀ j md as V Q Q', (∀ z V', Q z V' → Q' z V') → C j md as V Q → C' j md as V Q')
    (hP : ∀ pc ls st kc ks V, P md pc ls st kc ks V → P' md pc ls st kc ks V) : z_call C i j rv P md pc ls st kc ks V → z_call C' i j rv P' md pc ls st kc ks V :=
  z_g_m (z_g_m (hC _ _ _ _ _ _ (fun _ _ => hP _ _ _ _ _ _)))
theorem z_Stp_m {C C' : z_C} {i : Nat} {Q Q' : Int → z_M → Prop} {P P' : z_P} (hC : ∀ j md as V Q Q', (∀ z V', Q z V' → Q' z V') → C j md as V Q → C' j md as V Q') (hQ : ∀ z V, Q z V → Q' z V)
    (md : Bool) (hP : ∀ pc ls st kc ks V, P md pc ls st kc ks V → P' md pc ls st kc ks V) (pc : Nat) (ls : z_L) (st : List z_V) (kc ks : Nat) (V : z_M) : z_Stp C i Q P md pc ls st kc ks V → z_Stp C' i Q' P' md pc ls st kc ks V := by
  unfold z_Stp
  cases (z_co i pc).1 <;> dsimp only <;>
    (repeat' (first
      | exact id
      | exact hP _ _ _ _ _ _
      | exact hQ _ _
      | exact z_call_m hC hP
      | refine z_g_m ?_
      | refine z_cond_m ?_ ?_
      | refine z_i1_m (fun _ _ => ?_)
      | refine z_i2_m (fun _ _ _ => ?_)
      | refine z_l1_m (fun _ _ => ?_)
      | refine z_l2_m (fun _ _ _ => ?_)
      | refine z_r1_m (fun _ _ => ?_)
      | refine z_ai_m (fun _ _ _ => ?_)
      | refine z_avi_m (fun _ _ _ _ => ?_)
      | refine z_avl_m (fun _ _ _ _ => ?_)
      | refine z_avr_m (fun _ _ _ _ => ?_)
      | refine z_fv_m (fun _ _ _ => ?_)
      | refine z_k1_m (fun _ _ => ?_)
      | refine z_k2_m (fun _ _ _ => ?_)
      | refine z_li_m (fun _ => ?_)
      | refine z_ll_m (fun _ => ?_)
      | refine z_lr1_m (fun _ => ?_)
      | refine z_to_m (fun _ => ?_)
      | refine z_br_m ?_ ?_
      | refine z_sw_m (fun _ => ?_) ?_ _ _
      | refine z_wr_m (fun _ => ?_)
      | refine z_head_m (fun _ => ?_)
      | refine z_ret_m ?_
      | split))
theorem z_Ex.step {C : z_C} {i : Nat} {Q : Int → z_M → Prop} (hC : ∀ j md as V Q Q', (∀ z V', Q z V' → Q' z V') → C j md as V Q → C j md as V Q') {md : Bool} {pc : Nat} {ls : z_L} {st : List z_V} {kc ks : Nat} {V : z_M}
    (h : z_Stp C i Q (z_Ex C i Q) md pc ls st kc ks V) : z_Ex C i Q md pc ls st kc ks V :=
  fun P h1 h2 => h1 _ _ _ _ _ _ _ (z_Stp_m hC (fun _ _ => id) _ (fun _ _ _ _ _ _ k => k P h1 h2) _ _ _ _ _ _ h)
theorem z_Ex.switch {C : z_C} {i : Nat} {Q : Int → z_M → Prop} {pc : Nat} {ls : z_L} {st : List z_V} {kc ks : Nat} {V : z_M}
    (hG : z_Gr V) (h : z_Ex C i Q true pc ls st kc ks V) : z_Ex C i Q false pc ls st kc ks V :=
  fun P h1 h2 => h2 _ _ _ _ _ _ hG (h P h1 h2)
theorem z_Ex.mono {C C' : z_C} {i : Nat} {Q Q' : Int → z_M → Prop} (hC : ∀ j md as V Q Q', (∀ z V', Q z V' → Q' z V') → C j md as V Q → C' j md as V Q') (hQ : ∀ z V, Q z V → Q' z V) {md : Bool} {pc : Nat} {ls : z_L} {st : List z_V} {kc ks : Nat} {V : z_M}
    (h : z_Ex C i Q md pc ls st kc ks V) : z_Ex C' i Q' md pc ls st kc ks V :=
  fun P h1 h2 => h P (fun md pc ls st kc ks V k => h1 _ _ _ _ _ _ _ (z_Stp_m hC hQ _ (fun _ _ _ _ _ _ => id) _ _ _ _ _ _ k)) h2
theorem z_MS.mono : ∀ (d : Nat) (j : Nat) (md : Bool) (as : List z_V) (V : z_M) (Q Q' : Int → z_M → Prop), (∀ z V', Q z V' → Q' z V') → z_MS d j md as V Q → z_MS d j md as V Q'
  | 0, _, _, _, _, _, _, _, h => h
  | d + 1, _, _, _, _, _, _, hQ, h => z_Ex.mono (z_MS.mono d) hQ h
theorem z_MS.up : ∀ (d : Nat) (j : Nat) (md : Bool) (as : List z_V) (V : z_M) (Q Q' : Int → z_M → Prop), (∀ z V', Q z V' → Q' z V') → z_MS d j md as V Q → z_MS (d + 1) j md as V Q'
  | 0, _, _, _, _, _, _, _, h => h.elim
  | d + 1, _, _, _, _, _, _, hQ, h => z_Ex.mono (z_MS.up d) hQ h
/-- k steps, then P -/
def z_Run (C : z_C) (i : Nat) (Q : Int → z_M → Prop) (P : z_P) : Nat → z_P
  | 0 => P
  | k + 1 => z_Stp C i Q (z_Run C i Q P k)
theorem z_Ex.run {d i : Nat} {Q : Int → z_M → Prop} : ∀ (k : Nat) {md : Bool} {pc : Nat} {ls : z_L} {st : List z_V} {kc ks : Nat} {V : z_M}, z_Run (z_MS d) i Q (z_Ex (z_MS d) i Q) k md pc ls st kc ks V → z_Ex (z_MS d) i Q md pc ls st kc ks V
  | 0, _, _, _, _, _, _, _, h => h
  | k + 1, _, _, _, _, _, _, _, h => z_Ex.step (z_MS.mono d) (z_Stp_m (z_MS.mono d) (fun _ _ => id) _ (fun _ _ _ _ _ _ => z_Ex.run k) _ _ _ _ _ _ h)
