/-! what no run changes: the script, the fixed cells -/
def zwIn (U V : z_M) : Prop := (∀ a, 0 < a → a < 36 → V a = U a) ∧ (∀ k, 0 < k → k < 36 → V 0 k = U 0 k) ∧ 36 ≤ V 0 0
theorem zwIn_nx {U V : z_M} (h : zwIn U V) : 36 ≤ z_nx V := by unfold z_nx; have := h.2.2; omega
theorem zwIn_up {U V : z_M} {a k : Nat} {v : Int} (h : zwIn U V) (ha : 36 ≤ a) : zwIn U (z_up V a k v) := ⟨fun b h1 h2 => by rw [z_up_cell (by omega)]; exact h.1 b h1 h2, fun j h1 h2 => by rw [z_up_cell (by omega)]; exact h.2.1 j h1 h2, by rw [z_up_cell (by omega)]; exact h.2.2⟩
theorem zwIn_u0 {U V : z_M} (h : zwIn U V) : zwIn U (z_up V 0 0 (V 0 0 + 1)) := ⟨fun b h1 h2 => by rw [z_up_cell (by omega)]; exact h.1 b h1 h2, fun j h1 h2 => by rw [zUp_o (by omega)]; exact h.2.1 j h1 h2, by rw [zUp_s]; have := h.2.2; omega⟩
theorem zwIn_mk {U V : z_M} {n : Int} (h : zwIn U V) : zwIn U (z_mk V n) := by
  have hx := zwIn_nx h
  have h0 := zwIn_u0 h
  unfold z_mk
  exact ⟨fun b h1 h2 => by rw [z_up_cell (by omega)]; exact h0.1 b h1 h2, fun j h1 h2 => by rw [zUp_o (by omega)]; exact h0.2.1 j h1 h2, by rw [zUp_o (by omega)]; exact h0.2.2⟩
theorem zwIn_mna {U V : z_M} {n k : Nat} (h : zwIn U V) : zwIn U (z_mna V n k) := by
  have hx := zwIn_nx h
  unfold z_mna
  refine ⟨fun b h1 h2 => ?_, fun j h1 h2 => ?_, ?_⟩
  · funext j
    dsimp only
    rw [if_neg (by omega), if_neg (by omega)]
    rw [h.1 b h1 h2]
  · dsimp only
    rw [if_pos rfl, if_neg (by omega), if_neg (by omega), if_neg (by omega)]
    exact h.2.1 j h1 h2
  · dsimp only
    rw [if_pos rfl, if_pos rfl]
    have := h.2.2
    omega
theorem zwIn_cpy {U V : z_M} {a sp b dp n : Nat} (h : zwIn U V) (hb : 36 ≤ b) : zwIn U (z_cpy V a sp b dp n) := ⟨fun x h1 h2 => by rw [z_cpy_cell (by omega)]; exact h.1 x h1 h2, fun j h1 h2 => by rw [z_cpy_cell (by omega)]; exact h.2.1 j h1 h2, by rw [z_cpy_cell (by omega)]; exact h.2.2⟩
theorem zwIn_cln {U V : z_M} {a : Nat} (h : zwIn U V) : zwIn U (z_cln V a) := by
  have hx := zwIn_nx h
  have hm := zwIn_mk (n := z_len' V a) h
  unfold z_cln
  refine ⟨fun b h1 h2 => ?_, fun j h1 h2 => ?_, ?_⟩
  · funext j
    dsimp only
    rw [if_neg (by omega), hm.1 b h1 h2]
  · dsimp only
    rw [if_neg (by omega)]
    exact hm.2.1 j h1 h2
  · dsimp only
    rw [if_neg (by omega)]
    exact hm.2.2
theorem z_g_mi {c : Prop} [Decidable c] {q r : Prop} (h : c → q → r) : z_g c q → z_g c r := fun g => z_g_p (z_g_e g).1 (h (z_g_e g).1 (z_g_e g).2)
theorem z_call_mi {C : z_C} {i j rv : Nat} {P P' : z_P} {md : Bool} {pc : Nat} {ls : z_L} {st : List z_V} {kc ks : Nat} {U V : z_M} (hI : zwIn U V) (hC : ∀ j md as V Q Q', zwIn U V → (∀ z W, zwIn U W → Q z W → Q' z W) → C j md as V Q → C j md as V Q')
    (hP : ∀ pc ls st kc ks V, zwIn U V → P md pc ls st kc ks V → P' md pc ls st kc ks V) : z_call C i j rv P md pc ls st kc ks V → z_call C i j rv P' md pc ls st kc ks V :=
  z_g_m (z_g_m (hC _ _ _ _ _ _ hI (fun _ _ hw => hP _ _ _ _ _ _ hw)))
set_option maxHeartbeats 4000000 in
theorem z_Stp_i {C : z_C} {i : Nat} {Q Q' : Int → z_M → Prop} {P P' : z_P} {U : z_M} (hC : ∀ j md as V Q Q', zwIn U V → (∀ z W, zwIn U W → Q z W → Q' z W) → C j md as V Q → C j md as V Q') (hQ : ∀ z V, zwIn U V → Q z V → Q' z V)
    (md : Bool) (hP : ∀ pc ls st kc ks V, zwIn U V → P md pc ls st kc ks V → P' md pc ls st kc ks V) (pc : Nat) (ls : z_L) (st : List z_V) (kc ks : Nat) (V : z_M) (hI : zwIn U V) : z_Stp C i Q P md pc ls st kc ks V → z_Stp C i Q' P' md pc ls st kc ks V := by
  unfold z_Stp
  cases (z_co i pc).1 <;> dsimp only <;>
    (repeat' (first
      | exact id
      | exact hP _ _ _ _ _ _ hI
      | exact hQ _ _ hI
      | exact z_call_mi hI hC hP
      | exact hP _ _ _ _ _ _ (zwIn_u0 hI)
      | exact hP _ _ _ _ _ _ (zwIn_mk hI)
      | exact hP _ _ _ _ _ _ (zwIn_mna hI)
      | exact hP _ _ _ _ _ _ (zwIn_cln hI)
      | exact hP _ _ _ _ _ _ (zwIn_up hI (by omega))
      | exact hP _ _ _ _ _ _ (zwIn_cpy hI (by omega))
      | refine z_g_mi (fun _ => ?_)
      | refine z_cond_m ?_ ?_
      | refine z_i1_m (fun _ _ => ?_)
      | refine z_i2_m (fun _ _ _ => ?_)
      | refine z_l1_m (fun _ _ => ?_)
      | refine z_l2_m (fun _ _ _ => ?_)
      | refine z_r1_m (fun _ _ => ?_)
      | refine z_ai_m (fun _ _ _ => ?_)
      | refine z_avi_m (fun _ _ _ _ => ?_)
      | refine z_avl_m (fun _ _ _ _ => ?_)
      | refine z_avr_m (fun _ _ _ _ => ?_)
      | refine z_fv_m (fun _ _ _ => ?_)
      | refine z_k1_m (fun _ _ => ?_)
      | refine z_k2_m (fun _ _ _ => ?_)
      | refine z_li_m (fun _ => ?_)
      | refine z_ll_m (fun _ => ?_)
      | refine z_lr1_m (fun _ => ?_)
      | refine z_to_m (fun _ => ?_)
      | refine z_br_m ?_ ?_
      | refine z_sw_m (fun _ => ?_) ?_ _ _
      | refine z_wr_m (fun _ => ?_)
      | refine z_head_m (fun _ => ?_)
      | refine z_ret_m ?_
      | split))
theorem z_Ex.inv {d i : Nat} {Q Q' : Int → z_M → Prop} {U : z_M} (hC : ∀ j md as V Q Q', zwIn U V → (∀ z W, zwIn U W → Q z W → Q' z W) → z_MS d j md as V Q → z_MS d j md as V Q') (hQ : ∀ z V, zwIn U V → Q z V → Q' z V) {md : Bool} {pc : Nat} {ls : z_L} {st : List z_V} {kc ks : Nat} {V : z_M}
    (h : z_Ex (z_MS d) i Q md pc ls st kc ks V) (hI : zwIn U V) : z_Ex (z_MS d) i Q' md pc ls st kc ks V :=
  h (fun md pc ls st kc ks V => zwIn U V → z_Ex (z_MS d) i Q' md pc ls st kc ks V) (fun md pc ls st kc ks V k hI => z_Ex.step (z_MS.mono d) (z_Stp_i hC hQ md (fun _ _ _ _ _ _ hi p => p hi) pc ls st kc ks V hI k)) (fun _ _ _ _ _ _ hG k hI => z_Ex.switch hG (k hI)) hI
theorem z_MS.inv {U : z_M} : ∀ (d : Nat) (j : Nat) (md : Bool) (as : List z_V) (V : z_M) (Q Q' : Int → z_M → Prop), zwIn U V → (∀ z W, zwIn U W → Q z W → Q' z W) → z_MS d j md as V Q → z_MS d j md as V Q'
  | 0, _, _, _, _, _, _, _, _, h => h
  | d + 1, _, _, _, _, _, _, hI, hQ, h => z_Ex.inv (z_MS.inv d) hQ h hI
/-- class and reference alike, and the script stays -/
def zPs (d i j : Nat) (as : List z_V) (V : z_M) : Prop := z_MS d i true (.inr (.inr 36) :: as) V (fun z W => zwIn V W ∧ z_MS d j true (.inr (.inr 141) :: as) W (fun z2 X => (z2 = z ∧ zR X) ∧ zwIn V X))
theorem zPs_p {d i j : Nat} {as : List z_V} {V : z_M} (h0 : 36 ≤ V 0 0) (h : zPr d i j as V) : zPs d i j as V :=
  z_MS.inv d i true _ V _ _ ⟨fun _ _ _ => rfl, fun _ _ _ => rfl, h0⟩ (fun _ W hw k => ⟨hw, z_MS.inv d j true _ W _ _ hw (fun _ _ hx q => ⟨q, hx⟩) k⟩) h
