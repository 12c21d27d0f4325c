/-! the judge: a clause, a law -/
theorem zblt {a : Nat} (h : 169 ≤ a) : Nat.blt a z_N0 = false := by
  cases e : Nat.blt a z_N0 with
  | false => rfl
  | true =>
    have h2 : a + 1 ≤ z_N0 := Nat.le_of_ble_eq_true e
    unfold z_N0 at h2
    omega
theorem zl_k0 (q : Nat) : z_kd (169 + 4 * q) = 5 := by
  unfold z_kd
  rw [zblt (by omega), show (169 + 4 * q - z_N0) % 4 = 0 from by unfold z_N0; omega]
  rfl
theorem zl_kj {q j : Nat} (h : 1 ≤ j ∧ j ≤ 3) : z_kd (169 + 4 * q + j) = 101 := by
  unfold z_kd
  rw [zblt (by omega)]
  have e : (169 + 4 * q + j - z_N0) % 4 = j := by unfold z_N0; omega
  rw [e]
  have : j = 1 ∨ j = 2 ∨ j = 3 := by omega
  rcases this with rfl | rfl | rfl <;> rfl
theorem zl_rr {V : z_M} {a k : Nat} (h : 169 ≤ a) : z_rr true V a k = (V a k).toNat := by
  unfold z_rr z_rf
  rw [zblt h]
  rfl
theorem zl_len {V : z_M} {a : Nat} (h : 169 ≤ a) : z_len' V a = V 0 a := by
  unfold z_len' z_LN
  rw [zblt h]
  rfl
/-- a law of the class in its cells -/
def zLA (V : z_M) (q Z : Nat) : Prop := V (169 + 4 * q) 0 = ((169 + 4 * q + 1 : Nat) : Int) ∧ V (169 + 4 * q) 1 = ((169 + 4 * q + 2 : Nat) : Int) ∧ V 0 (169 + 4 * q + 1) = (Z : Int) ∧ V 0 (169 + 4 * q + 2) = (Z : Int)
theorem zLA_o {V W : z_M} {q Z : Nat} (h : zLA V q Z) (ho : zOff 94 96 V W) : zLA W q Z := by
  unfold zLA at h ⊢
  rw [ho _ (by omega), ho 0 (by omega)]
  exact h
theorem lp17q {d : Nat} {Q : Int → z_M → Prop} {V : z_M} {q Z E k : Nat} {o2 : Option z_V} (hL : zLA V q Z) (hb : V 94 4 = 0) (hk : k ≤ E) (hE : E ≤ Z) (hz : Z ≤ 400) (hr : V 94 3 = (k : Int)) (h : z_Ex (z_MS d) 17 Q true 18 [some (.inr (.inr 94)), some (.inr (.inr (169 + 4 * q))), o2, some (.inl (E : Int)), some (.inl (k : Int))] [] 0 0 V) :
    ∀ m at_, at_ + m = k → z_Ex (z_MS d) 17 Q true 18 [some (.inr (.inr 94)), some (.inr (.inr (169 + 4 * q))), o2, some (.inl (E : Int)), some (.inl (at_ : Int))] [] 0 0 V
  | 0, at_, e => by
    have e2 : at_ = k := by omega
    subst e2
    exact h
  | m + 1, at_, e => by
    refine zb17_94_v_p18 _ _ _ _ (z_ifp (by omega) ?_)
    rw [zl_rr (by omega), hL.1, Int.toNat_natCast, zl_len (by omega), hL.2.2.1]
    refine z_gp (zl_k0 q) (z_gp (by rw [zl_kj (by omega)]; decide) (z_ifp (by omega) (z_ifp hb (z_ifp (by omega) ?_))))
    rw [z_inc (by omega)]
    exact lp17q hL hb hk hE hz hr h m (at_ + 1) (by omega)
/-- the walk has come to k: it stands there, or it skips what lies ahead of it -/
def zAt (V : z_M) (at_ k : Nat) : Prop := at_ ≤ k ∧ (V 94 3 = (k : Int) ∨ (at_ = k ∧ V 94 3 ≤ (k : Int)))
theorem lp17t {d : Nat} {Q : Int → z_M → Prop} {V : z_M} {q Z E at_ k : Nat} {o2 : Option z_V} (hL : zLA V q Z) (hb : V 94 4 = 0) (hk : k < E) (hE : E ≤ Z) (hz : Z ≤ 400) (ha : zAt V at_ k)
    (h : z_MS d 18 true [.inr (.inr 94), .inl (V (169 + 4 * q + 1) k), .inl (V (169 + 4 * q + 2) k), .inl (E : Int)] V (fun _ W => z_Ex (z_MS d) 17 Q true 18 [some (.inr (.inr 94)), some (.inr (.inr (169 + 4 * q))), o2, some (.inl (E : Int)), some (.inl ((k + 1 : Nat) : Int))] [] 0 0 W)) :
    z_Ex (z_MS d) 17 Q true 18 [some (.inr (.inr 94)), some (.inr (.inr (169 + 4 * q))), o2, some (.inl (E : Int)), some (.inl (at_ : Int))] [] 0 0 V := by
  have hm : z_Ex (z_MS d) 17 Q true 18 [some (.inr (.inr 94)), some (.inr (.inr (169 + 4 * q))), o2, some (.inl (E : Int)), some (.inl (k : Int))] [] 0 0 V := by
    refine zb17_94_v_p18 _ _ _ _ (z_ifp (by omega) ?_)
    rw [zl_rr (by omega), zl_rr (by omega), hL.1, hL.2.1]
    simp only [Int.toNat_natCast, zl_len (show 169 ≤ 169 + 4 * q + 1 by omega), zl_len (show 169 ≤ 169 + 4 * q + 2 by omega), hL.2.2.1, hL.2.2.2]
    have h1 := ha.2
    refine z_gp (zl_k0 q) (z_gp (by rw [zl_kj (by omega)]; decide) (z_ifp (by omega) (z_ifp hb (z_ifn (by omega) ?_))))
    refine z_gp (zl_k0 q) (z_gp (zl_kj (by omega)) (z_gp (by omega) (z_all ?_)))
    refine z_gp (zl_k0 q) (z_gp (zl_kj (by omega)) (z_gp (by omega) (z_all ?_)))
    rw [z_inc (by omega)]
    exact h
  rcases ha.2 with h1 | ⟨h1, _⟩
  · exact lp17q hL hb (by omega) hE hz h1 hm (k - at_) at_ (by have := ha.1; omega)
  · subst h1; exact hm
theorem lp17x {d : Nat} {Q : Int → z_M → Prop} {V : z_M} {q Z E at_ : Nat} {o2 : Option z_V} (hL : zLA V q Z) (hb : V 94 4 = 1 ∨ E ≤ at_) (h : Q 0 V) : z_Ex (z_MS d) 17 Q true 18 [some (.inr (.inr 94)), some (.inr (.inr (169 + 4 * q))), o2, some (.inl (E : Int)), some (.inl (at_ : Int))] [] 0 0 V := by
  refine zb17_94_v_p18 _ _ _ _ ?_
  refine z_ifc (fun hc => ?_) (fun _ => h)
  rw [zl_rr (by omega), hL.1, Int.toNat_natCast, zl_len (by omega), hL.2.2.1]
  refine z_gp (zl_k0 q) (z_gp (by rw [zl_kj (by omega)]; decide) (z_ifc (fun hc2 => z_ifn (by omega) h) (fun _ => h)))
theorem lp17e {d : Nat} {Q : Int → z_M → Prop} {V : z_M} {q Z E at_ : Nat} {o2 : Option z_V} (hL : zLA V q Z) (hE : E ≤ Z) (hz : Z ≤ 400) (ha : zAt V at_ E) (hb : V 94 4 = 0) (h : Q 0 V) : z_Ex (z_MS d) 17 Q true 18 [some (.inr (.inr 94)), some (.inr (.inr (169 + 4 * q))), o2, some (.inl (E : Int)), some (.inl (at_ : Int))] [] 0 0 V := by
  rcases ha.2 with h1 | ⟨h1, _⟩
  · exact lp17q hL hb (Nat.le_refl E) hE hz h1 (lp17x hL (Or.inr (Nat.le_refl E)) h) (E - at_) at_ (by have := ha.1; omega)
  · subst h1
    exact lp17x hL (Or.inr (Nat.le_refl _)) h
theorem zKs_r {op arg f : Nat → Int} {k k1 : Nat} {st st1 : List Int} (hf : zFb f) (h : zKs op arg f k st k1 st1) (hr : ∀ x ∈ st, -1000000000 ≤ x ∧ x ≤ 1000000000) : ∀ x ∈ st1, -1000000000 ≤ x ∧ x ≤ 1000000000 := by
  rcases h with ⟨c1, c2, c3, c4⟩ | ⟨c1, c2, c3, c4⟩ | ⟨c1, c2, b, a, r, v, c3, c4, c5, c6⟩ | ⟨c1, a, r, c2, c3, c4, c5⟩ | ⟨c1, a, r, c2, c3⟩
  · subst c4
    intro x hx
    rcases List.mem_cons.mp hx with rfl | hx
    · omega
    · exact hr x hx
  · subst c4
    intro x hx
    rcases List.mem_cons.mp hx with rfl | hx
    · exact hf _ (by omega)
    · exact hr x hx
  · subst c6
    subst c3
    intro x hx
    rcases List.mem_cons.mp hx with rfl | hx
    · exact zRk_b c4
    · exact hr x (by simp [hx])
  · subst c5
    subst c2
    intro x hx
    rcases List.mem_cons.mp hx with rfl | hx
    · omega
    · exact hr x (by simp [hx])
  · rcases c3 with ⟨_, _, c4⟩ | ⟨_, _, c4⟩
    · subst c4; exact hr
    · subst c4; subst c2
      exact fun x hx => hr x (by simp [hx])
/-- a walk through a piece of code -/
theorem lp17g {d : Nat} {Q : Int → z_M → Prop} {U : z_M} {q Z E s e H k2 : Nat} {st2 : List Int} {op arg f : Nat → Int} {o2 : Option z_V} (hf : zFb f) (hfa : ∀ i, i < 9 → U 95 i = f i) (hop : ∀ j, op j = zTr (U (169 + 4 * q + 1) j) (U (169 + 4 * q + 2) j)) (harg : ∀ j, arg j = U (169 + 4 * q + 2) j) (hL : zLA U q Z) (he : e ≤ E) (hE : E ≤ Z) (hz : Z ≤ 400) (hH : H ≤ 39)
    (h : ∀ W at_, zJo U W → zJ W st2 → W 94 4 = 0 → zAt W at_ k2 → (∀ x ∈ st2, -1000000000 ≤ x ∧ x ≤ 1000000000) → z_Ex (z_MS (d + 2)) 17 Q true 18 [some (.inr (.inr 94)), some (.inr (.inr (169 + 4 * q))), o2, some (.inl (E : Int)), some (.inl (at_ : Int))] [] 0 0 W) :
    ∀ n k st V at_, zGo op arg f s e H n k st k2 st2 → zJo U V → zJ V st → V 94 4 = 0 → zAt V at_ k → st.length ≤ 39 → (∀ x ∈ st, -1000000000 ≤ x ∧ x ≤ 1000000000) → z_Ex (z_MS (d + 2)) 17 Q true 18 [some (.inr (.inr 94)), some (.inr (.inr (169 + 4 * q))), o2, some (.inl (E : Int)), some (.inl (at_ : Int))] [] 0 0 V
  | 0, k, st, V, at_, hg, ho, hJ, hb, ha, _, hr => by
    obtain ⟨rfl, rfl⟩ := hg
    exact h V at_ ho hJ hb ha hr
  | n + 1, k, st, V, at_, hg, ho, hJ, hb, ha, hl, hr => by
    obtain ⟨g1, g2, k1, st1, g3, g4, g5, g6, g7⟩ := hg
    refine lp17t (zLA_o hL ho.1) hb (by omega) hE hz ha ?_
    rw [ho.1 (169 + 4 * q + 1) (by omega), ho.1 (169 + 4 * q + 2) (by omega)]
    refine sp18s hf (fun i hi => by rw [ho.2.1]; exact hfa i hi) (hop k) (harg k) g3 hl hr hJ hb (fun W o j b3 r3 => ?_)
    refine lp17g hf hfa hop harg hL he hE hz hH h n k1 st1 W (k + 1) g7 (zJo_t ho o) j b3 ⟨by omega, ?_⟩ (by omega) (zKs_r hf g3 hr)
    rcases r3 with r3 | ⟨r3, r4⟩
    · exact Or.inl r3
    · refine Or.inr ⟨r3.symm, ?_⟩
      have := ha.2
      omega
/-- a piece of code that breaks -/
theorem lp17k {d : Nat} {Q : Int → z_M → Prop} {U : z_M} {q Z E k at_ : Nat} {st : List Int} {op : Nat → Int} {o2 : Option z_V} (hop : ∀ j, op j = zTr (U (169 + 4 * q + 1) j) (U (169 + 4 * q + 2) j)) (hL : zLA U q Z) (hk : k < E) (hE : E ≤ Z) (hz : Z ≤ 400) (hK : zKb op k st) {V : z_M} (ho : zJo U V) (hJ : zJ V st) (hb : V 94 4 = 0) (ha : zAt V at_ k) (hl : st.length ≤ 39) (hr : ∀ x ∈ st, -1000000000 ≤ x ∧ x ≤ 1000000000)
    (h : ∀ W, zJo U W → W 94 4 = 1 → Q 0 W) : z_Ex (z_MS (d + 2)) 17 Q true 18 [some (.inr (.inr 94)), some (.inr (.inr (169 + 4 * q))), o2, some (.inl (E : Int)), some (.inl (at_ : Int))] [] 0 0 V := by
  obtain ⟨c1, c2, b, a, r, c3, c4⟩ := hK
  subst c3
  refine lp17t (zLA_o hL ho.1) hb hk hE hz ha ?_
  rw [ho.1 (169 + 4 * q + 1) (by omega), ho.1 (169 + 4 * q + 2) (by omega)]
  rw [hop] at c1 c2 c4
  obtain ⟨e1, e2, e3⟩ := zTr_b ⟨c1, c2⟩
  have ra := hr a (by simp)
  have rb := hr b (by simp)
  refine sp18b ⟨e1, e2⟩ e3 (by simp at hl; omega) ra rb hJ hb (fun w hw => ?_) (fun _ W o b3 => ?_)
  · rw [c4] at hw
    exact absurd hw (by simp)
  · exact lp17x (zLA_o hL (zOff_t ho.1 o.1)) (Or.inl b3) (h W (zJo_t ho o) b3)
/-- a segment: its value comes upon the stack, or the clause breaks -/
theorem lp17v {d : Nat} {Q : Int → z_M → Prop} {U : z_M} {q Z E s e D : Nat} {st : List Int} {op arg f : Nat → Int} {F : (Nat → Int) → Option Int} {o2 : Option z_V} (hf : zFb f) (hfa : ∀ i, i < 9 → U 95 i = f i) (hop : ∀ j, op j = zTr (U (169 + 4 * q + 1) j) (U (169 + 4 * q + 2) j)) (harg : ∀ j, arg j = U (169 + 4 * q + 2) j) (hL : zLA U q Z) (he : e ≤ E) (hE : E ≤ Z) (hz : Z ≤ 400) (hH : st.length + D ≤ 39) (hS : zSeg op arg D s e F)
    {V : z_M} {at_ : Nat} (ho : zJo U V) (hJ : zJ V st) (hb : V 94 4 = 0) (ha : zAt V at_ s) (hr : ∀ x ∈ st, -1000000000 ≤ x ∧ x ≤ 1000000000)
    (h1 : ∀ v, F f = some v → ∀ W at_, zJo U W → zJ W (v :: st) → W 94 4 = 0 → zAt W at_ e → (∀ x ∈ v :: st, -1000000000 ≤ x ∧ x ≤ 1000000000) → z_Ex (z_MS (d + 2)) 17 Q true 18 [some (.inr (.inr 94)), some (.inr (.inr (169 + 4 * q))), o2, some (.inl (E : Int)), some (.inl (at_ : Int))] [] 0 0 W)
    (h0 : F f = none → ∀ W, zJo U W → W 94 4 = 1 → Q 0 W) : z_Ex (z_MS (d + 2)) 17 Q true 18 [some (.inr (.inr 94)), some (.inr (.inr (169 + 4 * q))), o2, some (.inl (E : Int)), some (.inl (at_ : Int))] [] 0 0 V := by
  obtain ⟨s1, s2, s3⟩ := hS
  obtain ⟨_, s4⟩ := s3 f hf
  obtain ⟨s5, s6⟩ := s4 st
  cases hF : F f with
  | some v =>
    obtain ⟨n, hn⟩ := s5 v hF
    exact lp17g hf hfa hop harg hL he hE hz hH (fun W a o j b3 a3 r3 => h1 v hF W a o j b3 a3 r3) n s st V at_ hn ho hJ hb ha (by omega) hr
  | none =>
    obtain ⟨n, k, st2, hn, k1, k2, k3⟩ := s6 hF
    by_cases hn0 : n = 0
    · subst hn0
      obtain ⟨rfl, rfl⟩ := hn
      exact lp17k hop hL (by omega) hE hz k3 ho hJ hb ha (by omega) hr (h0 hF)
    · have hl2 : st2.length ≤ st.length + D := zGo_len hn hn0
      exact lp17g hf hfa hop harg hL he hE hz hH (fun W a o j b3 a3 r3 => lp17k hop hL (by omega) hE hz k3 o j b3 a3 (by omega) r3 (h0 hF)) n s st V at_ hn ho hJ hb ha (by omega) hr
