/-! the reference's judge -/
/-- all cells of the reference but lo to hi, and all fields but k1 to k2, stand as they were -/
def zFm (k1 k2 lo hi : Nat) (V W : z_M) : Prop := (∀ a, ¬ a = 141 → (a < lo ∨ hi < a) → W a = V a) ∧ ∀ k, (k < k1 ∨ k2 < k) → W 141 k = V 141 k
theorem zFm_r {k1 k2 lo hi : Nat} {V : z_M} : zFm k1 k2 lo hi V V := ⟨fun _ _ _ => rfl, fun _ _ => rfl⟩
theorem zFm_t {k1 k2 lo hi : Nat} {U V W : z_M} (h : zFm k1 k2 lo hi U V) (h2 : zFm k1 k2 lo hi V W) : zFm k1 k2 lo hi U W := ⟨fun a x y => (h2.1 a x y).trans (h.1 a x y), fun k x => (h2.2 k x).trans (h.2 k x)⟩
theorem zFm_w {k1 k2 lo hi k3 k4 lo2 hi2 : Nat} {V W : z_M} (h : zFm k1 k2 lo hi V W) (h1 : k3 ≤ k1 ∧ k2 ≤ k4 ∧ lo2 ≤ lo ∧ hi ≤ hi2) : zFm k3 k4 lo2 hi2 V W := ⟨fun a x y => h.1 a x (by omega), fun k x => h.2 k (by omega)⟩
theorem zFm_u {k1 k2 lo hi a k : Nat} {V W : z_M} {v : Int} (h : zFm k1 k2 lo hi V W) (h1 : lo ≤ a ∧ a ≤ hi ∧ ¬ a = 141) : zFm k1 k2 lo hi V (z_up W a k v) :=
  ⟨fun b x y => by rw [z_up_cell (by omega)]; exact h.1 b x y, fun j x => by rw [z_up_cell (by omega)]; exact h.2 j x⟩
theorem zFm_f {k1 k2 lo hi k : Nat} {V W : z_M} {v : Int} (h : zFm k1 k2 lo hi V W) (h1 : k1 ≤ k ∧ k ≤ k2) : zFm k1 k2 lo hi V (z_up W 141 k v) :=
  ⟨fun b x y => by rw [z_up_cell x]; exact h.1 b x y, fun j x => by rw [zUp_o (by omega)]; exact h.2 j x⟩
def zMk (V : z_M) : List Int → Prop
  | [] => True
  | a :: t => V 154 t.length = a ∧ zMk V t
theorem zMk_c {V W : z_M} : ∀ {st : List Int}, (∀ j, j < st.length → W 154 j = V 154 j) → zMk V st → zMk W st
  | [], _, _ => trivial
  | a :: t, h, h2 => ⟨by rw [h t.length (by simp)]; exact h2.1, zMk_c (fun j hj => h j (by simp; omega)) h2.2⟩
theorem sp198 {d : Nat} {Q : Int → z_M → Prop} {V : z_M} {op a b : Int} (ho : 20 ≤ op ∧ op ≤ 26) (ha : -1000000000 ≤ a ∧ a ≤ 1000000000) (hb : -1000000000 ≤ b ∧ b ≤ 1000000000) (hbr : V 141 29 = 0)
    (h1 : ∀ v z, (if -1000000000 ≤ z ∧ z ≤ 1000000000 then some z else none) = zRk op a b → v = z → Q v V) (h0 : zRk op a b = none → ∀ W, W = z_up V 141 29 1 → Q 0 W) :
    z_MS (d + 1) 198 true [.inr (.inr 141), .inl op, .inr (.inl a), .inr (.inl b)] V Q := by
  have hm : -1000000000000000000 ≤ a * b ∧ a * b ≤ 1000000000000000000 := by
    have h2 : (a * b).natAbs ≤ 1000000000 * 1000000000 := by
      rw [Int.natAbs_mul]
      exact Nat.mul_le_mul (by omega) (by omega)
    omega
  refine zb198_141 _ _ _ ?_
  simp only [z_lcmp_p, z_lcmp_n, z_lcmp_0]
  refine z_ifc (fun e => ?_) (fun e => z_ifc (fun e => ?_) (fun e => z_ifc (fun e => ?_) (fun e => z_ifc (fun e => ?_) (fun e => z_ifc (fun e => ?_) (fun e => z_ifc (fun e => ?_) (fun e => ?_))))))
  · subst e
    exact h1 _ (a + b) (zRk_20 a b).symm (by rw [z_ladd_e (by omega)])
  · subst e
    exact h1 _ (a - b) (zRk_21 a b).symm (by rw [z_lsub_e (by omega)])
  · subst e
    exact h1 _ (a * b) (zRk_22 a b).symm (by rw [z_lmul_e (by omega)])
  · subst e
    refine z_all ?_
    refine z_ifc (fun hb0 => ?_) (fun hb0 => ?_)
    · rw [zUp_s] at hb0
      have hb1 : ¬ b = 0 := by intro e; rw [if_pos e] at hb0; exact absurd hb0 (by decide)
      rw [if_neg hb1]
      have eW : z_up V 141 29 0 = V := by
        funext x j
        rw [z_up_rd]
        split
        · split
          · rename_i e1 e2; rw [e1, e2, hbr]
          · rfl
        · rfl
      rw [eW]
      refine z_gp hb1 ?_
      exact h1 _ (a.tdiv b) ((zRk_23 a b).trans (if_neg hb1)).symm (z_ldiv_e ha hb hb1)
    · rw [zUp_s] at hb0
      have hb1 : b = 0 := by
        by_cases e : b = 0
        · exact e
        · rw [if_neg e] at hb0; exact absurd rfl hb0
      rw [if_pos hb1]
      exact h0 ((zRk_23 a b).trans (if_pos hb1)) _ rfl
  · subst e
    exact h1 _ (if a < b then 1 else 0) (zRg_01.trans (zRk_24 a b).symm) rfl
  · subst e
    exact h1 _ (if b < a then 1 else 0) (zRg_01.trans (zRk_25 a b).symm) rfl
  · have e8 : op = 26 := by omega
    subst e8
    exact h1 _ (if a = b then 1 else 0) (zRg_01.trans (zRk_26 a b).symm) rfl
/-- the cells that reckoning changes -/
def zMo (V W : z_M) : Prop := zFm 29 30 154 154 V W
/-- the code of law l in the reference's row -/
def zMc (V : z_M) (l : Nat) (op arg : Nat → Int) : Prop := V 141 26 = ((90 + 900 * l : Nat) : Int) ∧ l ≤ 5 ∧ (∀ k, k < 400 → V 143 (188 + 900 * l + 2 * k) = op k) ∧ ∀ k, k < 400 → V 143 (189 + 900 * l + 2 * k) = arg k
theorem zMc_o {V W : z_M} {l : Nat} {op arg : Nat → Int} (h : zMc V l op arg) (ho : zMo V W) : zMc W l op arg := by
  unfold zMc at h ⊢
  rw [ho.2 26 (by omega), ho.1 143 (by decide) (by omega)]
  exact h
/-- where the walk begins to take the operation at k -/
theorem lp199h {d : Nat} {Q : Int → z_M → Prop} {V : z_M} {l E k n : Nat} {op arg : Nat → Int} {o1 o5 o6 : Option z_V} (hM : zMc V l op arg) (hE : E ≤ 400) (hk : k < E) (hb : V 141 29 = 0) (hn : n < 400)
    (h0 : op k = 0 → z_Ex (z_MS d) 199 Q true 96 [some (.inr (.inr 141)), o1, some (.inl (E : Int)), some (.inl (n : Int)), some (.inl ((k + 1 : Nat) : Int)), some (.inl (op k)), some (.inl (arg k))] [.inr (.inl (arg k)), .inl (n : Int), .inr (.inr 154)] 0 0 V)
    (h1 : 1 ≤ op k ∧ op k ≤ 9 → z_Ex (z_MS d) 199 Q true 96 [some (.inr (.inr 141)), o1, some (.inl (E : Int)), some (.inl (n : Int)), some (.inl ((k + 1 : Nat) : Int)), some (.inl (op k)), some (.inl (arg k))] [.inr (.inl (V 153 (op k).toNat)), .inl (n : Int), .inr (.inr 154)] 0 0 V)
    (h2 : 20 ≤ op k ∧ op k ≤ 26 → 1 ≤ n ∧ z_Ex (z_MS d) 199 Q true 113 [some (.inr (.inr 141)), o1, some (.inl (E : Int)), some (.inl ((n - 1 : Nat) : Int)), some (.inl ((k + 1 : Nat) : Int)), some (.inl (op k)), some (.inl (arg k))] [] 0 0 V)
    (h3 : op k = 27 → 1 ≤ n ∧ ∀ W, W = z_up V 154 (n - 1) (z_lsub 1 (V 154 (n - 1))) → z_Ex (z_MS d) 199 Q true 10 [some (.inr (.inr 141)), o1, some (.inl (E : Int)), some (.inl (n : Int)), some (.inl ((k + 1 : Nat) : Int)), some (.inl (op k)), some (.inl (arg k))] [] 0 0 W)
    (h4 : op k = 28 ∨ op k = 29 → 1 ≤ n ∧ if V 154 (n - 1) = (if op k = 28 then 0 else 1) then z_Ex (z_MS d) 199 Q true 10 [some (.inr (.inr 141)), o1, some (.inl (E : Int)), some (.inl (n : Int)), some (.inl (arg k)), some (.inl (op k)), some (.inl (arg k))] [] 0 0 V else z_Ex (z_MS d) 199 Q true 10 [some (.inr (.inr 141)), o1, some (.inl (E : Int)), some (.inl ((n - 1 : Nat) : Int)), some (.inl ((k + 1 : Nat) : Int)), some (.inl (op k)), some (.inl (arg k))] [] 0 0 V)
    (hop : op k = 0 ∨ (1 ≤ op k ∧ op k ≤ 9) ∨ (20 ≤ op k ∧ op k ≤ 26) ∨ op k = 27 ∨ op k = 28 ∨ op k = 29) :
    z_Ex (z_MS d) 199 Q true 10 [some (.inr (.inr 141)), o1, some (.inl (E : Int)), some (.inl (n : Int)), some (.inl (k : Int)), o5, o6] [] 0 0 V := by
  obtain ⟨m1, m2, m3, m4⟩ := hM
  refine zb199_141_p10 _ _ _ _ _ _ (z_ifp (by omega) (z_ifp hb ?_))
  have ea : z_add (z_add (V 141 26) 98) (z_mul 2 (k : Int)) = ((188 + 900 * l + 2 * k : Nat) : Int) := by
    rw [m1]; simp (disch := omega) only [z_mul_e, z_add_e, z_sub_e]; omega
  have eb : z_add ((188 + 900 * l + 2 * k : Nat) : Int) 1 = ((189 + 900 * l + 2 * k : Nat) : Int) := by
    rw [z_add_e (by omega)]; omega
  rw [ea, eb, z_inc (by omega)]
  refine z_gp (by omega) ?_
  refine z_all ?_
  refine z_gp (by omega) ?_
  refine z_all ?_
  rw [Int.toNat_natCast, Int.toNat_natCast, m3 k (by omega), m4 k (by omega)]
  rcases hop with c | c | c | c | c
  · exact z_ifp (by omega) (z_ifp c (h0 c))
  · exact z_ifp (by omega) (z_ifn (by omega) (z_gp (by omega) (z_all (h1 c))))
  · obtain ⟨n2, hh⟩ := h2 c
    rw [show z_add (n : Int) (-1) = ((n - 1 : Nat) : Int) from by rw [z_add_e (by omega)]; omega]
    exact z_ifn (by omega) (z_ifp (by omega) hh)
  · obtain ⟨n1, hh⟩ := h3 c
    have e1 : z_sub (n : Int) 1 = ((n - 1 : Nat) : Int) := by rw [z_sub_e (by omega)]; omega
    rw [e1]
    refine z_ifn (by omega) (z_ifn (by omega) (z_ifp c (z_gp (by omega) (z_all (z_gp (by omega) ?_)))))
    exact hh
  · obtain ⟨n1, hh⟩ := h4 c
    rw [show z_sub (n : Int) 1 = ((n - 1 : Nat) : Int) from by rw [z_sub_e (by omega)]; omega, show z_add (n : Int) (-1) = ((n - 1 : Nat) : Int) from by rw [z_add_e (by omega)]; omega]
    have f1 : ¬ op k < 20 := by omega
    have f2 : ¬ op k < 27 := by omega
    have f3 : ¬ op k = 27 := by omega
    have f4 : 0 ≤ ((n - 1 : Nat) : Int) ∧ ((n - 1 : Nat) : Int) < 400 := by omega
    refine z_ifn f1 (z_ifn f2 (z_ifn f3 (z_gp f4 (z_all ?_))))
    rw [Int.toNat_natCast]
    simp only [z_lcmp_0]
    by_cases hc : V 154 (n - 1) = (if op k = 28 then 0 else 1)
    · rw [if_pos hc] at hh
      exact z_ifp hc hh
    · rw [if_neg hc] at hh
      exact z_ifn hc hh
theorem zMk_top {V : z_M} {a : Int} {r : List Int} (h : zMk V (a :: r)) : V 154 ((a :: r).length - 1) = a := h.1
theorem sp145 {d : Nat} {Q : Int → z_M → Prop} {a b c : Int} {V : z_M} (h1 : b ≤ a ∧ a ≤ c → Q 1 V) (h0 : ¬ (b ≤ a ∧ a ≤ c) → Q 0 V) : z_MS (d + 1) 145 true [.inr (.inl a), .inr (.inl b), .inr (.inl c)] V Q := by
  refine zb145 _ _ _ ?_
  simp only [z_lcmp_n, z_lcmp_p]
  split
  · exact h0 (by omega)
  · split
    · exact h0 (by omega)
    · exact h1 (by omega)
theorem zMo_up {V W : z_M} {k : Nat} {v : Int} (h : zMo V W) : zMo V (z_up W 154 k v) := zFm_u h (by omega)
theorem zMo_f {V W : z_M} {k : Nat} {v : Int} (h : zMo V W) (hk : k = 29 ∨ k = 30) : zMo V (z_up W 141 k v) := zFm_f h (by omega)
theorem zMk_push {V W : z_M} {st : List Int} {a : Int} (hW : W = z_up V 154 st.length a) (h : zMk V st) : zMk W (a :: st) := by
  subst hW
  exact ⟨zUp_s, zMk_c (fun j hj => zUp_o (by omega)) h⟩
/-- an operation upon two -/
theorem lp199b {d : Nat} {Q : Int → z_M → Prop} {V : z_M} {l E k : Nat} {a b : Int} {r : List Int} {op arg : Nat → Int} {o1 o5 o6 : Option z_V} (hM : zMc V l op arg) (hE : E ≤ 400) (hk : k < E) (hb : V 141 29 = 0) (hl : r.length < 398) (hra : -1000000000 ≤ a ∧ a ≤ 1000000000) (hrb : -1000000000 ≤ b ∧ b ≤ 1000000000) (c : 20 ≤ op k ∧ op k ≤ 26) (hJ : zMk V (b :: a :: r))
    (h1 : ∀ v, zRk (op k) a b = some v → ∀ W o5 o6, zMo V W → W 141 29 = 0 → zMk W (v :: r) → z_Ex (z_MS (d + 1)) 199 Q true 10 [some (.inr (.inr 141)), o1, some (.inl (E : Int)), some (.inl ((r.length + 1 : Nat) : Int)), some (.inl ((k + 1 : Nat) : Int)), o5, o6] [] 0 0 W)
    (h0 : zRk (op k) a b = none → ∀ W o5 o6, zMo V W → W 141 29 = 1 → z_Ex (z_MS (d + 1)) 199 Q true 10 [some (.inr (.inr 141)), o1, some (.inl (E : Int)), some (.inl ((r.length + 1 : Nat) : Int)), some (.inl ((k + 1 : Nat) : Int)), o5, o6] [] 0 0 W) :
    z_Ex (z_MS (d + 1)) 199 Q true 10 [some (.inr (.inr 141)), o1, some (.inl (E : Int)), some (.inl ((r.length + 2 : Nat) : Int)), some (.inl (k : Int)), o5, o6] [] 0 0 V := by
  refine lp199h hM hE hk hb (by omega) (fun c2 => absurd c (by omega)) (fun c2 => absurd c (by omega)) (fun _ => ⟨by omega, ?_⟩) (fun c2 => absurd c (by omega)) (fun c2 => absurd c (by omega)) (Or.inr (Or.inr (Or.inl c)))
  have ea : V 154 r.length = a := hJ.2.1
  have eb : V 154 (r.length + 1) = b := hJ.1
  rw [show r.length + 2 - 1 = r.length + 1 by omega]
  have e1 : z_sub ((r.length + 1 : Nat) : Int) 1 = (r.length : Int) := by rw [z_sub_e (by omega)]; omega
  refine zb199_141_p113 _ _ _ _ _ _ ?_
  rw [e1]
  refine z_gp (by omega) ?_
  refine z_all ?_
  refine z_gp (by omega) ?_
  refine z_all ?_
  rw [Int.toNat_natCast, Int.toNat_natCast, ea, eb]
  refine sp198 c hra hrb hb (fun v z hz hv => ?_) (fun hn W1 hW1 => ?_)
  · subst hv
    refine z_gp (by omega) ?_
    refine z_all ?_
    have o : zMo V (z_up V 154 r.length v) := zMo_up zFm_r
    have w29 : z_up V 154 r.length v 141 29 = 0 := hb
    refine z_ifp w29 ?_
    refine z_gp (by omega) ?_
    refine z_all ?_
    rw [zUp_s]
    refine sp145 (fun hc => ?_) (fun hc => ?_)
    · refine z_all ?_
      rcases zRg_n hz with ⟨_, e⟩ | ⟨e, _⟩
      · refine h1 v e _ _ _ (zMo_f o (Or.inl rfl)) rfl ⟨?_, zMk_c (fun j hj => ?_) hJ.2.2⟩
        · rw [z_up_cell (by decide)]; exact zUp_s
        · rw [z_up_cell (by decide)]; exact zUp_o (by omega)
      · exact absurd hc e
    · refine z_all ?_
      rcases zRg_n hz with ⟨e, _⟩ | ⟨_, e⟩
      · exact absurd e hc
      · exact h0 e _ _ _ (zMo_f o (Or.inl rfl)) rfl
  · have w29 : z_up W1 154 r.length 0 141 29 = 1 := by subst hW1; rfl
    have o : zMo V (z_up W1 154 r.length 0) := by subst hW1; exact zMo_up (zMo_f zFm_r (Or.inl rfl))
    refine z_gp (by omega) ?_
    refine z_all ?_
    refine z_ifn (by rw [w29]; decide) ?_
    refine z_all ?_
    exact h0 hn _ _ _ (zMo_f o (Or.inl rfl)) rfl
/-- one operation -/
theorem lp199s {d : Nat} {Q : Int → z_M → Prop} {V : z_M} {l E k k1 : Nat} {st st1 : List Int} {op arg f : Nat → Int} {o1 o5 o6 : Option z_V} (hf : zFb f) (hfa : ∀ i, i < 9 → V 153 (i + 1) = f i) (hM : zMc V l op arg) (hE : E ≤ 400) (hk : k < E) (hb : V 141 29 = 0) (hl : st.length < 400) (hr : ∀ x ∈ st, -1000000000 ≤ x ∧ x ≤ 1000000000) (hK : zKs op arg f k st k1 st1) (hJ : zMk V st)
    (h : ∀ W o5 o6, zMo V W → W 141 29 = 0 → zMk W st1 → z_Ex (z_MS (d + 1)) 199 Q true 10 [some (.inr (.inr 141)), o1, some (.inl (E : Int)), some (.inl (st1.length : Int)), some (.inl (k1 : Int)), o5, o6] [] 0 0 W) :
    z_Ex (z_MS (d + 1)) 199 Q true 10 [some (.inr (.inr 141)), o1, some (.inl (E : Int)), some (.inl (st.length : Int)), some (.inl (k : Int)), o5, o6] [] 0 0 V := by
  rcases hK with ⟨c1, c2, c3, c4⟩ | ⟨c1, c2, c3, c4⟩ | ⟨c1, c2, b, a, r, v, c3, c4, c5, c6⟩ | ⟨c1, a, r, c2, c3, c4, c5⟩ | ⟨c1, a, r, c2, c3⟩
  · refine lp199h hM hE hk hb hl (fun _ => ?_) (fun c => absurd c (by omega)) (fun c => absurd c (by omega)) (fun c => absurd c (by omega)) (fun c => absurd c (by omega)) (Or.inl c1)
    refine zb199_141_p96 _ _ _ _ _ _ _ _ (z_gp (by omega) (z_all ?_))
    rw [z_inc (by omega), Int.toNat_natCast]
    subst c3
    subst c4
    exact h _ _ _ (zMo_up zFm_r) hb (zMk_push rfl hJ)
  · refine lp199h hM hE hk hb hl (fun c => absurd c (by omega)) (fun _ => ?_) (fun c => absurd c (by omega)) (fun c => absurd c (by omega)) (fun c => absurd c (by omega)) (Or.inr (Or.inl ⟨c1, c2⟩))
    refine zb199_141_p96 _ _ _ _ _ _ _ _ (z_gp (by omega) (z_all ?_))
    rw [z_inc (by omega), Int.toNat_natCast]
    have e : V 153 (op k).toNat = f ((op k).toNat - 1) := by
      have := hfa ((op k).toNat - 1) (by omega)
      rw [show (op k).toNat - 1 + 1 = (op k).toNat by omega] at this
      exact this
    rw [e]
    subst c3
    subst c4
    exact h _ _ _ (zMo_up zFm_r) hb (zMk_push rfl hJ)
  · subst c3
    refine lp199b hM hE hk hb (by simp at hl; omega) (hr a (by simp)) (hr b (by simp)) ⟨c1, c2⟩ hJ (fun w hw W o5 o6 o w29 hj => ?_) (fun hn => ?_)
    · rw [c4] at hw
      injection hw with hw
      subst hw
      subst c5
      subst c6
      exact h W o5 o6 o w29 hj
    · rw [c4] at hn
      exact absurd hn (by simp)
  · subst c2
    refine lp199h hM hE hk hb hl (fun c => absurd c (by omega)) (fun c => absurd c (by omega)) (fun c => absurd c (by omega)) (fun _ => ⟨by simp, fun W hW => ?_⟩) (fun c => absurd c (by omega)) (Or.inr (Or.inr (Or.inr (Or.inl c1))))
    rw [zMk_top hJ, z_lsub_e (by omega)] at hW
    subst c4
    subst c5
    refine h W _ _ (by subst hW; exact zMo_up zFm_r) (by subst hW; exact hb) (zMk_push (st := r) hW ?_)
    exact hJ.2
  · subst c2
    refine lp199h hM hE hk hb hl (fun c => absurd c (by omega)) (fun c => absurd c (by omega)) (fun c => absurd c (by omega)) (fun c => absurd c (by omega)) (fun _ => ⟨by simp, ?_⟩) (Or.inr (Or.inr (Or.inr (Or.inr c1))))
    rw [zMk_top hJ]
    rcases c3 with ⟨q1, q2, q3⟩ | ⟨q1, q2, q3⟩
    · rw [if_pos q1, q2]
      subst q3
      exact h V _ _ zFm_r hb hJ
    · rw [if_neg q1]
      subst q2
      subst q3
      exact h V _ _ zFm_r hb hJ.2
theorem lp199x {d : Nat} {Q : Int → z_M → Prop} {V : z_M} {E k n : Nat} {o1 o5 o6 : Option z_V} (hb : V 141 29 = 1 ∨ E ≤ k) (h : ∀ W, W = z_up V 141 30 (if 0 < (n : Int) then V 154 0 else 0) → Q 0 W) :
    z_Ex (z_MS d) 199 Q true 10 [some (.inr (.inr 141)), o1, some (.inl (E : Int)), some (.inl (n : Int)), some (.inl (k : Int)), o5, o6] [] 0 0 V := by
  refine zb199_141_p10 _ _ _ _ _ _ (z_ifc (fun hc => z_ifn (by omega) h) (fun hc => h))
theorem lp199g {d : Nat} {Q : Int → z_M → Prop} {U : z_M} {l E s H k2 : Nat} {st2 : List Int} {op arg f : Nat → Int} {o1 : Option z_V} (hf : zFb f) (hfa : ∀ i, i < 9 → U 153 (i + 1) = f i) (hM : zMc U l op arg) (hE : E ≤ 400) (hH : H < 400)
    (h : ∀ W o5 o6, zMo U W → W 141 29 = 0 → zMk W st2 → (∀ x ∈ st2, -1000000000 ≤ x ∧ x ≤ 1000000000) → z_Ex (z_MS (d + 1)) 199 Q true 10 [some (.inr (.inr 141)), o1, some (.inl (E : Int)), some (.inl (st2.length : Int)), some (.inl (k2 : Int)), o5, o6] [] 0 0 W) :
    ∀ n k st V o5 o6, zGo op arg f s E H n k st k2 st2 → zMo U V → V 141 29 = 0 → zMk V st → st.length < 400 → (∀ x ∈ st, -1000000000 ≤ x ∧ x ≤ 1000000000) → z_Ex (z_MS (d + 1)) 199 Q true 10 [some (.inr (.inr 141)), o1, some (.inl (E : Int)), some (.inl (st.length : Int)), some (.inl (k : Int)), o5, o6] [] 0 0 V
  | 0, k, st, V, o5, o6, hg, ho, hb, hJ, hl, hr => by
    obtain ⟨rfl, rfl⟩ := hg
    exact h V o5 o6 ho hb hJ hr
  | n + 1, k, st, V, o5, o6, hg, ho, hb, hJ, hl, hr => by
    obtain ⟨g1, g2, k1, st1, g3, g4, g5, g6, g7⟩ := hg
    refine lp199s hf (fun i hi => by rw [ho.1 153 (by decide) (by omega)]; exact hfa i hi) (zMc_o hM ho) hE g2 hb hl hr g3 hJ (fun W p5 p6 o w29 hj => ?_)
    exact lp199g hf hfa hM hE hH h n k1 st1 W p5 p6 g7 (zFm_t ho o) w29 hj (by omega) (zKs_r hf g3 hr)
theorem sp199 {d : Nat} {Q : Int → z_M → Prop} {V : z_M} {l E s D : Nat} {op arg f : Nat → Int} {F : (Nat → Int) → Option Int} (hf : zFb f) (hfa : ∀ i, i < 9 → V 153 (i + 1) = f i) (hM : zMc V l op arg) (hE : E ≤ 400) (hD : D ≤ 390) (hS : zSeg op arg D s E F)
    (h1 : ∀ v, F f = some v → ∀ W, zMo V W → W 141 29 = 0 → W 141 30 = v → Q 0 W)
    (h0 : F f = none → ∀ W, zMo V W → W 141 29 = 1 → Q 0 W) : z_MS (d + 2) 199 true [.inr (.inr 141), .inl (s : Int), .inl (E : Int)] V Q := by
  refine zb199_141 _ _ (z_all ?_)
  have o0 : zMo V (z_up V 141 29 0) := zMo_f zFm_r (Or.inl rfl)
  have hM0 := zMc_o hM o0
  have hfa0 : ∀ i, i < 9 → z_up V 141 29 0 153 (i + 1) = f i := fun i hi => by rw [z_up_cell (by decide)]; exact hfa i hi
  obtain ⟨s1, s2, s3⟩ := hS
  obtain ⟨_, s4⟩ := s3 f hf
  obtain ⟨s5, s6⟩ := s4 []
  cases hF : F f with
  | some v =>
    obtain ⟨n, hn⟩ := s5 v hF
    refine lp199g (st2 := [v]) (k2 := E) hf hfa0 hM0 hE (by simp; omega) (fun W o5 o6 o b j r => ?_) n s [] _ none none hn zFm_r rfl trivial (by simp) (fun x hx => absurd hx (by simp))
    refine lp199x (Or.inr (Nat.le_refl _)) (fun W2 hW2 => h1 v hF W2 ?_ ?_ ?_)
    · subst hW2; exact zMo_f (zFm_t o0 o) (Or.inr rfl)
    · subst hW2; exact b
    · subst hW2
      rw [zUp_s, if_pos (by simp)]
      exact j.1
  | none =>
    obtain ⟨n, k, st2, hn, k1, k2, k3⟩ := s6 hF
    have fin : ∀ W o5 o6, zMo (z_up V 141 29 0) W → W 141 29 = 0 → zMk W st2 → (∀ x ∈ st2, -1000000000 ≤ x ∧ x ≤ 1000000000) → st2.length < 400 → z_Ex (z_MS (d + 1)) 199 Q true 10 [some (.inr (.inr 141)), some (.inl (s : Int)), some (.inl (E : Int)), some (.inl (st2.length : Int)), some (.inl (k : Int)), o5, o6] [] 0 0 W := by
      intro W o5 o6 o b j r hl
      obtain ⟨c1, c2, b', a', r', c3, c4⟩ := k3
      subst c3
      refine lp199b (zMc_o hM0 o) hE k2 b (by simp at hl; omega) (r a' (by simp)) (r b' (by simp)) ⟨c1, c2⟩ j (fun w hw => ?_) (fun _ W2 p5 p6 o2 b2 => ?_)
      · rw [c4] at hw
        exact absurd hw (by simp)
      · exact lp199x (Or.inl b2) (fun W3 hW3 => h0 hF W3 (by subst hW3; exact zMo_f (zFm_t o0 (zFm_t o o2)) (Or.inr rfl)) (by subst hW3; exact b2))
    by_cases hn0 : n = 0
    · subst hn0
      obtain ⟨rfl, rfl⟩ := hn
      exact fin _ none none zFm_r rfl trivial (fun x hx => absurd hx (by simp)) (by simp)
    · have hl2 := zGo_len hn hn0
      refine lp199g (st2 := st2) (k2 := k) hf hfa0 hM0 hE (by simp; omega) (fun W o5 o6 o b j r => fin W o5 o6 o b j r (by simp at hl2; omega)) n s [] _ none none hn zFm_r rfl trivial (by simp) (fun x hx => absurd hx (by simp))
