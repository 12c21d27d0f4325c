/-! the judge: a law is asked -/
def zStk (V : z_M) : List Int → Prop
  | [] => True
  | a :: t => V 96 t.length = a ∧ zStk V t
theorem zStk_c {V W : z_M} : ∀ {st : List Int}, (∀ j, j < st.length → W 96 j = V 96 j) → zStk V st → zStk W st
  | [], _, _ => trivial
  | a :: t, h, h2 => ⟨by rw [h t.length (by simp)]; exact h2.1, zStk_c (fun j hj => h j (by simp; omega)) h2.2⟩
def zJ (V : z_M) (st : List Int) : Prop := V 94 2 = (st.length : Int) ∧ zStk V st
/-- what a step of the judge leaves as it was -/
def zJo (V W : z_M) : Prop := zOff 94 96 V W ∧ W 95 = V 95 ∧ W 94 5 = V 94 5 ∧ W 94 6 = V 94 6
theorem zJo_r {V : z_M} : zJo V V := ⟨zOff_r, rfl, rfl, rfl⟩
theorem zJo_t {U V W : z_M} (h : zJo U V) (h2 : zJo V W) : zJo U W := ⟨zOff_t h.1 h2.1, h2.2.1.trans h.2.1, h2.2.2.1.trans h.2.2.1, h2.2.2.2.trans h.2.2.2⟩
theorem sp21 {d : Nat} {Q : Int → z_M → Prop} {V : z_M} {a : Int} {st : List Int} (hJ : zJ V st) (hl : st.length < 40) (h1 : (-1000000000 ≤ a ∧ a ≤ 1000000000) → ∀ W, zJo V W → zJ W (a :: st) → W 94 4 = V 94 4 → W 94 3 = V 94 3 → Q 0 W) (h0 : ¬ (-1000000000 ≤ a ∧ a ≤ 1000000000) → ∀ W, zJo V W → W 94 4 = 1 → Q 0 W) :
    z_MS (d + 1) 21 true [.inr (.inr 94), .inr (.inl a)] V Q := by
  have hb : ¬ (-1000000000 ≤ a ∧ a ≤ 1000000000) → Q 0 (z_up V 94 4 1) := fun h => h0 h _ ⟨zOff_u zOff_r (by decide) (by decide), rfl, rfl, rfl⟩ rfl
  refine zb21_94 _ ?_
  simp only [z_lcmp_p, z_lcmp_n]
  refine z_ifc (fun hc => z_all (hb (by omega))) (fun hc => z_ifc (fun hc2 => z_all (hb (by omega))) (fun hc2 => ?_))
  have hh := hJ.1
  refine z_ifp (by omega) (z_gp (by omega) (z_all (z_all ?_)))
  have e : (V 94 2).toNat = st.length := by omega
  rw [e]
  have e2 : z_up V 96 st.length a 94 2 = V 94 2 := rfl
  rw [e2, hh, z_inc (by omega)]
  refine h1 (by omega) _ ⟨zOff_u (zOff_u zOff_r (by decide) (by decide)) (by decide) (by decide), rfl, rfl, rfl⟩ ⟨rfl, ?_, ?_⟩ rfl rfl
  · show z_up V 96 st.length a 96 st.length = a
    exact zUp_s
  · refine zStk_c (fun j hj => ?_) hJ.2
    show z_up V 96 st.length a 96 j = V 96 j
    exact zUp_o (by omega)
theorem sp22 {d : Nat} {Q : Int → z_M → Prop} {V : z_M} {a : Int} {st : List Int} (hJ : zJ V (a :: st)) (hl : st.length < 40) (h : ∀ W, zJo V W → zJ W st → W 94 4 = V 94 4 → W 94 3 = V 94 3 → Q a W) : z_MS (d + 1) 22 true [.inr (.inr 94)] V Q := by
  have hh := hJ.1
  rw [List.length_cons] at hh
  refine zb22_94 (z_ifp (by omega) (z_all ?_))
  rw [hh, z_dcs (by omega)]
  have e : z_up V 94 2 (st.length : Int) 94 2 = (st.length : Int) := rfl
  rw [e]
  refine z_gp (by omega) (z_all ?_)
  rw [Int.toNat_natCast]
  have e3 : z_up V 94 2 (st.length : Int) 96 st.length = a := hJ.2.1
  rw [e3]
  exact h _ ⟨zOff_u zOff_r (by decide) (by decide), rfl, rfl, rfl⟩ ⟨rfl, zStk_c (V := V) (fun j hj => rfl) hJ.2.2⟩ rfl rfl
/-- the class's word for an operation -/
theorem sp20 {d : Nat} {Q : Int → z_M → Prop} {V : z_M} {s op a b : Int} (hs : 2 ≤ s ∧ s ≤ 8) (ho : op = s + 18) (ha : -1000000000 ≤ a ∧ a ≤ 1000000000) (hb : -1000000000 ≤ b ∧ b ≤ 1000000000)
    (h1 : ∀ v z, (if -1000000000 ≤ z ∧ z ≤ 1000000000 then some z else none) = zRk op a b → v = z → Q v V) (h0 : zRk op a b = none → ∀ W, W = z_up V 94 4 1 → Q 0 W) (hbr : V 94 4 = 0) :
    z_MS (d + 1) 20 true [.inr (.inr 94), .inl s, .inr (.inl a), .inr (.inl b)] V Q := by
  have hm : -1000000000000000000 ≤ a * b ∧ a * b ≤ 1000000000000000000 := by
    have h2 : (a * b).natAbs ≤ 1000000000 * 1000000000 := by
      rw [Int.natAbs_mul]
      exact Nat.mul_le_mul (by omega) (by omega)
    omega
  subst ho
  refine zb20_94 _ _ _ ?_
  simp only [z_lcmp_p, z_lcmp_n, z_lcmp_0]
  refine z_ifc (fun e => ?_) (fun e => z_ifc (fun e => ?_) (fun e => z_ifc (fun e => ?_) (fun e => z_ifc (fun e => ?_) (fun e => z_ifc (fun e => ?_) (fun e => z_ifc (fun e => ?_) (fun e => ?_))))))
  · subst e
    exact h1 _ (a + b) (zRk_20 a b).symm (by rw [z_ladd_e (by omega)])
  · subst e
    exact h1 _ (a - b) (zRk_21 a b).symm (by rw [z_lsub_e (by omega)])
  · subst e
    exact h1 _ (a * b) (zRk_22 a b).symm (by rw [z_lmul_e (by omega)])
  · subst e
    refine z_all ?_
    rw [if_pos hbr]
    refine z_ifc (fun hb0 => ?_) (fun hb0 => ?_)
    · rw [if_pos hb0]
      exact h0 ((zRk_23 a b).trans (if_pos hb0)) _ rfl
    · rw [if_neg hb0]
      have eW : z_up V 94 4 0 = V := by
        funext x j
        rw [z_up_rd]
        split
        · split
          · rename_i e1 e2; rw [e1, e2, hbr]
          · rfl
        · rfl
      rw [eW]
      refine z_gp hb0 ?_
      exact h1 _ (a.tdiv b) ((zRk_23 a b).trans (if_neg hb0)).symm (z_ldiv_e ha hb hb0)
  · subst e
    exact h1 _ (if a < b then 1 else 0) (zRg_01.trans (zRk_24 a b).symm) rfl
  · subst e
    exact h1 _ (if b < a then 1 else 0) (zRg_01.trans (zRk_25 a b).symm) rfl
  · have e8 : s = 8 := by omega
    subst e8
    exact h1 _ (if a = b then 1 else 0) (zRg_01.trans (zRk_26 a b).symm) rfl
theorem zRg_n {op a b z : Int} (h : (if -1000000000 ≤ z ∧ z ≤ 1000000000 then some z else none) = zRk op a b) : ((-1000000000 ≤ z ∧ z ≤ 1000000000) ∧ zRk op a b = some z) ∨ (¬ (-1000000000 ≤ z ∧ z ≤ 1000000000) ∧ zRk op a b = none) := by
  by_cases hc : -1000000000 ≤ z ∧ z ≤ 1000000000
  · rw [if_pos hc] at h; exact Or.inl ⟨hc, h.symm⟩
  · rw [if_neg hc] at h; exact Or.inr ⟨hc, h.symm⟩
theorem sp19 {d : Nat} {Q : Int → z_M → Prop} {V : z_M} {t a u : Int} {st : List Int} (hJ : zJ V (a :: st)) (hl : st.length < 40) (h1 : a = t → ∀ W, zJo V W → zJ W (a :: st) → W 94 4 = V 94 4 → W 94 3 = u → Q 0 W) (h0 : ¬ a = t → ∀ W, zJo V W → zJ W st → W 94 4 = V 94 4 → W 94 3 = V 94 3 → Q 0 W) :
    z_MS (d + 1) 19 true [.inr (.inr 94), .inl t, .inl u] V Q := by
  have hh := hJ.1
  rw [List.length_cons] at hh
  refine zb19_94 _ _ (z_ifp (by omega) ?_)
  rw [hh, z_dcs (by omega)]
  refine z_gp (by omega) (z_all ?_)
  rw [Int.toNat_natCast, hJ.2.1]
  simp only [z_lcmp_0]
  refine z_ifc (fun e => z_all ?_) (fun e => z_ifp (by omega) (z_all ?_))
  · exact h1 e _ ⟨zOff_u zOff_r (by decide) (by decide), rfl, rfl, rfl⟩ ⟨hJ.1, zStk_c (V := V) (fun j hj => rfl) hJ.2⟩ rfl rfl
  · exact h0 e _ ⟨zOff_u zOff_r (by decide) (by decide), rfl, rfl, rfl⟩ ⟨rfl, zStk_c (V := V) (fun j hj => rfl) hJ.2.2⟩ rfl rfl
theorem zTr_0 {s u : Int} (h : zTr s u = 0) (hu : 0 ≤ u) : s = 0 := by
  unfold zTr at h
  repeat' split at h
  all_goals omega
theorem zTr_f {s u : Int} (h : 1 ≤ zTr s u ∧ zTr s u ≤ 9) : s = 1 ∧ 0 ≤ u ∧ u ≤ 8 ∧ zTr s u = u + 1 := by
  by_cases h1 : s = 1
  · subst h1
    unfold zTr at h ⊢
    rw [if_neg (by decide), if_pos rfl] at h ⊢
    split at h
    · rename_i h2
      rw [if_pos h2]
      exact ⟨rfl, h2.1, h2.2, rfl⟩
    · omega
  · exfalso
    unfold zTr at h
    repeat' split at h
    all_goals omega
theorem zTr_b {s u : Int} (h : 20 ≤ zTr s u ∧ zTr s u ≤ 26) : 2 ≤ s ∧ s ≤ 8 ∧ zTr s u = s + 18 := by
  unfold zTr at h ⊢
  repeat' split at h
  all_goals repeat' split
  all_goals omega
theorem zTr_n {s u : Int} (h : zTr s u = 27) : s = 9 := by
  unfold zTr at h
  repeat' split at h
  all_goals omega
theorem zTr_j {s u : Int} (h : zTr s u = 28 ∨ zTr s u = 29) : (zTr s u = 28 ∧ s = 11) ∨ (zTr s u = 29 ∧ s = 10) := by
  unfold zTr at h ⊢
  repeat' split at h
  all_goals repeat' split
  all_goals omega
theorem sp18b {d : Nat} {Q : Int → z_M → Prop} {V : z_M} {s u en op a b : Int} {r : List Int} (hs : 2 ≤ s ∧ s ≤ 8) (ho : op = s + 18) (hl : r.length < 38) (ha : -1000000000 ≤ a ∧ a ≤ 1000000000) (hb : -1000000000 ≤ b ∧ b ≤ 1000000000) (hJ : zJ V (b :: a :: r)) (hbr : V 94 4 = 0)
    (h1 : ∀ v, zRk op a b = some v → ∀ W, zJo V W → zJ W (v :: r) → W 94 4 = 0 → W 94 3 = V 94 3 → Q 0 W)
    (h0 : zRk op a b = none → ∀ W, zJo V W → W 94 4 = 1 → Q 0 W) :
    z_MS (d + 2) 18 true [.inr (.inr 94), .inl s, .inl u, .inl en] V Q := by
  have hE : z_Ex (z_MS (d + 1)) 18 Q true 192 [some (.inr (.inr 94)), some (.inl s), some (.inl u), some (.inl en), none, none, none, none] [] 0 0 V := by
    refine zb18_94_p192 _ _ _ ?_
    refine sp22 hJ (by simp; omega) (fun W1 o1 j1 b1 r1 => ?_)
    refine sp22 j1 (by omega) (fun W2 o2 j2 b2 r2 => ?_)
    have hbr2 : W2 94 4 = 0 := by rw [b2, b1, hbr]
    refine sp20 hs ho ha hb (fun v z hz hv => ?_) (fun hn W3 hW3 => ?_) hbr2
    · subst hv
      refine sp21 j2 (by omega) (fun hc W o j b3 r3 => ?_) (fun hc W o b3 => ?_)
      · rcases zRg_n hz with ⟨_, e⟩ | ⟨e, _⟩
        · exact h1 _ e W (zJo_t o1 (zJo_t o2 o)) j (by rw [b3, hbr2]) (by rw [r3, r2, r1])
        · exact absurd hc e
      · rcases zRg_n hz with ⟨e, _⟩ | ⟨_, e⟩
        · exact absurd e hc
        · exact h0 e W (zJo_t o1 (zJo_t o2 o)) b3
    · subst hW3
      have o3 : zJo W2 (z_up W2 94 4 1) := ⟨zOff_u zOff_r (by decide) (by decide), rfl, rfl, rfl⟩
      refine sp21 (st := r) ⟨j2.1, zStk_c (V := W2) (fun j hj => rfl) j2.2⟩ (by omega) (fun hc W o j b3 r3 => ?_) (fun hc W o b3 => ?_)
      · exact h0 hn W (zJo_t o1 (zJo_t o2 (zJo_t o3 o))) b3
      · exact absurd (by decide) hc
  refine zb18_94 _ _ _ ?_
  have hc : s = 2 ∨ s = 3 ∨ s = 4 ∨ s = 5 ∨ s = 6 ∨ s = 7 ∨ s = 8 := by omega
  rcases hc with rfl | rfl | rfl | rfl | rfl | rfl | rfl <;> (repeat (first | exact hE | refine z_ifp (by decide) ?_ | refine z_ifn (by decide) ?_))
theorem sp18s {d : Nat} {Q : Int → z_M → Prop} {V : z_M} {op arg f : Nat → Int} {k k1 : Nat} {st st1 : List Int} {s u en : Int} (hf : zFb f) (hfa : ∀ i, i < 9 → V 95 i = f i) (ho : op k = zTr s u) (ha : arg k = u) (hK : zKs op arg f k st k1 st1) (hl : st.length ≤ 39) (hr : ∀ x ∈ st, -1000000000 ≤ x ∧ x ≤ 1000000000) (hJ : zJ V st) (hbr : V 94 4 = 0)
    (h : ∀ W, zJo V W → zJ W st1 → W 94 4 = 0 → (W 94 3 = (k1 : Int) ∨ (k1 = k + 1 ∧ W 94 3 = V 94 3)) → Q 0 W) :
    z_MS (d + 2) 18 true [.inr (.inr 94), .inl s, .inl u, .inl en] V Q := by
  rcases hK with ⟨c1, c2, c3, c4⟩ | ⟨c1, c2, c3, c4⟩ | ⟨c1, c2, b, a, r, v, c3, c4, c5, c6⟩ | ⟨c1, a, r, c2, c3, c4, c5⟩ | ⟨c1, a, r, c2, c3⟩
  · rw [ha] at c2 c4
    have e := zTr_0 (by rw [← ho]; exact c1) c2.1
    subst e
    refine zb18_94 _ _ _ (z_ifp rfl ?_)
    refine sp21 hJ (by omega) (fun hc W o j b3 r3 => ?_) (fun hc => absurd (by omega) hc)
    subst c4
    exact h W o j (by rw [b3, hbr]) (Or.inr ⟨c3, r3⟩)
  · rw [ho] at c1 c2 c4
    obtain ⟨e1, e2, e3, e4⟩ := zTr_f ⟨c1, c2⟩
    subst e1
    refine zb18_94 _ _ _ (z_ifn (by decide) (z_ifp rfl ?_))
    rw [show z_sub 9 1 = 8 from by decide +kernel]
    refine sp133 (fun _ => z_ifn (by decide) (z_gp (by omega) (z_all ?_))) (fun hn => absurd (by omega) hn)
    obtain ⟨i, rfl⟩ := Int.eq_ofNat_of_zero_le e2
    have ei : (zTr 1 (i : Int)).toNat - 1 = i := by omega
    rw [ei] at c4
    rw [Int.toNat_natCast, hfa i (by omega)]
    refine sp21 hJ (by omega) (fun hc W o j b3 r3 => ?_) (fun hc => absurd (hf i (by omega)) hc)
    subst c4
    exact h W o j (by rw [b3, hbr]) (Or.inr ⟨c3, r3⟩)
  · rw [ho] at c1 c2 c4
    obtain ⟨e1, e2, e3⟩ := zTr_b ⟨c1, c2⟩
    subst c3
    have ra := hr a (by simp)
    have rb := hr b (by simp)
    refine sp18b ⟨e1, e2⟩ e3 (by simp at hl; omega) ra rb hJ hbr (fun w hw W o j b3 r3 => ?_) (fun hn => ?_)
    · rw [c4] at hw
      injection hw with hw
      subst hw
      subst c6
      exact h W o j b3 (Or.inr ⟨c5, r3⟩)
    · rw [c4] at hn
      exact absurd hn (by simp)
  · rw [ho] at c1
    have e := zTr_n c1
    subst e
    subst c2
    refine zb18_94 _ _ _ ?_
    repeat (first | refine z_ifp (by decide) ?_ | refine z_ifn (by decide) ?_)
    refine sp22 hJ (by simp at hl; omega) (fun W1 o1 j1 b1 r1 => ?_)
    rw [z_lsub_e (by omega)]
    refine sp21 j1 (by simp at hl; omega) (fun hc W o j b3 r3 => ?_) (fun hc => absurd (by omega) hc)
    subst c5
    exact h W (zJo_t o1 o) j (by rw [b3, b1, hbr]) (Or.inr ⟨c4, by rw [r3, r1]⟩)
  · subst c2
    rw [ho, ha] at c3
    rw [ho] at c1
    rcases zTr_j c1 with ⟨e1, e2⟩ | ⟨e1, e2⟩
    · subst e2
      rw [if_pos e1] at c3
      refine zb18_94 _ _ _ ?_
      repeat (first | refine z_ifp (by decide) ?_ | refine z_ifn (by decide) ?_)
      refine sp19 hJ (by simp at hl; omega) (fun e W o j b3 r3 => ?_) (fun e W o j b3 r3 => ?_)
      · rcases c3 with ⟨_, q2, q3⟩ | ⟨q1, _⟩
        · subst q3
          exact h W o j (by rw [b3, hbr]) (Or.inl (by rw [r3, q2]))
        · exact absurd e q1
      · rcases c3 with ⟨q1, _⟩ | ⟨_, q2, q3⟩
        · exact absurd q1 e
        · subst q3
          exact h W o j (by rw [b3, hbr]) (Or.inr ⟨q2, r3⟩)
    · subst e2
      rw [if_neg (by omega)] at c3
      refine zb18_94 _ _ _ ?_
      repeat (first | refine z_ifp (by decide) ?_ | refine z_ifn (by decide) ?_)
      refine sp19 hJ (by simp at hl; omega) (fun e W o j b3 r3 => ?_) (fun e W o j b3 r3 => ?_)
      · rcases c3 with ⟨_, q2, q3⟩ | ⟨q1, _⟩
        · subst q3
          exact h W o j (by rw [b3, hbr]) (Or.inl (by rw [r3, q2]))
        · exact absurd e q1
      · rcases c3 with ⟨q1, _⟩ | ⟨_, q2, q3⟩
        · exact absurd q1 e
        · subst q3
          exact h W o j (by rw [b3, hbr]) (Or.inr ⟨q2, r3⟩)
