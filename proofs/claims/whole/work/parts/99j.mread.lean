/-! the reference's machine of readings: its methods -/
section
variable {d : Nat} {Q : Int → z_M → Prop} {V : z_M} {b : Nat → Int} {L f k s p o : Nat}
theorem sq177 {w : Int} {c : Nat} (hT : zqT V b L f) (hc : zpCd c = w) (c1 : 8 ≤ c) (c2 : c < 22) (h1 : zpWd b L f c = true → Q 1 V) (h0 : zpWd b L f c = false → Q 0 V) : z_MS (d + 1) 177 true [.inr (.inr 141), .inr (.inl w)] V Q := by
  obtain ⟨t1, t2, t3, t4, t5⟩ := hT
  have k := zpWd_c (b := b) c1 c2 t5
  rw [hc] at k
  refine zb177_141 _ ?_
  rw [t3, t4]
  simp only [z_lcmp_0]
  by_cases q1 : zpSo b L f = 1
  · rw [if_pos q1]
    by_cases q2 : zpWr b L f = w
    · rw [if_pos q2]; exact h1 (k.mp ⟨q1, q2⟩)
    · rw [if_neg q2]; exact h0 (Bool.eq_false_iff.mpr fun x => q2 (k.mpr x).2)
  · rw [if_neg q1]; exact h0 (Bool.eq_false_iff.mpr fun x => q1 (k.mpr x).1)
theorem sq178 {c : Int} (hT : zqT V b L f) (c1 : ¬ (97 ≤ c ∧ c ≤ 122)) (c2 : ¬ (48 ≤ c ∧ c ≤ 57)) (h1 : zpSg b L f c = true → Q 1 V) (h0 : zpSg b L f c = false → Q 0 V) : z_MS (d + 1) 178 true [.inr (.inr 141), .inl c] V Q := by
  obtain ⟨t1, t2, t3, t4, t5⟩ := hT
  have k := zpSg_c (b := b) (L := L) (f := f) c1 c2
  refine zb178_141 _ ?_
  rw [t3, t4]
  simp only [z_lcmp_0]
  by_cases q1 : zpSo b L f = 3
  · rw [if_pos q1]
    by_cases q2 : zpWr b L f = c
    · rw [if_pos q2]; exact h1 (k.mp ⟨q1, q2⟩)
    · rw [if_neg q2]; exact h0 (Bool.eq_false_iff.mpr fun x => q2 (k.mpr x).2)
  · rw [if_neg q1]; exact h0 (Bool.eq_false_iff.mpr fun x => q1 (k.mpr x).1)
theorem sq183 {x : Int} (h : Q (zqBi x) V) : z_MS (d + 1) 183 true [.inl x] V Q := by
  unfold zqBi at h
  refine zb183 _ (z_ifc (fun q => ?_) (fun q => ?_))
  · rw [if_pos q] at h; exact h
  · rw [if_neg q] at h; exact h
theorem zqS_n {W : z_M} (hS : zqS V b L f k s p o) (hn : zqN V W) (hT : zqT W b L (zpNx b L f)) : zqS W b L (zpNx b L f) k s p o := by
  obtain ⟨h1, h2, h3, h4, h5, h6, h7, h8, h9⟩ := hS
  exact ⟨zqB_n h1 hn, hT, (hn.2 14 (by omega)).trans h3, (hn.2 13 (by omega)).trans h4, (hn.2 20 (by omega)).trans h5, (hn.2 17 (by omega)).trans h6, (hn.2 23 (by omega)).trans h7, (hn.2 24 (by omega)).trans h8, fun j hj => by rw [hn.1 151 (by decide)]; exact h9 j hj⟩
theorem sqx176 (hS : zqS V b L f k s p o) (h : ∀ W, zqN V W → zqS W b L (zpNx b L f) k s p o → Q 0 W) : z_MS (d + 2) 176 true [.inr (.inr 141)] V Q :=
  sp176 hS.1 hS.2.1.2.1 (zpTe_p hS.2.1.2.2.2.2).2.1 (fun W w1 w2 => h W w1 (zqS_n hS w1 w2))
theorem sq179 {c : Int} (hS : zqS V b L f k s p o) (hg : s + p ≤ 400) (h1 : ¬ c = 0 → ∀ W, zqN V W → zqS W b L (zpNx b L f) k s p o → Q 0 W) (h0 : c = 0 → ∀ W, zqX V W → zqZ W → W 141 13 = (f : Int) → Q 0 W) : z_MS (d + 3) 179 true [.inr (.inr 141), .inl c] V Q := by
  have hS0 := hS
  obtain ⟨hB, hT, h14, h13, h20, h17, h23, h24, h9⟩ := hS
  refine zb179_141 _ (z_ifp h14 (z_ifc (fun q => z_all (z_all (z_ifn ?_ ?_))) (fun q => z_ifp h14 (sqx176 hS0 (h1 q)))))
  · simp (disch := omega) only [zUp_o, zUp_s]; decide
  · refine h0 q _ ?_ ?_ ?_
    · exact ⟨fun a x1 _ _ _ _ => by rw [z_up_cell x1, z_up_cell x1], fun k hk => by rw [zUp_o (by unfold zqK at hk; omega), zUp_o (by unfold zqK at hk; omega)]⟩
    · refine ⟨by simp (disch := omega) only [zUp_o, zUp_s], s, p, by simp (disch := omega) only [zUp_o]; exact h17, by simp (disch := omega) only [zUp_o]; exact h23, hg, fun j hj => ?_⟩
      rw [z_up_cell (by decide), z_up_cell (by decide)]
      exact h9 j hj
    · simp (disch := omega) only [zUp_o, zUp_s]
      exact hT.1
theorem sq181 {x y : Int} (h17 : V 141 17 = (s : Int)) (hs : s < 400) (h : Q 0 (zqE V s x y)) : z_MS (d + 1) 181 true [.inr (.inr 141), .inl x, .inl y] V Q := by
  refine zb181_141 _ _ ?_
  rw [h17]
  refine z_gp (by omega) (z_all ?_)
  rw [Int.toNat_natCast]
  have e1 : z_up V 148 s x 141 17 = (s : Int) := by rw [z_up_cell (by decide)]; exact h17
  rw [e1]
  refine z_gp (by omega) (z_all (z_all ?_))
  rw [Int.toNat_natCast]
  have e2 : z_up (z_up V 148 s x) 149 s y 141 17 = (s : Int) := by rw [z_up_cell (by decide)]; exact e1
  rw [e2, z_inc (by omega)]
  exact h
theorem sq182 {x y : Int} (h23 : V 141 23 = (p : Int)) (hp : p < 400) (h : Q 0 (zqU V p x y)) : z_MS (d + 1) 182 true [.inr (.inr 141), .inl x, .inl y] V Q := by
  refine zb182_141 _ _ ?_
  rw [h23]
  refine z_gp (by omega) (z_all ?_)
  rw [Int.toNat_natCast]
  have e1 : z_up V 150 p x 141 23 = (p : Int) := by rw [z_up_cell (by decide)]; exact h23
  rw [e1]
  refine z_gp (by omega) (z_all (z_all ?_))
  rw [Int.toNat_natCast]
  have e2 : z_up (z_up V 150 p x) 151 p y 141 23 = (p : Int) := by rw [z_up_cell (by decide)]; exact e1
  rw [e2, z_inc (by omega)]
  exact h
theorem sq184_0 {lo : Int} : ∀ (e : Nat) (V : z_M) (p s : Nat), V 141 23 = ((p + e : Nat) : Int) → V 141 17 = (s : Int) → s + e ≤ 400 → p + e ≤ 400 → (∀ j, j < p + e → 0 ≤ V 151 j ∧ V 151 j < 400) → (∀ i, i < e → lo ≤ zqBi (V 150 (p + i))) → (p = 0 ∨ zqBi (V 150 (p - 1)) < lo) → Q 0 (zqP e V) → z_Ex (z_MS (d + 1)) 184 Q true 0 [some (.inr (.inr 141)), some (.inl lo)] [] 0 0 V
  | 0, V, p, s, h23, h17, hs, hp, hat, hlo, hst, h => by
    refine zb184_141_p0 _ ?_
    rw [h23]
    by_cases p0 : p = 0
    · exact z_ifn (by omega) h
    · have hst2 := hst.resolve_left p0
      refine z_ifp (by omega) ?_
      rw [z_sub_e (by omega), show (((p + 0 : Nat) : Int) - 1) = ((p - 1 : Nat) : Int) by omega, Int.toNat_natCast]
      exact z_gp (by omega) (z_all (sq183 (z_ifp hst2 h)))
  | e + 1, V, p, s, h23, h17, hs, hp, hat, hlo, hst, h => by
    have hlo1 := hlo e (by omega)
    have hat1 := hat (p + e) (by omega)
    have ih := fun s2 (a0 : s2 + e ≤ 400) a1 a2 a3 => sq184_0 (lo := lo) e (zqO V) p s2 a1 a2 a0 (by omega) a3
    refine zb184_141_p0 _ ?_
    rw [h23]
    refine z_ifp (by omega) ?_
    have e0 : (((p + (e + 1) : Nat) : Int) - 1) = ((p + e : Nat) : Int) := by omega
    rw [z_sub_e (by omega), e0, Int.toNat_natCast]
    refine z_gp (by omega) (z_all (sq183 (z_ifn (by omega) (z_all ?_))))
    rw [h23, z_sub_e (by omega), e0]
    have e23 : z_up V 141 23 ((p + e : Nat) : Int) 141 23 = ((p + e : Nat) : Int) := zUp_s
    have e17 : z_up V 141 23 ((p + e : Nat) : Int) 141 17 = (s : Int) := by rw [zUp_o (by omega)]; exact h17
    have c150 : z_up V 141 23 ((p + e : Nat) : Int) 150 = V 150 := z_up_cell (by decide)
    have c151 : z_up V 141 23 ((p + e : Nat) : Int) 151 = V 151 := z_up_cell (by decide)
    rw [e23, Int.toNat_natCast, c150, c151, e17]
    have h23' : V 141 23 = ((p + e + 1 : Nat) : Int) := by rw [h23]; omega
    have log : V 150 (p + e) = 28 ∨ V 150 (p + e) = 29 → z_Ex (z_MS (d + 1)) 184 Q true 0 [some (.inr (.inr 141)), some (.inl lo)] [] 0 0 (z_up (z_up V 141 23 ((p + e : Nat) : Int)) 149 (V 151 (p + e)).toNat (s : Int)) := by
      intro ho
      have eo := zqO_l h23' h17 ho
      have ih2 := ih s (by omega) (by rw [eo, z_up_cell (by decide), zUp_s]) (by rw [eo, z_up_cell (by decide), zUp_o (by omega)]; exact h17) (by rw [eo, z_up_cell (by decide), z_up_cell (by decide)]; exact fun j hj => hat j (by omega)) (by rw [eo, z_up_cell (by decide), z_up_cell (by decide)]; exact fun i hi => hlo i (by omega)) (by rw [eo, z_up_cell (by decide), z_up_cell (by decide)]; exact hst) h
      rw [eo] at ih2
      exact ih2
    refine z_gp (by omega) (z_all (z_ifc (fun q => z_gp (by omega) (z_all (z_gp (by omega) (z_all (log (Or.inl q)))))) (fun q => z_gp (by omega) (z_all (z_ifc (fun q2 => z_gp (by omega) (z_all (z_gp (by omega) (z_all (log (Or.inr q2)))))) (fun q2 => z_gp (by omega) (z_all ?_)))))))
    refine sq181 (d := d) e17 (by omega) ?_
    have ho : ¬ (V 150 (p + e) = 28 ∨ V 150 (p + e) = 29) := by omega
    have eo := zqO_e h23' h17 ho
    have z := zqE_p (V := z_up V 141 23 ((p + e : Nat) : Int)) (s := s) (op := V 150 (p + e)) (arg := 0)
    have f150 := z.2.2.2.2.2 150 (by decide) (by decide) (by decide)
    have f151 := z.2.2.2.2.2 151 (by decide) (by decide) (by decide)
    have ih2 := ih (s + 1) (by omega) (by rw [eo, z.2.2.2.2.1 23 (by decide)]; exact e23) (by rw [eo]; exact z.2.2.1) (by rw [eo, f151, c151]; exact fun j hj => hat j (by omega)) (by rw [eo, f150, c150]; exact fun i hi => hlo i (by omega)) (by rw [eo, f150, c150]; exact hst) h
    rw [eo] at ih2
    exact ih2
theorem sq184 {lo : Int} {e : Nat} (h23 : V 141 23 = ((p + e : Nat) : Int)) (h17 : V 141 17 = (s : Int)) (hs : s + e ≤ 400) (hp : p + e ≤ 400) (hat : ∀ j, j < p + e → 0 ≤ V 151 j ∧ V 151 j < 400) (hlo : ∀ i, i < e → lo ≤ zqBi (V 150 (p + i))) (hst : p = 0 ∨ zqBi (V 150 (p - 1)) < lo) (h : Q 0 (zqP e V)) : z_MS (d + 2) 184 true [.inr (.inr 141), .inl lo] V Q :=
  zb184_141 _ (sq184_0 e V p s h23 h17 hs hp hat hlo hst h)
/-- the innermost bracket that stands open -/
def zqI (V : z_M) : Nat → Int
  | 0 => -1
  | p + 1 => if V 150 p < 30 then zqI V p else V 150 p
theorem zqI_e {p : Nat} : ∀ {e : Nat}, (∀ i, i < e → V 150 (p + i) < 30) → zqI V (p + e) = zqI V p
  | 0, _ => rfl
  | e + 1, h => by
    show (if V 150 (p + e) < 30 then zqI V (p + e) else V 150 (p + e)) = _
    rw [if_pos (h e (by omega))]
    exact zqI_e (fun i hi => h i (by omega))
theorem zqI_c {W : z_M} : ∀ {p : Nat}, (∀ j, j < p → W 150 j = V 150 j) → zqI W p = zqI V p
  | 0, _ => rfl
  | p + 1, h => by
    show (if W 150 p < 30 then zqI W p else W 150 p) = (if V 150 p < 30 then zqI V p else V 150 p)
    rw [h p (by omega), zqI_c (fun j hj => h j (by omega))]
theorem sq185 (h23 : V 141 23 = (p : Int)) (hp : p ≤ 400) (h : Q (zqI V p) V) : z_MS (d + 1) 185 true [.inr (.inr 141)] V Q := by
  have lp : ∀ n q : Nat, q + n = p → z_Ex (z_MS d) 185 Q true 4 [some (.inr (.inr 141)), some (.inl (zqI V q)), some (.inl (q : Int))] [] 0 0 V := by
    intro n
    induction n with
    | zero =>
      intro q e
      have : q = p := by omega
      subst this
      exact zb185_141_p4 _ _ (z_ifn (by omega) h)
    | succ n ih =>
      intro q e
      have e2 : zqI V (q + 1) = if V 150 q < 30 then zqI V q else V 150 q := rfl
      refine zb185_141_p4 _ _ (z_ifp (by omega) (z_gp (by omega) (z_all ?_)))
      rw [Int.toNat_natCast, z_inc (by omega)]
      have ih2 := ih (q + 1) (by omega)
      rw [e2] at ih2
      refine z_ifc (fun c => ?_) (fun c => z_gp (by omega) (z_all ?_))
      · rw [if_pos c] at ih2; exact ih2
      · rw [if_neg c] at ih2; exact ih2
  exact zb185_141 (lp p 0 (by omega))
/-- whether a sum stands behind a comparison's sign already -/
theorem sq186 {e : Nat} (h23 : V 141 23 = ((p + e : Nat) : Int)) (hp : p + e ≤ 400) (he : ∀ i, i < e → 20 ≤ V 150 (p + i) ∧ V 150 (p + i) ≤ 23) (hst : p = 0 ∨ ¬ (20 ≤ V 150 (p - 1) ∧ V 150 (p - 1) ≤ 23)) (h1 : (¬ p = 0 ∧ 24 ≤ V 150 (p - 1) ∧ V 150 (p - 1) ≤ 26) → Q 1 V) (h0 : ¬ (¬ p = 0 ∧ 24 ≤ V 150 (p - 1) ∧ V 150 (p - 1) ≤ 26) → Q 0 V) : z_MS (d + 2) 186 true [.inr (.inr 141)] V Q := by
  have lp : ∀ e : Nat, p + e ≤ 400 → (∀ i, i < e → 20 ≤ V 150 (p + i) ∧ V 150 (p + i) ≤ 23) → z_Ex (z_MS (d + 1)) 186 Q true 7 [some (.inr (.inr 141)), some (.inl (((p + e : Nat) : Int) - 1))] [] 0 0 V := by
    intro e
    induction e with
    | zero =>
      intro hp he
      refine zb186_141_p7 _ ?_
      by_cases p0 : p = 0
      · exact z_ifp (by omega) (z_ifp (by omega) (h0 (fun x => x.1 p0)))
      · have hst2 := hst.resolve_left p0
        refine z_ifn (by omega) (z_gp (by omega) (z_all ?_))
        rw [show (((p + 0 : Nat) : Int) - 1).toNat = p - 1 by omega]
        refine sp145 (d := d) (fun q => absurd q hst2) (fun q => z_ifp rfl (z_ifn (by omega) (z_gp (by omega) (z_all ?_))))
        refine sp145 (d := d) (fun q => ?_) (fun q => ?_)
        · rw [if_neg (by decide)]; exact h1 ⟨p0, q⟩
        · rw [if_pos rfl]; exact h0 (fun x => q x.2)
    | succ e ih =>
      intro hp he
      refine zb186_141_p7 _ (z_ifn (by omega) (z_gp (by omega) (z_all ?_)))
      rw [show (((p + (e + 1) : Nat) : Int) - 1).toNat = p + e by omega]
      refine sp145 (d := d) (fun q => z_ifn (by decide) ?_) (fun q => absurd (he e (by omega)) q)
      rw [z_add_e (by omega), show ((p + (e + 1) : Nat) : Int) - 1 + -1 = ((p + e : Nat) : Int) - 1 by omega]
      exact ih (by omega) (fun i hi => he i (by omega))
  refine zb186_141 ?_
  rw [h23, z_sub_e (by omega)]
  exact lp e hp he
def zqW (b : Nat → Int) (L f : Nat) : Nat → Int
  | 0 => -1
  | k + 1 => if zpSo b L f = 1 ∧ zpWr b L f = zWo k then ((k + 1 : Nat) : Int) else zqW b L f k
theorem zqW_9 (hf : f ≤ L) : zqW b L f 9 = if zpFa b L f = -1 then -1 else zpFa b L f + 1 := by
  obtain ⟨c8, c9, c10, c11, c12, c13, c14, c15, c16, c17, c18, c19, c20, c21⟩ := zpCds
  have k14 := zpWd_c (b := b) (L := L) (f := f) (s := 14) (by decide) (by decide) hf
  have k15 := zpWd_c (b := b) (L := L) (f := f) (s := 15) (by decide) (by decide) hf
  have k16 := zpWd_c (b := b) (L := L) (f := f) (s := 16) (by decide) (by decide) hf
  have k17 := zpWd_c (b := b) (L := L) (f := f) (s := 17) (by decide) (by decide) hf
  have k18 := zpWd_c (b := b) (L := L) (f := f) (s := 18) (by decide) (by decide) hf
  have k19 := zpWd_c (b := b) (L := L) (f := f) (s := 19) (by decide) (by decide) hf
  have k20 := zpWd_c (b := b) (L := L) (f := f) (s := 20) (by decide) (by decide) hf
  have k21 := zpWd_c (b := b) (L := L) (f := f) (s := 21) (by decide) (by decide) hf
  have k8 := zpWd_c (b := b) (L := L) (f := f) (s := 8) (by decide) (by decide) hf
  rw [c14] at k14
  rw [c15] at k15
  rw [c16] at k16
  rw [c17] at k17
  rw [c18] at k18
  rw [c19] at k19
  rw [c20] at k20
  rw [c21] at k21
  rw [c8] at k8
  have e : zqW b L f 9 = if zpSo b L f = 1 ∧ zpWr b L f = 2262611 then 9 else if zpSo b L f = 1 ∧ zpWr b L f = 153204 then 8 else if zpSo b L f = 1 ∧ zpWr b L f = 278194 then 7 else if zpSo b L f = 1 ∧ zpWr b L f = 659104901 then 6 else if zpSo b L f = 1 ∧ zpWr b L f = 777297172 then 5 else if zpSo b L f = 1 ∧ zpWr b L f = 12769452 then 4 else if zpSo b L f = 1 ∧ zpWr b L f = 21242987 then 3 else if zpSo b L f = 1 ∧ zpWr b L f = 21566500 then 2 else if zpSo b L f = 1 ∧ zpWr b L f = 609259698 then 1 else -1 := rfl
  have e2 : zpFa b L f = if zpSo b L f = 1 ∧ zpWr b L f = 609259698 then 0 else if zpSo b L f = 1 ∧ zpWr b L f = 21566500 then 1 else if zpSo b L f = 1 ∧ zpWr b L f = 21242987 then 2 else if zpSo b L f = 1 ∧ zpWr b L f = 12769452 then 3 else if zpSo b L f = 1 ∧ zpWr b L f = 777297172 then 4 else if zpSo b L f = 1 ∧ zpWr b L f = 659104901 then 5 else if zpSo b L f = 1 ∧ zpWr b L f = 278194 then 6 else if zpSo b L f = 1 ∧ zpWr b L f = 153204 then 7 else if zpSo b L f = 1 ∧ zpWr b L f = 2262611 then 8 else -1 := by
    unfold zpFa
    simp only [k14, k15, k16, k17, k18, k19, k20, k21, k8]
  rw [e, e2]
  generalize zpSo b L f = x
  generalize zpWr b L f = y
  by_cases hx : x = 1
  · subst hx
    by_cases y1 : y = 2262611
    · subst y1; rfl
    · by_cases y2 : y = 153204
      · subst y2; rfl
      · by_cases y3 : y = 278194
        · subst y3; rfl
        · by_cases y4 : y = 659104901
          · subst y4; rfl
          · by_cases y5 : y = 777297172
            · subst y5; rfl
            · by_cases y6 : y = 12769452
              · subst y6; rfl
              · by_cases y7 : y = 21242987
                · subst y7; rfl
                · by_cases y8 : y = 21566500
                  · subst y8; rfl
                  · by_cases y9 : y = 609259698
                    · subst y9; rfl
                    · simp only [y1, y2, y3, y4, y5, y6, y7, y8, y9, and_false, if_false]
                      rfl
  · simp only [hx, false_and, if_false]
    rfl
theorem sq187 (hB : zqB V b L) (hT : zqT V b L f) (h : Q (if zpFa b L f = -1 then -1 else zpFa b L f + 1) V) : z_MS (d + 2) 187 true [.inr (.inr 141)] V Q := by
  rw [← zqW_9 hT.2.2.2.2] at h
  have lp : ∀ n q : Nat, q + n = 9 → z_Ex (z_MS (d + 1)) 187 Q true 4 [some (.inr (.inr 141)), some (.inl (zqW b L f q)), some (.inl (q : Int))] [] 0 0 V := by
    intro n
    induction n with
    | zero =>
      intro q e
      have : q = 9 := by omega
      subst this
      exact zb187_141_p4 _ _ (z_ifn (by decide) h)
    | succ n ih =>
      intro q e
      have ih2 := ih (q + 1) (by omega)
      have e2 : zqW b L f (q + 1) = if zpSo b L f = 1 ∧ zpWr b L f = zWo q then ((q + 1 : Nat) : Int) else zqW b L f q := rfl
      refine zb187_141_p4 _ _ (z_ifp (by omega) (z_gp (by omega) (z_all ?_)))
      rw [Int.toNat_natCast, hB.2.2.2 q (by omega), z_inc (by omega)]
      refine zb177_141 _ ?_
      rw [hT.2.2.1, hT.2.2.2.1]
      simp only [z_lcmp_0]
      rw [e2] at ih2
      by_cases q1 : zpSo b L f = 1
      · rw [if_pos q1]
        by_cases q2 : zpWr b L f = zWo q
        · rw [if_pos q2, if_neg (by decide)]
          rw [if_pos ⟨q1, q2⟩] at ih2
          exact ih2
        · rw [if_neg q2, if_pos rfl]
          rw [if_neg (fun x => q2 x.2)] at ih2
          exact ih2
      · rw [if_neg q1, if_pos rfl]
        rw [if_neg (fun x => q1 x.1)] at ih2
        exact ih2
  exact zb187_141 (lp 9 0 (by omega))
theorem zqS_u {x y : Int} (hS : zqS V b L f k s p o) (hy : 0 ≤ y ∧ y < 400) : zqS (zqU V p x y) b L f k s (p + 1) o := by
  obtain ⟨⟨b1, b2, b3, b4⟩, ⟨t1, t2, t3, t4, t5⟩, h14, h13, h20, h17, h23, h24, h9⟩ := hS
  obtain ⟨u1, u2, u3, u4, u5, u6⟩ := zqU_p (V := V) (p := p) (op := x) (at_ := y)
  refine ⟨⟨(u5 8 (by decide)).trans b1, b2, by rw [u6 146 (by decide) (by decide) (by decide)]; exact b3, by rw [u6 152 (by decide) (by decide) (by decide)]; exact b4⟩, ⟨(u5 9 (by decide)).trans t1, (u5 10 (by decide)).trans t2, (u5 11 (by decide)).trans t3, (u5 12 (by decide)).trans t4, t5⟩, (u5 14 (by decide)).trans h14, (u5 13 (by decide)).trans h13, (u5 20 (by decide)).trans h20, (u5 17 (by decide)).trans h17, u3, (u5 24 (by decide)).trans h24, fun j hj => ?_⟩
  by_cases e : j = p
  · subst e; rw [u2]; exact hy
  · rw [(u4 j e).2]; exact h9 j (by omega)
theorem zqS_e {x y : Int} (hS : zqS V b L f k s p o) : zqS (zqE V s x y) b L f k (s + 1) p o := by
  obtain ⟨⟨b1, b2, b3, b4⟩, ⟨t1, t2, t3, t4, t5⟩, h14, h13, h20, h17, h23, h24, h9⟩ := hS
  obtain ⟨u1, u2, u3, u4, u5, u6⟩ := zqE_p (V := V) (s := s) (op := x) (arg := y)
  exact ⟨⟨(u5 8 (by decide)).trans b1, b2, by rw [u6 146 (by decide) (by decide) (by decide)]; exact b3, by rw [u6 152 (by decide) (by decide) (by decide)]; exact b4⟩, ⟨(u5 9 (by decide)).trans t1, (u5 10 (by decide)).trans t2, (u5 11 (by decide)).trans t3, (u5 12 (by decide)).trans t4, t5⟩, (u5 14 (by decide)).trans h14, (u5 13 (by decide)).trans h13, (u5 20 (by decide)).trans h20, u3, (u5 23 (by decide)).trans h23, (u5 24 (by decide)).trans h24, by rw [u6 151 (by decide) (by decide) (by decide)]; exact h9⟩
/-- one field of the machine's own changed -/
theorem zqS_f {j : Nat} {v : Int} {k2 s2 p2 o2 : Nat} (hS : zqS V b L f k s p o) (hj : 17 ≤ j ∧ j ≤ 24) (e20 : (if j = 20 then v else V 141 20) = (k2 : Int)) (e17 : (if j = 17 then v else V 141 17) = (s2 : Int)) (e23 : (if j = 23 then v else V 141 23) = (p2 : Int)) (e24 : (if j = 24 then v else V 141 24) = (o2 : Int)) (hp : p2 ≤ p) : zqS (z_up V 141 j v) b L f k2 s2 p2 o2 := by
  obtain ⟨⟨b1, b2, b3, b4⟩, ⟨t1, t2, t3, t4, t5⟩, h14, h13, h20, h17, h23, h24, h9⟩ := hS
  have u5 : ∀ i, i < 17 → z_up V 141 j v 141 i = V 141 i := fun i hi => zUp_o (by omega)
  have u6 : ∀ i, z_up V 141 j v 141 i = if j = i then v else V 141 i := fun i => by
    by_cases e : i = j
    · subst e; rw [zUp_s, if_pos rfl]
    · rw [zUp_o (by omega), if_neg (fun x => e x.symm)]
  exact ⟨⟨(u5 8 (by decide)).trans b1, b2, by rw [z_up_cell (by decide)]; exact b3, by rw [z_up_cell (by decide)]; exact b4⟩, ⟨(u5 9 (by decide)).trans t1, (u5 10 (by decide)).trans t2, (u5 11 (by decide)).trans t3, (u5 12 (by decide)).trans t4, t5⟩, (u5 14 (by decide)).trans h14, (u5 13 (by decide)).trans h13, (u6 20).trans e20, (u6 17).trans e17, (u6 23).trans e23, (u6 24).trans e24, by rw [z_up_cell (by decide)]; exact fun i hi => h9 i (by omega)⟩
theorem zqX_u {W : z_M} {j : Nat} {v : Int} (h : zqX V W) (hj : 17 ≤ j ∧ j ≤ 24) : zqX V (z_up W 141 j v) := ⟨fun a x1 x2 x3 x4 x5 => by rw [z_up_cell x1]; exact h.1 a x1 x2 x3 x4 x5, fun i hi => by rw [zUp_o (by unfold zqK at hi; omega)]; exact h.2 i hi⟩
theorem zqF_u {W : z_M} {j : Nat} {v : Int} (h : zqF V W s p) (hj : 17 ≤ j ∧ j ≤ 24) : zqF V (z_up W 141 j v) s p := ⟨zqX_u h.1 hj, by rw [z_up_cell (by decide), z_up_cell (by decide)]; exact h.2.1, by rw [z_up_cell (by decide), z_up_cell (by decide)]; exact h.2.2⟩
theorem sq188 {c : Int} (hS : zqS V b L f k s p o) (hf : f < L) (hg : s + p ≤ f) (h1 : o < 8 → ∀ W, zqF V W s p → zqS W b L (zpNx b L f) k s (p + 1) (o + 1) → W 150 p = c → Q 0 W) (h0 : 8 ≤ o → ∀ W, zqX V W → zqZ W → W 141 13 = (f : Int) → Q 0 W) : z_MS (d + 4) 188 true [.inr (.inr 141), .inl c] V Q := by
  have hL := hS.1.2.1
  have nx := zpNx_p (b := b) hS.2.1.2.2.2.2
  have nx2 := nx.2.2.2 hf
  refine zb188_141 _ ?_
  rw [hS.2.2.2.2.2.2.2.1]
  refine sq179 (d := d) hS (by omega) (fun q W w1 w2 => ?_) (fun q W w1 w2 w3 => ?_)
  · have ho : o < 8 := by
      by_cases ho : (o : Int) < 8
      · omega
      · rw [if_neg ho] at q; exact absurd rfl q
    refine z_ifp w2.2.2.1 (z_all ?_)
    have e24 := w2.2.2.2.2.2.2.2.1
    rw [e24, z_inc (by omega)]
    have S2 : zqS (z_up W 141 24 ((o + 1 : Nat) : Int)) b L (zpNx b L f) k s p (o + 1) := zqS_f w2 (by omega) (by rw [if_neg (by decide)]; exact w2.2.2.2.2.1) (by rw [if_neg (by decide)]; exact w2.2.2.2.2.2.1) (by rw [if_neg (by decide)]; exact w2.2.2.2.2.2.2.1) (by rw [if_pos rfl]) (Nat.le_refl p)
    refine sq182 (d := d + 2) S2.2.2.2.2.2.2.1 (by omega) (h1 ho _ ?_ (zqS_u S2 (by omega)) zqU_p.1)
    exact zqF_t (zqF_u (zqF_n (s := s) (p := p) w1) (by omega)) zqU_f (Nat.le_refl s) (Nat.le_refl p)
  · have ho : 8 ≤ o := by
      by_cases ho : (o : Int) < 8
      · rw [if_pos ho] at q; exact absurd q (by decide)
      · omega
    exact z_ifn (by rw [w2.1]; decide) (h0 ho W w1 w2 w3)
theorem sq189 {c op arg : Int} (hS : zqS V b L f k s p o) (hf : f < L ∨ c = 0) (hg : s + p ≤ f) (h1 : ¬ c = 0 → k < 50 → ∀ W, zqF V W s p → zqS W b L (zpNx b L f) (k + 1) (s + 1) p o → W 148 s = op → W 149 s = arg → Q 0 W) (h0 : c = 0 ∨ 50 ≤ k → ∀ W, zqX V W → zqZ W → W 141 13 = (f : Int) → Q 0 W) : z_MS (d + 4) 189 true [.inr (.inr 141), .inl c, .inl op, .inl arg] V Q := by
  have hL := hS.1.2.1
  have hfL := hS.2.1.2.2.2.2
  have nx := zpNx_p (b := b) hfL
  refine zb189_141 _ _ _ ?_
  rw [hS.2.2.2.2.1]
  refine sq179 (d := d) hS (by omega) (fun q W w1 w2 => ?_) (fun q W w1 w2 w3 => ?_)
  · have hc : ¬ c = 0 := fun e => by rw [if_pos e] at q; exact q rfl
    rw [if_neg hc] at q
    have hk : k < 50 := by
      by_cases hk : (k : Int) < 50
      · omega
      · rw [if_neg hk] at q; exact absurd rfl q
    have hfl := hf.resolve_right hc
    have nx2 := nx.2.2.2 hfl
    refine z_ifp w2.2.2.1 (sq181 (d := d + 2) w2.2.2.2.2.2.1 (by omega) (z_all ?_))
    have S2 := zqS_e (x := op) (y := arg) w2
    have z := zqE_p (V := W) (s := s) (op := op) (arg := arg)
    rw [S2.2.2.2.2.1, z_inc (by omega)]
    refine h1 hc hk _ ?_ (zqS_f S2 (by omega) (by rw [if_pos rfl]) (by rw [if_neg (by decide)]; exact S2.2.2.2.2.2.1) (by rw [if_neg (by decide)]; exact S2.2.2.2.2.2.2.1) (by rw [if_neg (by decide)]; exact S2.2.2.2.2.2.2.2.1) (Nat.le_refl p)) (by rw [z_up_cell (by decide)]; exact z.1) (by rw [z_up_cell (by decide)]; exact z.2.1)
    exact zqF_u (zqF_t (zqF_n (s := s) (p := p) w1) zqE_f (Nat.le_refl s) (Nat.le_refl p)) (by omega)
  · refine z_ifn (by rw [w2.1]; decide) (h0 ?_ W w1 w2 w3)
    by_cases hc : c = 0
    · exact Or.inl hc
    · rw [if_neg hc] at q
      by_cases hk : (k : Int) < 50
      · rw [if_pos hk] at q; exact absurd q (by decide)
      · exact Or.inr (by omega)
theorem sq190 (hS : zqS V b L f k s p o) (hg : s + p ≤ f) (h1 : zpSg b L f 91 = true → o < 8 → ∀ W, zqF V W s p → zqS W b L (zpNx b L f) k s (p + 1) (o + 1) → W 150 p = 31 → Q 1 W) (h2 : zpSg b L f 91 = false → ¬ (50 ≤ k ∨ (zpNm b L f = -1 ∧ zpFa b L f = -1)) → ∀ W, zqF V W s p → zqS W b L (zpNx b L f) (k + 1) (s + 1) p o → zqC W 1 s (s + 1) (zpLf b L f) → Q 3 W)
    (h0 : ∀ t W, (zpSg b L f 91 = true ∧ 8 ≤ o) ∨ (zpSg b L f 91 = false ∧ (50 ≤ k ∨ (zpNm b L f = -1 ∧ zpFa b L f = -1))) → zqX V W → zqZ W → W 141 13 = (f : Int) → Q t W) : z_MS (d + 5) 190 true [.inr (.inr 141)] V Q := by
  have hfL := hS.2.1.2.2.2.2
  refine zb190_141 (sq178 hS.2.1 (by decide) (by decide) (fun q => z_ifn (by decide) ?_) (fun q => z_ifp rfl ?_))
  · have q' := q
    rw [zpSg_e] at q'
    exact sq188 (d := d) hS q'.1 hg (fun ho W w1 w2 w3 => h1 q ho W w1 w2 w3) (fun ho W w1 w2 w3 => h0 1 W (Or.inl ⟨q, ho⟩) w1 w2 w3)
  · refine sq187 (d := d + 2) hS.1 hS.2.1 ?_
    rw [hS.2.1.2.2.1, hS.2.1.2.2.2.1]
    simp only [z_lcmp_p]
    have nb := zpNm_b (b := b) (L := L) (f := f)
    have fb := zpFa_b (b := b) (L := L) (f := f)
    have nc := zpNm_c (b := b) (L := L) (f := f) hfL
    -- whether a number stands there
    have dg : (if zpSo b L f = 2 then (if 1000 < zpWr b L f then (0 : Int) else 1) else 0) = if zpNm b L f = -1 then 0 else 1 := by
      by_cases a1 : zpSo b L f = 2
      · rw [if_pos a1]
        by_cases a2 : 1000 < zpWr b L f
        · rw [if_pos a2, nc.2 (fun x => x.2 a2), if_pos rfl]
        · have := nc.1 ⟨a1, a2⟩
          rw [if_neg a2, if_neg (by omega)]
      · rw [if_neg a1, nc.2 (fun x => a1 x.1), if_pos rfl]
    rw [dg]
    by_cases hn : zpNm b L f = -1
    · rw [if_pos hn, if_pos rfl, if_pos rfl]
      by_cases hfa : zpFa b L f = -1
      · rw [if_pos hfa, if_pos rfl, if_pos rfl]
        exact sq189 (d := d) hS (Or.inr rfl) hg (fun x => absurd rfl x) (fun _ W w1 w2 w3 => h0 3 W (Or.inr ⟨q, Or.inr ⟨hn, hfa⟩⟩) w1 w2 w3)
      · rw [if_neg hfa, if_neg (by omega), if_neg (by omega)]
        refine sq189 (d := d) hS (Or.inl (zpFa_f hfL hfa)) hg (fun _ hk W w1 w2 w3 w4 => h2 q (by omega) W w1 w2 ?_) (fun x W w1 w2 w3 => h0 3 W (Or.inr ⟨q, Or.inl (by omega)⟩) w1 w2 w3)
        unfold zpLf
        rw [if_pos hn]
        exact zSeg_fact (i := (zpFa b L f).toNat) (by rw [w3]; omega) (by omega)
    · have nb2 := nb.resolve_left hn
      have e1 : zpNm b L f = zpWr b L f := by
        by_cases a : zpSo b L f = 2 ∧ ¬ 1000 < zpWr b L f
        · exact (nc.1 a).1
        · exact absurd (nc.2 a) hn
      have hfa : zpFa b L f = -1 := by
        have so : zpSo b L f = 2 := by
          by_cases a : zpSo b L f = 2 ∧ ¬ 1000 < zpWr b L f
          · exact a.1
          · exact absurd (nc.2 a) hn
        have nw : ∀ c, 8 ≤ c → c < 22 → zpWd b L f c = false := fun c c1 c2 => by
          rw [Bool.eq_false_iff]
          intro x
          have := ((zpWd_c (b := b) c1 c2 hfL).mpr x).1
          omega
        unfold zpFa
        rw [nw 14 (by decide) (by decide), nw 15 (by decide) (by decide), nw 16 (by decide) (by decide), nw 17 (by decide) (by decide), nw 18 (by decide) (by decide), nw 19 (by decide) (by decide), nw 20 (by decide) (by decide), nw 21 (by decide) (by decide), nw 8 (by decide) (by decide)]
        rfl
      rw [if_pos hfa, if_neg hn, if_pos rfl, if_pos rfl, if_neg (by decide), if_neg (by decide), z_l2i_e (by omega), ← e1]
      refine sq189 (d := d) hS (Or.inl nb2.2.2) hg (fun _ hk W w1 w2 w3 w4 => h2 q (by omega) W w1 w2 ?_) (fun x W w1 w2 w3 => h0 3 W (Or.inr ⟨q, Or.inl (by omega)⟩) w1 w2 w3)
      unfold zpLf
      rw [if_neg hn]
      have g := zSeg_num (op := fun j => W 148 j) (arg := fun j => W 149 j) (s := s) w3 (by rw [w4]; omega)
      rw [w4] at g
      exact g
end
