/-! the reference's machine of readings: behind a sum, behind a test -/
section
variable {d : Nat} {Q : Int → z_M → Prop} {V : z_M} {b : Nat → Int} {L f k s s1 p e o D : Nat} {lo : Int} {F : zpF}
theorem zqS_p (hS : zqS V b L f k s1 (p + e) o) (hs : s ≤ s1) (hD : zqD V p s lo e D F) : ∃ s2, zqS (zqP e V) b L f k s2 p o ∧ zqC (zqP e V) D s s2 F ∧ s1 ≤ s2 ∧ s2 ≤ s1 + e ∧ zqF V (zqP e V) s (p + e) ∧ zqP e V 150 = V 150 := by
  obtain ⟨⟨b1, b2, b3, b4⟩, ⟨t1, t2, t3, t4, t5⟩, h14, h13, h20, h17, h23, h24, h9⟩ := hS
  obtain ⟨d1, s2, d2, d3⟩ := hD
  obtain ⟨a1, a2, a3, a4, a5, s3, a6, a7, a8⟩ := zqP_p (e := e) (V := V) (p := p) (s := s1) (s0 := s) h23 h17 hs (fun i hi => (d1 i hi).2.2.2)
  have e3 : s3 = s2 := by rw [a6] at d2; omega
  subst e3
  refine ⟨s3, ⟨⟨(a4 8 (by decide) (by decide)).trans b1, b2, by rw [a1.1.1 146 (by decide) (by decide) (by decide) (by decide) (by decide)]; exact b3, by rw [a1.1.1 152 (by decide) (by decide) (by decide) (by decide) (by decide)]; exact b4⟩, ⟨(a4 9 (by decide) (by decide)).trans t1, (a4 10 (by decide) (by decide)).trans t2, (a4 11 (by decide) (by decide)).trans t3, (a4 12 (by decide) (by decide)).trans t4, t5⟩, (a4 14 (by decide) (by decide)).trans h14, (a4 13 (by decide) (by decide)).trans h13, (a4 20 (by decide) (by decide)).trans h20, a6, a5, (a4 24 (by decide) (by decide)).trans h24, fun j hj => by rw [a3]; exact h9 j (by omega)⟩, d3, a7, a8, a1, a2⟩
theorem sqx184 {l : Int} (hS : zqS V b L f k s1 (p + e) o) (hD : zqD V p s lo e D F) (hl : l ≤ lo) (hg : s1 + p + e ≤ 400) (hst : p = 0 ∨ zqBi (V 150 (p - 1)) < l) (h : Q 0 (zqP e V)) : z_MS (d + 2) 184 true [.inr (.inr 141), .inl l] V Q :=
  sq184 (d := d) hS.2.2.2.2.2.2.1 hS.2.2.2.2.2.1 (by omega) (by omega) hS.2.2.2.2.2.2.2.2 (fun i hi => Int.le_trans hl (hD.1 i hi).1) hst h
theorem zpSg_o {c x : Int} (h : zpSg b L f c = true) (hx : ¬ x = c) : zpSg b L f x = false := by
  rw [zpSg_e] at h
  rw [Bool.eq_false_iff, ne_eq, zpSg_e]
  omega
theorem sq192_op {l1 c op bd : Int} (hS : zqS V b L f k s1 (p + e) o) (hs : s ≤ s1) (hD : zqD V p s lo e D F) (hl : bd ≤ lo) (hg : s1 + p + e ≤ f) (hst : p = 0 ∨ zqBi (V 150 (p - 1)) < bd) (hc : zpSg b L f c = true) (hk : (c = 43 ∧ op = 20 ∧ bd = 5) ∨ (c = 45 ∧ op = 21 ∧ bd = 5) ∨ (c = 42 ∧ op = 22 ∧ bd = 6) ∨ (c = 47 ∧ op = 23 ∧ bd = 6))
    (h : ∀ W s2, zqF V W s p → zqS W b L (zpNx b L f) k s2 (p + 1) o → s1 ≤ s2 → s2 + (p + 1) ≤ zpNx b L f → s2 ≤ s1 + e → W 150 p = op → zqC W D s s2 F → Q 1 W) : z_MS (d + 4) 192 true [.inr (.inr 141), .inl l1] V Q := by
  have hT := hS.2.1
  have hL := hS.1.2.1
  have hf := hS.2.1.2.2.2.2
  have hc2 := hc
  rw [zpSg_e] at hc2
  have nx := (zpNx_p (b := b) hf).2.2.2 hc2.1
  have go : z_Ex (z_MS (d + 3)) 192 Q true 57 [some (.inr (.inr 141)), some (.inl l1), none, none] [.inl op] 0 0 V := by
    have hb : zqBi op = bd := by rcases hk with ⟨_, rfl, rfl⟩ | ⟨_, rfl, rfl⟩ | ⟨_, rfl, rfl⟩ | ⟨_, rfl, rfl⟩ <;> decide
    refine zb192_141_p57 _ _ (z_ifn (by omega) (sq183 (d := d + 2) ?_))
    rw [hb]
    obtain ⟨s2, a1, a2, a3, a4, a5, a6⟩ := zqS_p hS hs hD
    refine sqx184 (d := d + 1) hS hD hl (by omega) hst (sq182 (d := d + 2) a1.2.2.2.2.2.2.1 (by omega) (sqx176 (d := d + 1) (zqS_u (x := op) (y := 0) a1 (by omega)) (fun W w1 w2 => ?_)))
    have u := zqU_p (V := zqP e V) (p := p) (op := op) (at_ := 0)
    refine h W s2 (zqF_t (s1 := s) (p1 := p) (zqF_t (s1 := s) (p1 := p) ⟨a5.1, a5.2.1, fun j hj => a5.2.2 j (by omega)⟩ zqU_f (Nat.le_refl s) (Nat.le_refl p)) (zqF_n w1) (Nat.le_refl s) (Nat.le_refl p)) w2 a3 (by omega) a4 (by rw [w1.1 150 (by decide)]; exact u.1) ?_
    exact zqC_f a2 (Nat.le_refl D) (fun j _ => by
      rw [w1.1 148 (by decide), w1.1 149 (by decide), u.2.2.2.2.2 148 (by decide) (by decide) (by decide), u.2.2.2.2.2 149 (by decide) (by decide) (by decide)]
      exact ⟨rfl, rfl⟩)
  rcases hk with ⟨rfl, rfl, rfl⟩ | ⟨rfl, rfl, rfl⟩ | ⟨rfl, rfl, rfl⟩ | ⟨rfl, rfl, rfl⟩
  · exact zb192_141 _ (sq178 (d := d + 2) hT (by decide) (by decide) (fun _ => z_ifn (by decide) go) (fun q => absurd hc (by rw [q]; decide)))
  · exact zb192_141 _ (sq178 (d := d + 2) hT (by decide) (by decide) (fun q => absurd q (by rw [zpSg_o hc (by decide)]; decide)) (fun _ => z_ifp rfl (sq178 (d := d + 2) hT (by decide) (by decide) (fun _ => z_ifn (by decide) go) (fun q => absurd hc (by rw [q]; decide)))))
  · exact zb192_141 _ (sq178 (d := d + 2) hT (by decide) (by decide) (fun q => absurd q (by rw [zpSg_o hc (by decide)]; decide)) (fun _ => z_ifp rfl (sq178 (d := d + 2) hT (by decide) (by decide) (fun q => absurd q (by rw [zpSg_o hc (by decide)]; decide)) (fun _ => z_ifp rfl (sq178 (d := d + 2) hT (by decide) (by decide) (fun _ => z_ifn (by decide) go) (fun q => absurd hc (by rw [q]; decide)))))))
  · exact zb192_141 _ (sq178 (d := d + 2) hT (by decide) (by decide) (fun q => absurd q (by rw [zpSg_o hc (by decide)]; decide)) (fun _ => z_ifp rfl (sq178 (d := d + 2) hT (by decide) (by decide) (fun q => absurd q (by rw [zpSg_o hc (by decide)]; decide)) (fun _ => z_ifp rfl (sq178 (d := d + 2) hT (by decide) (by decide) (fun q => absurd q (by rw [zpSg_o hc (by decide)]; decide)) (fun _ => z_ifp rfl (sq178 (d := d + 2) hT (by decide) (by decide) (fun _ => by rw [if_neg (by decide)]; exact go) (fun q => absurd hc (by rw [q]; decide)))))))))
/-- no operator stands there -/
def zpNo (b : Nat → Int) (L f : Nat) : Prop := (zpSg b L f 42 = false ∧ zpSg b L f 47 = false) ∧ zpSg b L f 43 = false ∧ zpSg b L f 45 = false
theorem sq192_n {l1 : Int} (hS : zqS V b L f k s p o) (hn : zpNo b L f) (h : z_Ex (z_MS (d + 3)) 192 Q true 57 [some (.inr (.inr 141)), some (.inl l1), none, none] [.inl (-1)] 0 0 V) : z_MS (d + 4) 192 true [.inr (.inr 141), .inl l1] V Q := by
  have hT := hS.2.1
  obtain ⟨⟨n1, n2⟩, n3, n4⟩ := hn
  exact zb192_141 _ (sq178 (d := d + 2) hT (by decide) (by decide) (fun q => absurd q (by rw [n3]; decide)) (fun _ => z_ifp rfl (sq178 (d := d + 2) hT (by decide) (by decide) (fun q => absurd q (by rw [n4]; decide)) (fun _ => z_ifp rfl (sq178 (d := d + 2) hT (by decide) (by decide) (fun q => absurd q (by rw [n1]; decide)) (fun _ => z_ifp rfl (sq178 (d := d + 2) hT (by decide) (by decide) (fun q => absurd q (by rw [n2]; decide)) (fun _ => by rw [if_pos rfl]; exact h))))))))
/-- a bracket that closes: its own place off the pile -/
theorem zqS_x (hS : zqS V b L f k s1 (p + 1) (o + 1)) (hp : p + 1 ≤ 400) (ho : o ≤ 400) : zqS (z_up (z_up V 141 23 (p : Int)) 141 24 (o : Int)) b L f k s1 p o := by
  have a : zqS (z_up V 141 23 (p : Int)) b L f k s1 p (o + 1) := zqS_f hS (by omega) (by rw [if_neg (by decide)]; exact hS.2.2.2.2.1) (by rw [if_neg (by decide)]; exact hS.2.2.2.2.2.1) (by rw [if_pos rfl]) (by rw [if_neg (by decide)]; exact hS.2.2.2.2.2.2.2.1) (by omega)
  exact zqS_f a (by omega) (by rw [if_neg (by decide)]; exact a.2.2.2.2.1) (by rw [if_neg (by decide)]; exact a.2.2.2.2.2.1) (by rw [if_neg (by decide)]; exact a.2.2.2.2.2.2.1) (by rw [if_pos rfl]) (Nat.le_refl p)
/-- what closes a bracket leaves: z_MS 184 l, then its place off -/
theorem sq_close {l t : Int} (hS : zqS V b L f k s1 (p + 1 + e) (o + 1)) (hs : s ≤ s1) (hD : zqD V (p + 1) s lo e D F) (hl : l ≤ lo) (hg : s1 + (p + 1) + e ≤ 400) (ho : o ≤ 8) (hst : zqBi (V 150 p) < l)
    (h : ∀ W s2, zqF V W s p → zqS W b L f k s2 p o → s1 ≤ s2 → s2 ≤ s1 + e → zqC W D s s2 F → Q t W) : z_MS (d + 2) 184 true [.inr (.inr 141), .inl l] V (fun _ V4 => ∀ W1, W1 = z_up V4 141 23 (z_sub (V4 141 23) 1) → ∀ W2, W2 = z_up W1 141 24 (z_sub (W1 141 24) 1) → Q t W2) := by
  obtain ⟨s2, a1, a2, a3, a4, a5, a6⟩ := zqS_p hS hs hD
  refine sqx184 (d := d) hS hD hl (by omega) (Or.inr (by rw [show p + 1 - 1 = p by omega]; exact hst)) ?_
  have e23 := a1.2.2.2.2.2.2.1
  have e24 := a1.2.2.2.2.2.2.2.1
  rw [e23, z_sub_e (by omega), show ((p + 1 : Nat) : Int) - 1 = (p : Int) by omega]
  refine z_all ?_
  rw [zUp_o (by omega), e24, z_sub_e (by omega), show ((o + 1 : Nat) : Int) - 1 = (o : Int) by omega]
  refine z_all (h _ s2 ?_ (zqS_x a1 (by omega) (by omega)) a3 a4 ?_)
  · exact zqF_u (zqF_u ⟨a5.1, a5.2.1, fun j hj => a5.2.2 j (by omega)⟩ (by omega)) (by omega)
  · exact zqC_f a2 (Nat.le_refl D) (fun j _ => by rw [z_up_cell (by decide), z_up_cell (by decide), z_up_cell (by decide), z_up_cell (by decide)]; exact ⟨rfl, rfl⟩)
theorem zqA_n {W : z_M} (h : zqN V W) : zqA V W := ⟨h.1 148 (by decide), h.1 149 (by decide), h.1 150 (by decide), h.1 151 (by decide), h.2 17 (by omega), h.2 23 (by omega)⟩
theorem zqD_i {i : Nat} (hD : zqD V p s lo e D F) (hi : i < e) : V 150 (p + i) < 30 := (hD.1 i hi).2.2.1
theorem sq192_br {l1 : Int} (hS : zqS V b L f k s1 (p + 1 + e) (o + 1)) (hs : s ≤ s1) (hD : zqD V (p + 1) s lo e D F) (hl : 5 ≤ lo) (hg : s1 + (p + 1) + e ≤ f) (ho : o ≤ 8) (hp : V 150 p = 31) (hn : zpNo b L f)
    (h1 : zpSg b L f 93 = true → ∀ W s2, zqF V W s p → zqS W b L (zpNx b L f) k s2 p o → s1 ≤ s2 → s2 ≤ s1 + e → zqC W D s s2 F → Q 3 W)
    (h0 : zpSg b L f 93 = false → ∀ W, zqX V W → zqZ W → W 141 13 = (f : Int) → Q 3 W) : z_MS (d + 4) 192 true [.inr (.inr 141), .inl l1] V Q := by
  have hL := hS.1.2.1
  have hf := hS.2.1.2.2.2.2
  have hi : zqI V (p + 1 + e) = 31 := by
    rw [zqI_e (fun i hi => zqD_i hD hi)]
    show (if V 150 p < 30 then zqI V p else V 150 p) = 31
    rw [hp, if_neg (by decide)]
  refine sq192_n hS hn (zb192_141_p57 _ _ (z_ifp rfl (sq185 (d := d + 2) hS.2.2.2.2.2.2.1 (by omega) ?_)))
  rw [hi]
  refine z_ifp rfl (sq178 (d := d + 2) hS.2.1 (by decide) (by decide) (fun q => ?_) (fun q => ?_))
  · refine sq179 (d := d) hS (by omega) (fun _ W w1 w2 => z_ifp w2.2.2.1 ?_) (fun x => absurd x (by decide))
    have wD := zqD_c hD (zqA_n w1)
    refine sq_close (d := d + 1) w2 hs wD hl (by omega) ho (by rw [w1.1 150 (by decide), hp]; decide) (fun W3 s2 a1 a2 a3 a4 a5 => h1 q W3 s2 (zqF_t (zqF_n (s := s) (p := p) w1) a1 (Nat.le_refl s) (Nat.le_refl p)) a2 a3 a4 a5)
  · exact sq179 (d := d) hS (by omega) (fun x => absurd rfl x) (fun _ W w1 w2 w3 => z_ifn (by rw [w2.1]; decide) (h0 q W w1 w2 w3))
theorem sq192_ov (hS : zqS V b L f k s1 (p + e) o) (hD : zqD V p s lo e D F) (hg : s1 + p + e ≤ f) (hi : zqI V p = -1) (hn : zpNo b L f) (h : Q 4 V) : z_MS (d + 4) 192 true [.inr (.inr 141), .inl 0] V Q := by
  have hL := hS.1.2.1
  have hf := hS.2.1.2.2.2.2
  have hi2 : zqI V (p + e) = -1 := (zqI_e (fun i hi => zqD_i hD hi)).trans hi
  refine sq192_n hS hn (zb192_141_p57 _ _ (z_ifp rfl (sq185 (d := d + 2) hS.2.2.2.2.2.2.1 (by omega) ?_)))
  rw [hi2]
  exact z_ifn (by decide) (z_ifp rfl (z_ifp rfl h))
theorem sq192_149 (hS : zqS V b L f k s1 (p + e) o) (hD : zqD V p s lo e D F) (hg : s1 + p + e ≤ f) (hi : ¬ zqI V p = 31) (hn : zpNo b L f) (h : ∀ x y z : Option z_V, z_Ex (z_MS (d + 3)) 192 Q true 149 [some (.inr (.inr 141)), x, y, z] [] 0 0 V) : z_MS (d + 4) 192 true [.inr (.inr 141), .inl 1] V Q := by
  have hL := hS.1.2.1
  have hf := hS.2.1.2.2.2.2
  have hi2 : zqI V (p + e) = zqI V p := zqI_e (fun i hi => zqD_i hD hi)
  refine sq192_n hS hn (zb192_141_p57 _ _ (z_ifp rfl (sq185 (d := d + 2) hS.2.2.2.2.2.2.1 (by omega) ?_)))
  rw [hi2]
  exact z_ifn hi (z_ifc (fun _ => z_ifn (by decide) (h _ _ _)) (fun _ => h _ _ _))
theorem zqBi_5 {x : Int} (h : 5 ≤ zqBi x) : x ≤ 23 := by
  unfold zqBi at h
  repeat' split at h
  all_goals omega
theorem zqBi_4 {x : Int} (h : zqBi x < 4) : ¬ (20 ≤ x ∧ x ≤ 26) := by
  unfold zqBi at h
  repeat' split at h
  all_goals omega
theorem sq192_tl (hS : zqS V b L f k s1 (p + e) o) (hD : zqD V p s lo e D F) (hl : 5 ≤ lo) (hg : s1 + p + e ≤ f) (hi : ¬ zqI V p = 31) (hn : zpNo b L f) (hp : ¬ p = 0 ∧ 24 ≤ V 150 (p - 1) ∧ V 150 (p - 1) ≤ 26) (h : Q 2 V) : z_MS (d + 4) 192 true [.inr (.inr 141), .inl 1] V Q := by
  have hL := hS.1.2.1
  have hf := hS.2.1.2.2.2.2
  refine sq192_149 hS hD hg hi hn (fun x y z => zb192_141_p149 _ _ _ (sq186 (d := d + 1) hS.2.2.2.2.2.2.1 (by omega) (fun i hi => ?_) (Or.inr (by omega)) (fun _ => z_ifn (by decide) h) (fun q => absurd hp q)))
  have a := hD.1 i hi
  have := zqBi_5 (x := V 150 (p + i)) (by omega)
  omega
theorem sq192_cm (hS : zqS V b L f k s1 (p + e) o) (hs : s ≤ s1) (hD : zqD V p s lo e D F) (hl : 5 ≤ lo) (hg : s1 + p + e ≤ f) (hi : ¬ zqI V p = 31) (hn : zpNo b L f) (hst : p = 0 ∨ zqBi (V 150 (p - 1)) < 4)
    (h1 : ¬ zpCm b L f = -1 → ∀ W s2, zqF V W s p → zqS W b L (zpNx b L f) k s2 (p + 1) o → s1 ≤ s2 → s2 + (p + 1) ≤ zpNx b L f → s2 ≤ s1 + e → W 150 p = zpCm b L f → zqC W D s s2 F → Q 1 W)
    (h0 : zpCm b L f = -1 → ∀ W, zqX V W → zqZ W → W 141 13 = (f : Int) → Q 1 W) : z_MS (d + 4) 192 true [.inr (.inr 141), .inl 1] V Q := by
  have hL := hS.1.2.1
  have hf := hS.2.1.2.2.2.2
  have hT := hS.2.1
  have st4 : p = 0 ∨ ¬ (20 ≤ V 150 (p - 1) ∧ V 150 (p - 1) ≤ 26) := by
    rcases hst with h | h
    · exact Or.inl h
    · exact Or.inr (zqBi_4 h)
  have go : ∀ op : Int, zpCm b L f = op → ¬ op = -1 → ∀ W, zqN V W → zqS W b L (zpNx b L f) k s1 (p + e) o → z_MS (d + 3) 184 true [.inr (.inr 141), .inl 5] W (fun _ V2 => z_MS (d + 3) 182 true [.inr (.inr 141), .inl op, .inl 0] V2 (fun _ V3 => Q 1 V3)) := by
    intro op hop hop2 W w1 w2
    have cb := zpCm_b (b := b) (L := L) (f := f)
    have nx := (zpNx_p (b := b) hf).2.2.2 (by omega)
    have wD := zqD_c hD (zqA_n w1)
    obtain ⟨s2, a1, a2, a3, a4, a5, a6⟩ := zqS_p w2 hs wD
    refine sqx184 (d := d + 1) w2 wD hl (by omega) (by rw [w1.1 150 (by decide)]; omega) (sq182 (d := d + 2) a1.2.2.2.2.2.2.1 (by omega) ?_)
    have u := zqU_p (V := zqP e W) (p := p) (op := op) (at_ := 0)
    refine h1 (by omega) _ s2 (zqF_t (zqF_n (s := s) (p := p) w1) (zqF_t (s1 := s) (p1 := p) ⟨a5.1, a5.2.1, fun j hj => a5.2.2 j (by omega)⟩ zqU_f (Nat.le_refl s) (Nat.le_refl p)) (Nat.le_refl s) (Nat.le_refl p)) (zqS_u a1 (by omega)) a3 (by omega) a4 (by rw [hop]; exact u.1) ?_
    exact zqC_f a2 (Nat.le_refl D) (fun j _ => by
      rw [u.2.2.2.2.2 148 (by decide) (by decide) (by decide), u.2.2.2.2.2 149 (by decide) (by decide) (by decide)]
      exact ⟨rfl, rfl⟩)
  refine sq192_149 hS hD hg hi hn (fun x y z => zb192_141_p149 _ _ _ (sq186 (d := d + 1) hS.2.2.2.2.2.2.1 (by omega) (fun i hi => ?_) (by omega) (fun q => absurd q (by omega)) (fun _ => z_ifp rfl ?_)))
  · have a := hD.1 i hi
    have := zqBi_5 (x := V 150 (p + i)) (by omega)
    omega
  · refine sq178 (d := d + 2) hT (by decide) (by decide) (fun q => z_ifn (by decide) (zb192_141_p188 _ _ _ _ (z_ifn (by decide) ?_))) (fun q => z_ifp rfl (sq178 (d := d + 2) hT (by decide) (by decide) (fun q2 => ?_) (fun q2 => ?_)))
    · have e1 : zpCm b L f = 24 := by unfold zpCm; rw [if_pos q]
      exact sq179 (d := d) hS (by omega) (fun _ W w1 w2 => z_ifp w2.2.2.1 (go 24 e1 (by decide) W w1 w2)) (fun x => absurd x (by decide))
    · rw [if_neg (by decide)]
      have e1 : zpCm b L f = 25 := by unfold zpCm; rw [if_neg (by rw [q]; decide), if_pos q2]
      exact zb192_141_p188 _ _ _ _ (z_ifn (by decide) (sq179 (d := d) hS (by omega) (fun _ W w1 w2 => z_ifp w2.2.2.1 (go 25 e1 (by decide) W w1 w2)) (fun x => absurd x (by decide))))
    · rw [if_pos rfl]
      refine zb192_141_p188 _ _ _ _ (z_ifp rfl (sq178 (d := d + 2) hT (by decide) (by decide) (fun q3 => ?_) (fun q3 => ?_)))
      · rw [if_neg (by decide)]
        have e1 : zpCm b L f = 26 := by unfold zpCm; rw [if_neg (by rw [q]; decide), if_neg (by rw [q2]; decide), if_pos q3]
        exact sq179 (d := d) hS (by omega) (fun _ W w1 w2 => z_ifp w2.2.2.1 (go 26 e1 (by decide) W w1 w2)) (fun x => absurd x (by decide))
      · rw [if_pos rfl]
        have e1 : zpCm b L f = -1 := by unfold zpCm; rw [if_neg (by rw [q]; decide), if_neg (by rw [q2]; decide), if_neg (by rw [q3]; decide)]
        exact sq179 (d := d) hS (by omega) (fun x => absurd rfl x) (fun _ W w1 w2 w3 => z_ifn (by rw [w2.1]; decide) (h0 e1 W w1 w2 w3))
-- behind a test
theorem sq193_log {w : Nat} {op bd : Int} (hS : zqS V b L f k s1 (p + e) o) (hs : s ≤ s1) (hD : zqD V p s lo e D F) (hl : bd ≤ lo) (hg : s1 + p + e ≤ f) (hst : p = 0 ∨ zqBi (V 150 (p - 1)) < bd) (hw : zpWd b L f w = true) (hk : (w = 12 ∧ op = 28 ∧ bd = 2) ∨ (w = 11 ∧ op = 29 ∧ bd = 1))
    (h : ∀ W s2, zqF V W s p → zqS W b L (zpNx b L f) k (s2 + 1) (p + 1) o → s1 ≤ s2 → (s2 + 1) + (p + 1) ≤ zpNx b L f → s2 ≤ s1 + e → W 150 p = op → W 151 p = (s2 : Int) → W 148 s2 = op → zqC W D s s2 F → Q 0 W) : z_MS (d + 4) 193 true [.inr (.inr 141)] V Q := by
  have hT := hS.2.1
  have hL := hS.1.2.1
  have hf := hS.2.1.2.2.2.2
  have hw2 := zpWd_f hf hw
  have nx := zpNx_p (b := b) hf
  have nx2 := nx.2.1
  have cd := zpCds
  have go : z_MS (d + 3) 184 true [.inr (.inr 141), .inl bd] V (fun _ V2 => z_MS (d + 3) 182 true [.inr (.inr 141), .inl op, .inl (V2 141 17)] V2 (fun _ V3 => z_MS (d + 3) 181 true [.inr (.inr 141), .inl op, .inl 0] V3 (fun _ V4 => z_MS (d + 3) 176 true [.inr (.inr 141)] V4 (fun _ V5 => Q 0 V5)))) := by
    obtain ⟨s2, a1, a2, a3, a4, a5, a6⟩ := zqS_p hS hs hD
    have u := zqU_p (V := zqP e V) (p := p) (op := op) (at_ := (s2 : Int))
    have U1 := zqS_u (x := op) (y := (s2 : Int)) a1 (by omega)
    have E1 := zqS_e (x := op) (y := 0) U1
    have z := zqE_p (V := zqU (zqP e V) p op (s2 : Int)) (s := s2) (op := op) (arg := 0)
    refine sqx184 (d := d + 1) hS hD hl (by omega) hst ?_
    rw [a1.2.2.2.2.2.1]
    refine sq182 (d := d + 2) a1.2.2.2.2.2.2.1 (by omega) (sq181 (d := d + 2) U1.2.2.2.2.2.1 (by omega) (sqx176 (d := d + 1) E1 (fun W w1 w2 => ?_)))
    refine h W s2 ?_ w2 a3 (by omega) a4 ?_ ?_ ?_ ?_
    · exact zqF_t (s1 := s) (p1 := p) (zqF_t (s1 := s2) (p1 := p) (zqF_t (s1 := s) (p1 := p) ⟨a5.1, a5.2.1, fun j hj => a5.2.2 j (by omega)⟩ zqU_f (Nat.le_refl s) (Nat.le_refl p)) zqE_f (by omega) (Nat.le_refl p)) (zqF_n w1) (Nat.le_refl s) (Nat.le_refl p)
    · rw [w1.1 150 (by decide), z.2.2.2.2.2 150 (by decide) (by decide) (by decide)]; exact u.1
    · rw [w1.1 151 (by decide), z.2.2.2.2.2 151 (by decide) (by decide) (by decide)]; exact u.2.1
    · rw [w1.1 148 (by decide)]; exact z.1
    · exact zqC_f a2 (Nat.le_refl D) (fun j hj => by
        rw [w1.1 148 (by decide), w1.1 149 (by decide), (z.2.2.2.1 j (by omega)).1, (z.2.2.2.1 j (by omega)).2, u.2.2.2.2.2 148 (by decide) (by decide) (by decide), u.2.2.2.2.2 149 (by decide) (by decide) (by decide)]
        exact ⟨rfl, rfl⟩)
  have no : zpWd b L f 12 = true → zpWd b L f 11 = true → False := by
    intro x y
    unfold zpWd at x y
    rw [decide_eq_true_eq] at x y
    have e1 : zpWl 12 = 3 := by decide
    have e2 : zpWl 11 = 2 := by decide
    omega
  rcases hk with ⟨rfl, rfl, rfl⟩ | ⟨rfl, rfl, rfl⟩
  · exact zb193_141 (sq177 (d := d + 2) hT cd.2.2.2.2.1 (by decide) (by decide) (fun _ => z_ifn (by decide) (by rw [if_neg (by decide), if_neg (by decide)]; exact go)) (fun q => absurd hw (by rw [q]; decide)))
  · exact zb193_141 (sq177 (d := d + 2) hT cd.2.2.2.2.1 (by decide) (by decide) (fun q => (no q hw).elim) (fun _ => z_ifp rfl (sq177 (d := d + 2) hT cd.2.2.2.1 (by decide) (by decide) (fun _ => z_ifn (by decide) (by rw [if_pos rfl, if_pos rfl]; exact go)) (fun q => absurd hw (by rw [q]; decide)))))
theorem sq193_n (hS : zqS V b L f k s1 (p + e) o) (hD : zqD V p s lo e D F) (hg : s1 + p + e ≤ f) (w1 : zpWd b L f 12 = false) (w2 : zpWd b L f 11 = false) (h : zI (zqI V p = -1) (Q 4 V) (z_MS (d + 3) 178 true [.inr (.inr 141), .inl 41] V (fun z8 V8 => z_MS (d + 3) 179 true [.inr (.inr 141), .inl z8] V8 (fun _ V9 => zI (V9 141 14 = 0) (z_MS (d + 3) 184 true [.inr (.inr 141), .inl 1] V9 (fun _ V10 => ∀ W1, W1 = z_up V10 141 23 (z_sub (V10 141 23) 1) → ∀ W2, W2 = z_up W1 141 24 (z_sub (W1 141 24) 1) → Q 2 W2)) (Q 2 V9))))) : z_MS (d + 4) 193 true [.inr (.inr 141)] V Q := by
  have hL := hS.1.2.1
  have hf := hS.2.1.2.2.2.2
  have hT := hS.2.1
  have cd := zpCds
  have hi2 : zqI V (p + e) = zqI V p := zqI_e (fun i hi => zqD_i hD hi)
  refine zb193_141 (sq177 (d := d + 2) hT cd.2.2.2.2.1 (by decide) (by decide) (fun q => absurd q (by rw [w1]; decide)) (fun _ => z_ifp rfl (sq177 (d := d + 2) hT cd.2.2.2.1 (by decide) (by decide) (fun q => absurd q (by rw [w2]; decide)) (fun _ => z_ifp rfl (sq185 (d := d + 2) hS.2.2.2.2.2.2.1 (by omega) ?_)))))
  rw [hi2]
  exact h
theorem sq193_br (hS : zqS V b L f k s1 (p + 1 + e) (o + 1)) (hs : s ≤ s1) (hD : zqD V (p + 1) s lo e D F) (hl : 1 ≤ lo) (hg : s1 + (p + 1) + e ≤ f) (ho : o ≤ 8) (hp : V 150 p = 30) (n1 : zpWd b L f 12 = false) (n2 : zpWd b L f 11 = false)
    (h1 : zpSg b L f 41 = true → ∀ W s2, zqF V W s p → zqS W b L (zpNx b L f) k s2 p o → s1 ≤ s2 → s2 ≤ s1 + e → zqC W D s s2 F → Q 2 W)
    (h0 : zpSg b L f 41 = false → ∀ W, zqX V W → zqZ W → W 141 13 = (f : Int) → Q 2 W) : z_MS (d + 4) 193 true [.inr (.inr 141)] V Q := by
  have hL := hS.1.2.1
  have hf := hS.2.1.2.2.2.2
  have hi : zqI V (p + 1) = 30 := by
    show (if V 150 p < 30 then zqI V p else V 150 p) = 30
    rw [hp, if_neg (by decide)]
  refine sq193_n (d := d) hS hD hg n1 n2 ?_
  rw [hi]
  refine z_ifn (by decide) (sq178 (d := d + 2) hS.2.1 (by decide) (by decide) (fun q => ?_) (fun q => ?_))
  · refine sq179 (d := d) hS (by omega) (fun _ W w1 w2 => z_ifp w2.2.2.1 ?_) (fun x => absurd x (by decide))
    have wD := zqD_c hD (zqA_n w1)
    refine sq_close (d := d + 1) w2 hs wD hl (by omega) ho (by rw [w1.1 150 (by decide), hp]; decide) (fun W3 s2 a1 a2 a3 a4 a5 => h1 q W3 s2 (zqF_t (zqF_n (s := s) (p := p) w1) a1 (Nat.le_refl s) (Nat.le_refl p)) a2 a3 a4 a5)
  · exact sq179 (d := d) hS (by omega) (fun x => absurd rfl x) (fun _ W w1 w2 w3 => z_ifn (by rw [w2.1]; decide) (h0 q W w1 w2 w3))
theorem sq193_ov (hS : zqS V b L f k s1 (p + e) o) (hD : zqD V p s lo e D F) (hg : s1 + p + e ≤ f) (hi : zqI V p = -1) (n1 : zpWd b L f 12 = false) (n2 : zpWd b L f 11 = false) (h : Q 4 V) : z_MS (d + 4) 193 true [.inr (.inr 141)] V Q :=
  sq193_n (d := d) hS hD hg n1 n2 (z_ifp hi h)
end
