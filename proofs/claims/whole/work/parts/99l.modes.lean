/-! the reference's machine of readings: the modes -/
abbrev zqG (D : Nat) (Q : Int → z_M → Prop) (l1 t : Int) (V : z_M) : Prop := z_Ex (z_MS D) 194 Q true 20 [some (.inr (.inr 141)), some (.inl l1), some (.inl t)] [] 0 0 V
section
variable {b : Nat → Int} {L D : Nat} {Q : Int → z_M → Prop} {V : z_M} {l1 : Int}
theorem zqG_0 (h14 : V 141 14 = 0) (h : z_MS D 191 true [.inr (.inr 141)] V (fun z W => zqG D Q l1 z W)) : zqG D Q l1 0 V := zb194_141_p20 _ _ (z_ifp h14 (z_ifn (by decide) (z_ifp rfl h)))
theorem zqG_1 (h14 : V 141 14 = 0) (h : z_MS D 190 true [.inr (.inr 141)] V (fun z W => zqG D Q l1 z W)) : zqG D Q l1 1 V := zb194_141_p20 _ _ (z_ifp h14 (z_ifn (by decide) (z_ifn (by decide) (z_ifp rfl h))))
theorem zqG_3 (h14 : V 141 14 = 0) (h : z_MS D 192 true [.inr (.inr 141), .inl l1] V (fun z W => zqG D Q l1 z W)) : zqG D Q l1 3 V := zb194_141_p20 _ _ (z_ifp h14 (z_ifn (by decide) (z_ifn (by decide) (z_ifn (by decide) (z_ifp rfl h)))))
theorem zqG_2 (h14 : V 141 14 = 0) (h : z_MS D 193 true [.inr (.inr 141)] V (fun z W => zqG D Q l1 z W)) : zqG D Q l1 2 V := zb194_141_p20 _ _ (z_ifp h14 (z_ifn (by decide) (z_ifn (by decide) (z_ifn (by decide) (z_ifn (by decide) h)))))
end
def zq0 (D : Nat) (Q : Int → z_M → Prop) (l1 : Int) (V : z_M) (x : zpR) : Prop := ∀ q : Nat, x = .inl q → ∀ (t : Int) (W : z_M), zqX V W → zqZ W → W 141 13 = (q : Int) → zqG D Q l1 t W
def zq1 (b : Nat → Int) (L D : Nat) (Q : Int → z_M → Prop) (l1 t1 : Int) (V : z_M) (f s s1 p e0 o : Nat) (lo : Int) (c : Nat) (x : zpR) : Prop := ∀ f2 k2 G, x = .inr (f2, k2, G) → ∀ (W : z_M) (e s2 : Nat), zqF V W s p → zqS W b L f2 k2 s2 (p + e) o → s1 ≤ s2 → s2 + e + f ≤ s1 + e0 + f2 → zqD W p s lo e c G → zqG D Q l1 t1 W
def zqm (b : Nat → Int) (L n m : Nat) (lo : Int) (c : Nat) (tc : Int) : Prop := ∀ (dd f k : Nat) (F : zpF) (x : zpR) (V : z_M) (s p : Nat) (l1 : Int) (Q : Int → z_M → Prop) (D r : Nat), zpPa b L n m dd f k F = some x → dd ≤ 8 → 8 ≤ D → zqS V b L f k s p dd → s + p ≤ f → (p = 0 ∨ zqBi (V 150 (p - 1)) < tc) → zq0 D Q l1 V x → zq1 b L D Q l1 3 V f s s p 0 dd lo (c - 2 * dd) x → z_MS (r + 5) 190 true [.inr (.inr 141)] V (fun z W => zqG D Q l1 z W)
def zql (b : Nat → Int) (L n m : Nat) (lo : Int) (c : Nat) (tc : Int) : Prop := ∀ (dd f k : Nat) (F : zpF) (x : zpR) (V : z_M) (s s1 p e : Nat) (l1 : Int) (Q : Int → z_M → Prop) (D : Nat), zpPa b L n m dd f k F = some x → dd ≤ 8 → 8 ≤ D → zqS V b L f k s1 (p + e) dd → s ≤ s1 → s1 + p + e ≤ f → (p = 0 ∨ zqBi (V 150 (p - 1)) < tc) → zqD V p s lo e (c - 2 * dd) F → zq0 D Q l1 V x → zq1 b L D Q l1 3 V f s s1 p e dd lo (c - 2 * dd) x → zqG D Q l1 3 V
def zqt (b : Nat → Int) (L n m : Nat) (lo tc : Int) : Prop := ∀ (dd f k : Nat) (F : zpF) (x : zpR) (V : z_M) (s p : Nat) (Q : Int → z_M → Prop) (D : Nat), zpPa b L n m dd f k F = some x → dd ≤ 8 → 8 ≤ D → zqS V b L f k s p dd → s + p ≤ f → (p = 0 ∨ zqBi (V 150 (p - 1)) < tc) → ¬ zqI V p = 31 → zq0 D Q 1 V x → zq1 b L D Q 1 2 V f s s p 0 dd lo (20 - 2 * dd) x → zqG D Q 1 0 V
def zqk (b : Nat → Int) (L n m : Nat) (lo tc : Int) : Prop := ∀ (dd f k : Nat) (F : zpF) (x : zpR) (V : z_M) (s s1 p e : Nat) (Q : Int → z_M → Prop) (D : Nat), zpPa b L n m dd f k F = some x → dd ≤ 8 → 8 ≤ D → zqS V b L f k s1 (p + e) dd → s ≤ s1 → s1 + p + e ≤ f → (p = 0 ∨ zqBi (V 150 (p - 1)) < tc) → ¬ zqI V p = 31 → zqD V p s lo e (20 - 2 * dd) F → zq0 D Q 1 V x → zq1 b L D Q 1 2 V f s s1 p e dd lo (20 - 2 * dd) x → zqG D Q 1 2 V
theorem zq0_t {D : Nat} {Q : Int → z_M → Prop} {l1 : Int} {U V : z_M} {x : zpR} (h : zq0 D Q l1 U x) (hF : zqX U V) : zq0 D Q l1 V x := fun q e t W w1 w2 w3 => h q e t W (zqX_t hF w1) w2 w3
section
variable {b : Nat → Int} {L : Nat}
/-- no sign of a sum behind it -/
theorem zpK_no {n dd f k f2 k2 : Nat} {F G : zpF} (hf : f ≤ L) (e : zpPa b L n 3 dd f k F = some (.inr (f2, k2, G))) : f ≤ f2 ∧ f < f2 ∧ f2 ≤ L ∧ zpNo b L f2 := by
  have q := zpPa_k (b := b) (L := L) n 3 dd f k F _ (by unfold zpM; omega) hf (by omega) (by omega) (by omega) e f2 k2 G rfl
  exact ⟨q.1, q.2.2.1 (by omega), q.2.1, q.2.2.2.1 (by omega), q.2.2.2.2.1 (by omega)⟩
theorem zq_part {n : Nat} (ih : zqm b L n 3 5 19 5) : zqm b L (n + 1) 0 6 17 10 := by
  intro dd f k F x V s p l1 Q D r e hd hD hS hg hst h0 h1
  rw [zpPa_0] at e
  have hf := hS.2.1.2.2.2.2
  have hL := hS.1.2.1
  have nx := zpNx_p (b := b) hf
  refine sq190 (d := r) hS hg (fun q ho W w1 w2 w3 => ?_) (fun q hk W w1 w2 w3 => ?_) (fun t W q w1 w2 w3 => ?_)
  · rw [if_pos q, if_neg (by omega)] at e
    rw [zpSg_e] at q
    have nx2 := nx.2.2.2 q.1
    obtain ⟨D, rfl⟩ : ∃ D2, D = D2 + 8 := ⟨D - 8, by omega⟩
    refine zqG_1 w2.2.2.1 ?_
    rcases zpBd_r e with ⟨p2, e1, rfl⟩ | ⟨f2, k2, G, e1, e2⟩
    · exact ih (dd + 1) _ _ _ _ W s (p + 1) l1 Q _ (D + 3) e1 (by omega) hD w2 (by omega) (Or.inr (by rw [show p + 1 - 1 = p by omega, w3]; decide)) (zq0_t h0 w1.1) (fun _ _ _ ep => nomatch ep)
    · have kn := zpK_no nx.2.2.1 e1
      refine ih (dd + 1) _ _ _ _ W s (p + 1) l1 Q _ (D + 3) e1 (by omega) hD w2 (by omega) (Or.inr (by rw [show p + 1 - 1 = p by omega, w3]; decide)) (fun _ ep => nomatch ep) (fun f3 k3 G3 ep W2 e2' s2 a1 a2 a3 a4 a5 => ?_)
      cases ep
      refine zqG_3 a2.2.2.1 ?_
      refine sq192_br (d := D + 4) a2 a3 a5 (by decide) (by omega) (by omega) ((a1.2.2 p (by omega)).1.trans w3) kn.2.2.2 (fun q3 W3 s3 c1 c2 c3 c4 c5 => ?_) (fun q3 W3 c1 c2 c3 => ?_)
      · rw [if_pos q3] at e2
        cases e2
        rw [zpSg_e] at q3
        have n3 := (zpNx_p (b := b) kn.2.2.1).2.2.2 q3.1
        exact h1 _ _ _ rfl W3 0 s3 (zqF_t (zqF_t w1 a1 (Nat.le_refl s) (by omega)) c1 (Nat.le_refl s) (Nat.le_refl p)) c2 (by omega) (by omega) (zqD_0 c2.2.2.2.2.2.1 (zqC_f c5 (by omega) (fun _ _ => ⟨rfl, rfl⟩)))
      · rw [if_neg (by rw [q3]; decide)] at e2
        cases e2
        exact h0 _ rfl 3 W3 (zqX_t (zqX_t w1.1 a1.1) c1) c2 c3
  · rw [if_neg (by rw [q]; decide), if_neg hk] at e
    cases e
    have hfl : f < L := by
      have a1 := zpNm_b (b := b) (L := L) (f := f)
      by_cases a2 : zpFa b L f = -1
      · omega
      · exact zpFa_f hf a2
    have nx2 := nx.2.2.2 hfl
    exact h1 _ _ _ rfl W 0 (s + 1) w1 w2 (by omega) (by omega) (zqD_0 w2.2.2.2.2.2.1 (zqC_f w3 (by omega) (fun _ _ => ⟨rfl, rfl⟩)))
  · rcases q with ⟨q, ho⟩ | ⟨q, hk⟩
    · rw [if_pos q, if_pos ho] at e
      cases e
      exact h0 f rfl t W w1 w2 w3
    · rw [if_neg (by rw [q]; decide), if_pos hk] at e
      cases e
      exact h0 f rfl t W w1 w2 w3
theorem zq_terml {n : Nat} (ih : zqm b L n 0 6 17 10) (ihl : zql b L n 2 6 18 6) : zql b L (n + 1) 2 6 18 6 := by
  intro dd f k F x V s s1 p e l1 Q D ex hd hD hS hs hg hst hW h0 h1
  rw [zpPa_2] at ex
  have hf := hS.2.1.2.2.2.2
  have hL := hS.1.2.1
  have nx := zpNx_p (b := b) hf
  obtain ⟨D, rfl⟩ : ∃ D2, D = D2 + 8 := ⟨D - 8, by omega⟩
  have go : ∀ c op : Int, zpSg b L f c = true → (c = 42 ∧ op = 22) ∨ (c = 47 ∧ op = 23) → (zpBd (zpPa b L n 0 dd (zpNx b L f) k F) fun f2 k2 G => zpPa b L n 2 dd f2 k2 (zpBi op F G)) = some x → zqG (D + 8) Q l1 3 V := by
    intro c op hc hk ex
    have hc2 := hc
    rw [zpSg_e] at hc2
    have nx2 := nx.2.2.2 hc2.1
    have hb : zqBi op = 6 := by rcases hk with ⟨_, rfl⟩ | ⟨_, rfl⟩ <;> decide
    refine zqG_3 hS.2.2.1 (sq192_op (d := D + 4) (bd := 6) (op := op) hS hs hW (by decide) hg hst hc (by omega) (fun W s2 w1 w2 w3 w4 w4' w5 w6 => zqG_1 w2.2.2.1 ?_))
    rcases zpBd_r ex with ⟨p2, e1, rfl⟩ | ⟨f2, k2, G, e1, e2⟩
    · exact ih dd _ _ _ _ W s2 (p + 1) l1 Q _ (D + 3) e1 hd hD w2 w4 (Or.inr (by rw [show p + 1 - 1 = p by omega, w5, hb]; decide)) (zq0_t h0 w1.1) (fun _ _ _ ep => nomatch ep)
    · refine ih dd _ _ _ _ W s2 (p + 1) l1 Q _ (D + 3) e1 hd hD w2 w4 (Or.inr (by rw [show p + 1 - 1 = p by omega, w5, hb]; decide)) (fun _ ep => nomatch ep) (fun f3 k3 G3 ep W2 e3 s3 a1 a2 a3 a4 a5 => ?_)
      cases ep
      have p2 : W2 150 p = op := (a1.2.2 p (by omega)).1.trans w5
      have fW : zqF V W2 s p := zqF_t w1 a1 (by have := w6.1; omega) (by omega)
      have cW : zqC W2 (18 - 2 * dd) s s2 F := zqC_f w6 (Nat.le_refl _) (fun j hj => a1.2.1 j hj)
      have dW : zqD W2 p s 6 (e3 + 1) (18 - 2 * dd) (zpBi op F G) := zqD_b a2.2.2.2.2.2.2.1 a2.2.2.2.2.2.1 a3 p2 (by omega) cW a5 ⟨by rw [hb]; decide, by decide⟩ ⟨Nat.le_refl _, by omega⟩
      refine ihl dd _ _ _ _ W2 s s3 p (e3 + 1) l1 Q _ e2 hd hD (by rw [show p + (e3 + 1) = p + 1 + e3 by omega]; exact a2) (by omega) (by omega) ?_ dW (zq0_t h0 fW.1) (fun f4 k4 G4 ep W4 e4 s4 d1 d2 d3 d4 d5 => h1 _ _ _ ep W4 e4 s4 (zqF_t fW d1 (Nat.le_refl s) (Nat.le_refl p)) d2 (by omega) (by omega) d5)
      rcases hst with h | h
      · exact Or.inl h
      · by_cases p0 : p = 0
        · exact Or.inl p0
        · exact Or.inr (by rw [(fW.2.2 (p - 1) (by omega)).1]; exact h)
  by_cases q1 : zpSg b L f 42 = true
  · rw [if_pos q1] at ex
    exact go 42 22 q1 (Or.inl ⟨rfl, rfl⟩) ex
  · rw [if_neg q1] at ex
    by_cases q2 : zpSg b L f 47 = true
    · rw [if_pos q2] at ex
      exact go 47 23 q2 (Or.inr ⟨rfl, rfl⟩) ex
    · rw [if_neg q2] at ex
      cases ex
      exact h1 _ _ _ rfl V e s1 zqF_r hS (Nat.le_refl _) (by omega) hW
theorem zq_term {n : Nat} (ih : zqm b L n 0 6 17 10) (ihl : zql b L n 2 6 18 6) : zqm b L (n + 1) 1 6 18 6 := by
  intro dd f k F x V s p l1 Q D r ex hd hD hS hg hst h0 h1
  rw [zpPa_1] at ex
  have st2 : p = 0 ∨ zqBi (V 150 (p - 1)) < 10 := by omega
  rcases zpBd_r ex with ⟨p2, e1, rfl⟩ | ⟨f2, k2, G, e1, e2⟩
  · exact ih dd _ _ _ _ V s p l1 Q D r e1 hd hD hS hg st2 h0 (fun _ _ _ ep => nomatch ep)
  · refine ih dd _ _ _ _ V s p l1 Q D r e1 hd hD hS hg st2 (fun _ ep => nomatch ep) (fun f3 k3 G3 ep W2 e3 s3 a1 a2 a3 a4 a5 => ?_)
    cases ep
    refine ihl dd _ _ _ _ W2 s s3 p e3 l1 Q D e2 hd hD a2 a3 (by omega) ?_ (zqD_w a5 (by omega) (by decide)) (zq0_t h0 a1.1) (fun f4 k4 G4 ep W4 e4 s4 d1 d2 d3 d4 d5 => h1 _ _ _ ep W4 e4 s4 (zqF_t a1 d1 (Nat.le_refl s) (Nat.le_refl p)) d2 (by omega) (by omega) d5)
    rcases hst with h | h
    · exact Or.inl h
    · by_cases p0 : p = 0
      · exact Or.inl p0
      · exact Or.inr (by rw [(a1.2.2 (p - 1) (by omega)).1]; exact h)
theorem zq_suml {n : Nat} (ih : zqm b L n 1 6 18 6) (ihl : zql b L n 4 5 19 5) : zql b L (n + 1) 4 5 19 5 := by
  intro dd f k F x V s s1 p e l1 Q D ex hd hD hS hs hg hst hW h0 h1
  rw [zpPa_4] at ex
  have hf := hS.2.1.2.2.2.2
  have hL := hS.1.2.1
  have nx := zpNx_p (b := b) hf
  obtain ⟨D, rfl⟩ : ∃ D2, D = D2 + 8 := ⟨D - 8, by omega⟩
  have go : ∀ c op : Int, zpSg b L f c = true → (c = 43 ∧ op = 20) ∨ (c = 45 ∧ op = 21) → (zpBd (zpPa b L n 1 dd (zpNx b L f) k F) fun f2 k2 G => zpPa b L n 4 dd f2 k2 (zpBi op F G)) = some x → zqG (D + 8) Q l1 3 V := by
    intro c op hc hk ex
    have hc2 := hc
    rw [zpSg_e] at hc2
    have nx2 := nx.2.2.2 hc2.1
    have hb : zqBi op = 5 := by rcases hk with ⟨_, rfl⟩ | ⟨_, rfl⟩ <;> decide
    refine zqG_3 hS.2.2.1 (sq192_op (d := D + 4) (bd := 5) (op := op) hS hs hW (by decide) hg hst hc (by omega) (fun W s2 w1 w2 w3 w4 w4' w5 w6 => zqG_1 w2.2.2.1 ?_))
    rcases zpBd_r ex with ⟨p2, e1, rfl⟩ | ⟨f2, k2, G, e1, e2⟩
    · exact ih dd _ _ _ _ W s2 (p + 1) l1 Q _ (D + 3) e1 hd hD w2 w4 (Or.inr (by rw [show p + 1 - 1 = p by omega, w5, hb]; decide)) (zq0_t h0 w1.1) (fun _ _ _ ep => nomatch ep)
    · refine ih dd _ _ _ _ W s2 (p + 1) l1 Q _ (D + 3) e1 hd hD w2 w4 (Or.inr (by rw [show p + 1 - 1 = p by omega, w5, hb]; decide)) (fun _ ep => nomatch ep) (fun f3 k3 G3 ep W2 e3 s3 a1 a2 a3 a4 a5 => ?_)
      cases ep
      have p2 : W2 150 p = op := (a1.2.2 p (by omega)).1.trans w5
      have fW : zqF V W2 s p := zqF_t w1 a1 (by have := w6.1; omega) (by omega)
      have cW : zqC W2 (19 - 2 * dd) s s2 F := zqC_f w6 (Nat.le_refl _) (fun j hj => a1.2.1 j hj)
      have dW : zqD W2 p s 5 (e3 + 1) (19 - 2 * dd) (zpBi op F G) := zqD_b a2.2.2.2.2.2.2.1 a2.2.2.2.2.2.1 a3 p2 (by omega) cW a5 ⟨by rw [hb]; decide, by decide⟩ ⟨Nat.le_refl _, by omega⟩
      refine ihl dd _ _ _ _ W2 s s3 p (e3 + 1) l1 Q _ e2 hd hD (by rw [show p + (e3 + 1) = p + 1 + e3 by omega]; exact a2) (by omega) (by omega) ?_ dW (zq0_t h0 fW.1) (fun f4 k4 G4 ep W4 e4 s4 d1 d2 d3 d4 d5 => h1 _ _ _ ep W4 e4 s4 (zqF_t fW d1 (Nat.le_refl s) (Nat.le_refl p)) d2 (by omega) (by omega) d5)
      rcases hst with h | h
      · exact Or.inl h
      · by_cases p0 : p = 0
        · exact Or.inl p0
        · exact Or.inr (by rw [(fW.2.2 (p - 1) (by omega)).1]; exact h)
  by_cases q1 : zpSg b L f 43 = true
  · rw [if_pos q1] at ex
    exact go 43 20 q1 (Or.inl ⟨rfl, rfl⟩) ex
  · rw [if_neg q1] at ex
    by_cases q2 : zpSg b L f 45 = true
    · rw [if_pos q2] at ex
      exact go 45 21 q2 (Or.inr ⟨rfl, rfl⟩) ex
    · rw [if_neg q2] at ex
      cases ex
      exact h1 _ _ _ rfl V e s1 zqF_r hS (Nat.le_refl _) (by omega) hW
theorem zq_sum {n : Nat} (ih : zqm b L n 1 6 18 6) (ihl : zql b L n 4 5 19 5) : zqm b L (n + 1) 3 5 19 5 := by
  intro dd f k F x V s p l1 Q D r ex hd hD hS hg hst h0 h1
  rw [zpPa_3] at ex
  have st2 : p = 0 ∨ zqBi (V 150 (p - 1)) < 6 := by omega
  rcases zpBd_r ex with ⟨p2, e1, rfl⟩ | ⟨f2, k2, G, e1, e2⟩
  · exact ih dd _ _ _ _ V s p l1 Q D r e1 hd hD hS hg st2 h0 (fun _ _ _ ep => nomatch ep)
  · refine ih dd _ _ _ _ V s p l1 Q D r e1 hd hD hS hg st2 (fun _ ep => nomatch ep) (fun f3 k3 G3 ep W2 e3 s3 a1 a2 a3 a4 a5 => ?_)
    cases ep
    refine ihl dd _ _ _ _ W2 s s3 p e3 l1 Q D e2 hd hD a2 a3 (by omega) ?_ (zqD_w a5 (by omega) (by decide)) (zq0_t h0 a1.1) (fun f4 k4 G4 ep W4 e4 s4 d1 d2 d3 d4 d5 => h1 _ _ _ ep W4 e4 s4 (zqF_t a1 d1 (Nat.le_refl s) (Nat.le_refl p)) d2 (by omega) (by omega) d5)
    rcases hst with h | h
    · exact Or.inl h
    · by_cases p0 : p = 0
      · exact Or.inl p0
      · exact Or.inr (by rw [(a1.2.2 (p - 1) (by omega)).1]; exact h)
theorem zqI_F {V W : z_M} {s p : Nat} (h : zqF V W s p) : zqI W p = zqI V p := zqI_c (fun j hj => (h.2.2 j hj).1)
theorem zq_st {V W : z_M} {s p : Nat} {t : Int} (h : zqF V W s p) (hst : p = 0 ∨ zqBi (V 150 (p - 1)) < t) : p = 0 ∨ zqBi (W 150 (p - 1)) < t := by
  rcases hst with h1 | h1
  · exact Or.inl h1
  · by_cases p0 : p = 0
    · exact Or.inl p0
    · exact Or.inr (by rw [(h.2.2 (p - 1) (by omega)).1]; exact h1)
theorem zq_plain {n : Nat} (ih3 : zqm b L n 3 5 19 5) (ih9 : zqt b L n 9 1 1) (ih : zqt b L n 5 3 4) : zqt b L (n + 1) 5 3 4 := by
  intro dd f k F x V s p Q D ex hd hD hS hg hst hi h0 h1
  have hf := hS.2.1.2.2.2.2
  have hL := hS.1.2.1
  have nx := zpNx_p (b := b) hf
  have cd := zpCds
  rw [zpPa_5] at ex
  obtain ⟨D, rfl⟩ : ∃ D2, D = D2 + 8 := ⟨D - 8, by omega⟩
  refine zqG_0 hS.2.2.1 (zb191_141 (sq177 (d := D + 6) hS.2.1 cd.2.2.2.2.2.1 (by decide) (by decide) (fun q => z_ifn (by decide) ?_) (fun q => z_ifp rfl (sq178 (d := D + 6) hS.2.1 (by decide) (by decide) (fun q2 => z_ifn (by decide) ?_) (fun q2 => z_ifp rfl ?_)))))
  · -- "not"
    rw [if_pos q] at ex
    have hw := zpWd_f hf q
    have nx2 := nx.2.2.2 hw.1
    have u := zqU_p (V := V) (p := p) (op := 27) (at_ := 0)
    refine sq182 (d := D + 6) hS.2.2.2.2.2.2.1 (by omega) (sqx176 (d := D + 5) (zqS_u (x := 27) (y := 0) hS (by omega)) (fun W w1 w2 => ?_))
    have fW : zqF V W s p := zqF_t (s1 := s) (p1 := p) zqU_f (zqF_n w1) (Nat.le_refl s) (Nat.le_refl p)
    have wp : W 150 p = 27 := by rw [w1.1 150 (by decide)]; exact u.1
    have wi : ¬ zqI W (p + 1) = 31 := by
      show ¬ (if W 150 p < 30 then zqI W p else W 150 p) = 31
      rw [wp, if_pos (by decide), zqI_F fW]
      exact hi
    rcases zpBd_r ex with ⟨p2, e1, rfl⟩ | ⟨f2, k2, G, e1, e2⟩
    · exact ih dd _ _ _ _ W s (p + 1) Q _ e1 hd hD w2 (by omega) (Or.inr (by rw [show p + 1 - 1 = p by omega, wp]; decide)) wi (zq0_t h0 fW.1) (fun _ _ _ ep => nomatch ep)
    · have kg := zpPa_k (b := b) (L := L) n 5 dd _ _ _ _ (by unfold zpM; omega) nx.2.2.1 (by omega) (by omega) (by omega) e1 f2 k2 G rfl
      refine ih dd _ _ _ _ W s (p + 1) Q _ e1 hd hD w2 (by omega) (Or.inr (by rw [show p + 1 - 1 = p by omega, wp]; decide)) wi (fun _ ep => nomatch ep) (fun f3 k3 G3 ep W2 e3 s3 a1 a2 a3 a4 a5 => ?_)
      cases ep
      cases e2
      exact h1 _ _ _ rfl W2 (e3 + 1) s3 (zqF_t fW a1 (Nat.le_refl s) (by omega)) (by rw [show p + (e3 + 1) = p + 1 + e3 by omega]; exact a2) a3 (by omega) (zqD_n a2.2.2.2.2.2.2.1 a2.2.2.2.2.2.1 a3 ((a1.2.2 p (by omega)).1.trans wp) a5 ⟨by decide, by decide⟩ (kg.2.2.2.2.2.1 (by omega)))
  · -- a round bracket
    rw [if_neg (by rw [q]; decide), if_pos q2] at ex
    have q2' := q2
    rw [zpSg_e] at q2'
    have nx2 := nx.2.2.2 q2'.1
    refine sq188 (d := D + 3) hS q2'.1 hg (fun ho W w1 w2 w3 => ?_) (fun ho W w1 w2 w3 => ?_)
    · rw [if_neg (by omega)] at ex
      have wi : ¬ zqI W (p + 1) = 31 := by
        show ¬ (if W 150 p < 30 then zqI W p else W 150 p) = 31
        rw [w3, if_neg (by decide)]
        decide
      rcases zpBd_r ex with ⟨p2, e1, rfl⟩ | ⟨f2, k2, G, e1, e2⟩
      · exact ih9 (dd + 1) _ _ _ _ W s (p + 1) Q _ e1 (by omega) hD w2 (by omega) (Or.inr (by rw [show p + 1 - 1 = p by omega, w3]; decide)) wi (zq0_t h0 w1.1) (fun _ _ _ ep => nomatch ep)
      · have kg := zpPa_k (b := b) (L := L) n 9 (dd + 1) _ _ _ _ (by unfold zpM; omega) nx.2.2.1 (by omega) (by omega) (by omega) e1 f2 k2 G rfl
        refine ih9 (dd + 1) _ _ _ _ W s (p + 1) Q _ e1 (by omega) hD w2 (by omega) (Or.inr (by rw [show p + 1 - 1 = p by omega, w3]; decide)) wi (fun _ ep => nomatch ep) (fun f3 k3 G3 ep W2 e3 s3 a1 a2 a3 a4 a5 => ?_)
        cases ep
        refine zqG_2 a2.2.2.1 ?_
        refine sq193_br (d := D + 4) a2 a3 a5 (by decide) (by omega) (by omega) ((a1.2.2 p (by omega)).1.trans w3) (kg.2.2.2.2.2.2.1 (by omega)) (kg.2.2.2.2.2.2.2 (by omega)) (fun q3 W3 s4 c1 c2 c3 c4 c5 => ?_) (fun q3 W3 c1 c2 c3 => ?_)
        · rw [if_pos q3] at e2
          cases e2
          rw [zpSg_e] at q3
          have n3 := (zpNx_p (b := b) kg.2.1).2.2.2 q3.1
          exact h1 _ _ _ rfl W3 0 s4 (zqF_t (zqF_t w1 a1 (Nat.le_refl s) (by omega)) c1 (Nat.le_refl s) (Nat.le_refl p)) c2 (by omega) (by omega) (zqD_0 c2.2.2.2.2.2.1 (zqC_f c5 (by omega) (fun _ _ => ⟨rfl, rfl⟩)))
        · rw [if_neg (by rw [q3]; decide)] at e2
          cases e2
          exact h0 _ rfl 2 W3 (zqX_t (zqX_t w1.1 a1.1) c1) c2 c3
    · rw [if_pos ho] at ex
      cases ex
      exact h0 f rfl 0 W w1 w2 w3
  · -- two sums and what compares them
    rw [if_neg (by rw [q]; decide), if_neg (by rw [q2]; decide)] at ex
    have st5 : p = 0 ∨ zqBi (V 150 (p - 1)) < 5 := by omega
    rcases zpBd_r ex with ⟨p2, e1, rfl⟩ | ⟨f2, k2, G, e1, e2⟩
    · exact ih3 dd _ _ _ _ V s p 1 Q _ (D + 2) e1 hd hD hS hg st5 h0 (fun _ _ _ ep => nomatch ep)
    · have kn := zpK_no hf e1
      refine ih3 dd _ _ _ _ V s p 1 Q _ (D + 2) e1 hd hD hS hg st5 (fun _ ep => nomatch ep) (fun f3 k3 G3 ep W2 e3 s3 a1 a2 a3 a4 a5 => ?_)
      cases ep
      refine zqG_3 a2.2.2.1 (sq192_cm (d := D + 4) a2 a3 a5 (by decide) (by omega) (by rw [zqI_F a1]; exact hi) kn.2.2.2 (zq_st a1 hst) (fun hcm W s4 w1 w2 w3 w4 w4' w5 w6 => ?_) (fun hcm W c1 c2 c3 => ?_))
      · rw [if_neg hcm] at e2
        have cb := (zpCm_b (b := b) (L := L) (f := f2)).resolve_left hcm
        have hbi : zqBi (zpCm b L f2) = 4 := by rcases cb.2 with c | c | c <;> rw [c] <;> decide
        have nx4 := zpNx_p (b := b) kn.2.2.1
        refine zqG_1 w2.2.2.1 ?_
        rcases zpBd_r e2 with ⟨p2, e4, rfl⟩ | ⟨f5, k5, H, e4, e5⟩
        · exact ih3 dd _ _ _ _ W s4 (p + 1) 1 Q _ (D + 3) e4 hd hD w2 w4 (Or.inr (by rw [show p + 1 - 1 = p by omega, w5, hbi]; decide)) (zq0_t h0 (zqX_t a1.1 w1.1)) (fun _ _ _ ep => nomatch ep)
        · have kn2 := zpK_no nx4.2.2.1 e4
          refine ih3 dd _ _ _ _ W s4 (p + 1) 1 Q _ (D + 3) e4 hd hD w2 w4 (Or.inr (by rw [show p + 1 - 1 = p by omega, w5, hbi]; decide)) (fun _ ep => nomatch ep) (fun f6 k6 G6 ep W5 e6 s6 d1 d2 d3 d4 d5 => ?_)
          cases ep
          cases e5
          have p5 : W5 150 p = zpCm b L f2 := (d1.2.2 p (by omega)).1.trans w5
          have fW : zqF V W5 s p := zqF_t (zqF_t a1 w1 (Nat.le_refl s) (Nat.le_refl p)) d1 (by have := w6.1; omega) (by omega)
          have wi : ¬ zqI W5 (p + 1) = 31 := by
            show ¬ (if W5 150 p < 30 then zqI W5 p else W5 150 p) = 31
            rw [p5, if_pos (by omega), zqI_F fW]
            exact hi
          have cW : zqC W5 (19 - 2 * dd) s s4 G := zqC_f w6 (Nat.le_refl _) (fun j hj => d1.2.1 j hj)
          have dW : zqD W5 p s 3 (e6 + 1) (20 - 2 * dd) (zpBi (zpCm b L f2) G H) := zqD_b d2.2.2.2.2.2.2.1 d2.2.2.2.2.2.1 d3 p5 (by omega) cW d5 ⟨by rw [hbi]; decide, by decide⟩ ⟨by omega, by omega⟩
          refine zqG_3 d2.2.2.1 (sq192_tl (d := D + 4) d2 d5 (by decide) (by omega) wi kn2.2.2.2 ⟨by omega, by rw [show p + 1 - 1 = p by omega, p5]; omega⟩ ?_)
          exact h1 _ _ _ rfl W5 (e6 + 1) s6 fW (by rw [show p + (e6 + 1) = p + 1 + e6 by omega]; exact d2) (by omega) (by omega) dW
      · rw [if_pos hcm] at e2
        cases e2
        exact h0 _ rfl 1 W (zqX_t a1.1 c1) c2 c3
theorem zq_bothl {n : Nat} (ih : zqt b L n 5 3 4) (ihl : zqk b L n 8 2 2) : zqk b L (n + 1) 8 2 2 := by
  intro dd f k F x V s s1 p e Q D ex hd hD hS hs hg hst hi hW h0 h1
  rw [zpPa_8] at ex
  have hf := hS.2.1.2.2.2.2
  have hL := hS.1.2.1
  have nx := zpNx_p (b := b) hf
  obtain ⟨D, rfl⟩ : ∃ D2, D = D2 + 8 := ⟨D - 8, by omega⟩
  by_cases q : zpWd b L f 12 = true
  · rw [if_pos q] at ex
    have hw := zpWd_f hf q
    have nx2 := nx.2.2.2 hw.1
    refine zqG_2 hS.2.2.1 (sq193_log (d := D + 4) (op := 28) (bd := 2) hS hs hW (by decide) hg hst q (by omega) (fun W s2 w1 w2 w3 w4 w4' w5 w6 w7 w8 => ?_))
    have wi : ¬ zqI W (p + 1) = 31 := by
      show ¬ (if W 150 p < 30 then zqI W p else W 150 p) = 31
      rw [w5, if_pos (by decide), zqI_F w1]
      exact hi
    have tb : p + 1 = 0 ∨ zqBi (W 150 (p + 1 - 1)) < 4 := Or.inr (by rw [show p + 1 - 1 = p by omega, w5]; decide)
    rcases zpBd_r ex with ⟨p2, e1, rfl⟩ | ⟨f2, k2, G, e1, e2⟩
    · exact ih dd _ _ _ _ W (s2 + 1) (p + 1) Q _ e1 hd hD w2 w4 tb wi (zq0_t h0 w1.1) (fun _ _ _ ep => nomatch ep)
    · refine ih dd _ _ _ _ W (s2 + 1) (p + 1) Q _ e1 hd hD w2 w4 tb wi (fun _ ep => nomatch ep) (fun f3 k3 G3 ep W2 e3 s3 a1 a2 a3 a4 a5 => ?_)
      cases ep
      have hss := w8.1
      have p5 : W2 150 p = 28 := (a1.2.2 p (by omega)).1.trans w5
      have p6 : W2 151 p = (s2 : Int) := (a1.2.2 p (by omega)).2.trans w6
      have p7 : W2 148 s2 = 28 := (a1.2.1 s2 (by omega)).1.trans w7
      have fW : zqF V W2 s p := zqF_t w1 a1 (by omega) (by omega)
      have cW : zqC W2 (20 - 2 * dd) s s2 F := zqC_f w8 (Nat.le_refl _) (fun j hj => a1.2.1 j (by omega))
      have dW : zqD W2 p s 2 (e3 + 1) (20 - 2 * dd) (zpLg 0 F G) := zqD_l a2.2.2.2.2.2.2.1 a2.2.2.2.2.2.1 a3 (by omega) (by rw [p7, p5]) p6 cW a5 ⟨by rw [p5]; decide, by decide⟩
      exact ihl dd _ _ _ _ W2 s s3 p (e3 + 1) Q _ e2 hd hD (by rw [show p + (e3 + 1) = p + 1 + e3 by omega]; exact a2) (by omega) (by omega) (zq_st fW hst) (by rw [zqI_F fW]; exact hi) dW (zq0_t h0 fW.1) (fun f4 k4 G4 ep W4 e4 s4 d1 d2 d3 d4 d5 => h1 _ _ _ ep W4 e4 s4 (zqF_t fW d1 (Nat.le_refl s) (Nat.le_refl p)) d2 (by omega) (by omega) d5)
  · rw [if_neg q] at ex
    cases ex
    exact h1 _ _ _ rfl V e s1 zqF_r hS (Nat.le_refl _) (by omega) hW
theorem zq_both {n : Nat} (ih : zqt b L n 5 3 4) (ihl : zqk b L n 8 2 2) : zqt b L (n + 1) 7 2 2 := by
  intro dd f k F x V s p Q D ex hd hD hS hg hst hi h0 h1
  rw [zpPa_7] at ex
  have st2 : p = 0 ∨ zqBi (V 150 (p - 1)) < 4 := by omega
  rcases zpBd_r ex with ⟨p2, e1, rfl⟩ | ⟨f2, k2, G, e1, e2⟩
  · exact ih dd _ _ _ _ V s p Q D e1 hd hD hS hg st2 hi h0 (fun _ _ _ ep => nomatch ep)
  · refine ih dd _ _ _ _ V s p Q D e1 hd hD hS hg st2 hi (fun _ ep => nomatch ep) (fun f3 k3 G3 ep W2 e3 s3 a1 a2 a3 a4 a5 => ?_)
    cases ep
    exact ihl dd _ _ _ _ W2 s s3 p e3 Q D e2 hd hD a2 a3 (by omega) (zq_st a1 hst) (by rw [zqI_F a1]; exact hi) (zqD_w a5 (Nat.le_refl _) (by decide)) (zq0_t h0 a1.1) (fun f4 k4 G4 ep W4 e4 s4 d1 d2 d3 d4 d5 => h1 _ _ _ ep W4 e4 s4 (zqF_t a1 d1 (Nat.le_refl s) (Nat.le_refl p)) d2 (by omega) (by omega) d5)
theorem zq_testl {n : Nat} (ih : zqt b L n 7 2 2) (ihl : zqk b L n 10 1 1) : zqk b L (n + 1) 10 1 1 := by
  intro dd f k F x V s s1 p e Q D ex hd hD hS hs hg hst hi hW h0 h1
  rw [zpPa_10] at ex
  have hf := hS.2.1.2.2.2.2
  have hL := hS.1.2.1
  have nx := zpNx_p (b := b) hf
  obtain ⟨D, rfl⟩ : ∃ D2, D = D2 + 8 := ⟨D - 8, by omega⟩
  by_cases q : zpWd b L f 11 = true
  · rw [if_pos q] at ex
    have hw := zpWd_f hf q
    have nx2 := nx.2.2.2 hw.1
    refine zqG_2 hS.2.2.1 (sq193_log (d := D + 4) (op := 29) (bd := 1) hS hs hW (by decide) hg hst q (by omega) (fun W s2 w1 w2 w3 w4 w4' w5 w6 w7 w8 => ?_))
    have wi : ¬ zqI W (p + 1) = 31 := by
      show ¬ (if W 150 p < 30 then zqI W p else W 150 p) = 31
      rw [w5, if_pos (by decide), zqI_F w1]
      exact hi
    have tb : p + 1 = 0 ∨ zqBi (W 150 (p + 1 - 1)) < 2 := Or.inr (by rw [show p + 1 - 1 = p by omega, w5]; decide)
    rcases zpBd_r ex with ⟨p2, e1, rfl⟩ | ⟨f2, k2, G, e1, e2⟩
    · exact ih dd _ _ _ _ W (s2 + 1) (p + 1) Q _ e1 hd hD w2 w4 tb wi (zq0_t h0 w1.1) (fun _ _ _ ep => nomatch ep)
    · refine ih dd _ _ _ _ W (s2 + 1) (p + 1) Q _ e1 hd hD w2 w4 tb wi (fun _ ep => nomatch ep) (fun f3 k3 G3 ep W2 e3 s3 a1 a2 a3 a4 a5 => ?_)
      cases ep
      have hss := w8.1
      have p5 : W2 150 p = 29 := (a1.2.2 p (by omega)).1.trans w5
      have p6 : W2 151 p = (s2 : Int) := (a1.2.2 p (by omega)).2.trans w6
      have p7 : W2 148 s2 = 29 := (a1.2.1 s2 (by omega)).1.trans w7
      have fW : zqF V W2 s p := zqF_t w1 a1 (by omega) (by omega)
      have cW : zqC W2 (20 - 2 * dd) s s2 F := zqC_f w8 (Nat.le_refl _) (fun j hj => a1.2.1 j (by omega))
      have dW : zqD W2 p s 1 (e3 + 1) (20 - 2 * dd) (zpLg 1 F G) := zqD_l a2.2.2.2.2.2.2.1 a2.2.2.2.2.2.1 a3 (by omega) (by rw [p7, p5]) p6 cW a5 ⟨by rw [p5]; decide, by decide⟩
      exact ihl dd _ _ _ _ W2 s s3 p (e3 + 1) Q _ e2 hd hD (by rw [show p + (e3 + 1) = p + 1 + e3 by omega]; exact a2) (by omega) (by omega) (zq_st fW hst) (by rw [zqI_F fW]; exact hi) dW (zq0_t h0 fW.1) (fun f4 k4 G4 ep W4 e4 s4 d1 d2 d3 d4 d5 => h1 _ _ _ ep W4 e4 s4 (zqF_t fW d1 (Nat.le_refl s) (Nat.le_refl p)) d2 (by omega) (by omega) d5)
  · rw [if_neg q] at ex
    cases ex
    exact h1 _ _ _ rfl V e s1 zqF_r hS (Nat.le_refl _) (by omega) hW
theorem zq_test {n : Nat} (ih : zqt b L n 7 2 2) (ihl : zqk b L n 10 1 1) : zqt b L (n + 1) 9 1 1 := by
  intro dd f k F x V s p Q D ex hd hD hS hg hst hi h0 h1
  rw [zpPa_9] at ex
  have st2 : p = 0 ∨ zqBi (V 150 (p - 1)) < 2 := by omega
  rcases zpBd_r ex with ⟨p2, e1, rfl⟩ | ⟨f2, k2, G, e1, e2⟩
  · exact ih dd _ _ _ _ V s p Q D e1 hd hD hS hg st2 hi h0 (fun _ _ _ ep => nomatch ep)
  · refine ih dd _ _ _ _ V s p Q D e1 hd hD hS hg st2 hi (fun _ ep => nomatch ep) (fun f3 k3 G3 ep W2 e3 s3 a1 a2 a3 a4 a5 => ?_)
    cases ep
    exact ihl dd _ _ _ _ W2 s s3 p e3 Q D e2 hd hD a2 a3 (by omega) (zq_st a1 hst) (by rw [zqI_F a1]; exact hi) (zqD_w a5 (Nat.le_refl _) (by decide)) (zq0_t h0 a1.1) (fun f4 k4 G4 ep W4 e4 s4 d1 d2 d3 d4 d5 => h1 _ _ _ ep W4 e4 s4 (zqF_t a1 d1 (Nat.le_refl s) (Nat.le_refl p)) d2 (by omega) (by omega) d5)
theorem zq_all : ∀ n, zqm b L n 0 6 17 10 ∧ zqm b L n 1 6 18 6 ∧ zql b L n 2 6 18 6 ∧ zqm b L n 3 5 19 5 ∧ zql b L n 4 5 19 5 ∧ zqt b L n 5 3 4 ∧ zqt b L n 7 2 2 ∧ zqk b L n 8 2 2 ∧ zqt b L n 9 1 1 ∧ zqk b L n 10 1 1
  | 0 => ⟨fun _ _ _ _ _ _ _ _ _ _ _ _ e => absurd e (by simp [zpPa]), fun _ _ _ _ _ _ _ _ _ _ _ _ e => absurd e (by simp [zpPa]), fun _ _ _ _ _ _ _ _ _ _ _ _ _ e => absurd e (by simp [zpPa]), fun _ _ _ _ _ _ _ _ _ _ _ _ e => absurd e (by simp [zpPa]), fun _ _ _ _ _ _ _ _ _ _ _ _ _ e => absurd e (by simp [zpPa]), fun _ _ _ _ _ _ _ _ _ _ e => absurd e (by simp [zpPa]), fun _ _ _ _ _ _ _ _ _ _ e => absurd e (by simp [zpPa]), fun _ _ _ _ _ _ _ _ _ _ _ _ e => absurd e (by simp [zpPa]), fun _ _ _ _ _ _ _ _ _ _ e => absurd e (by simp [zpPa]), fun _ _ _ _ _ _ _ _ _ _ _ _ e => absurd e (by simp [zpPa])⟩
  | n + 1 => by
    obtain ⟨a0, a1, a2, a3, a4, a5, a7, a8, a9, a10⟩ := zq_all n
    exact ⟨zq_part a3, zq_term a0 a2, zq_terml a0 a2, zq_sum a1 a4, zq_suml a1 a4, zq_plain a3 a9 a5, zq_both a5 a8, zq_bothl a5 a8, zq_test a7 a10, zq_testl a7 a10⟩
end
