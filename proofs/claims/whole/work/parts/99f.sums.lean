/-! the class's reader: sums -/
def zXs (V : z_M) (b : Nat → Int) (L f k s : Nat) : Prop := zXb V b L ∧ V 89 7 = (f : Int) ∧ V 89 8 = ((zpTe b L f : Nat) : Int) ∧ V 89 4 = (k : Int) ∧ V 89 3 = (s : Int) ∧ f ≤ L ∧ V 89 9 = -1
def zXf (V W : z_M) (s : Nat) : Prop := (∀ a, ¬ a = 89 → ¬ a = 90 → ¬ a = 91 → W a = V a) ∧ ∀ j, j < s → W 90 j = V 90 j ∧ W 91 j = V 91 j
theorem zXf_r {V : z_M} {s : Nat} : zXf V V s := ⟨fun _ _ _ _ => rfl, fun _ _ => ⟨rfl, rfl⟩⟩
theorem zXf_t {U V W : z_M} {s s1 : Nat} (h : zXf U V s) (h2 : zXf V W s1) (e : s ≤ s1) : zXf U W s := ⟨fun a x y z => (h2.1 a x y z).trans (h.1 a x y z), fun j hj => ⟨(h2.2 j (by omega)).1.trans (h.2 j hj).1, (h2.2 j (by omega)).2.trans (h.2 j hj).2⟩⟩
theorem zXf_n {V W : z_M} {s : Nat} (h : zXn V W) : zXf V W s := ⟨fun a x _ _ => h.1 a x, fun j _ => ⟨by rw [h.1 90 (by decide)], by rw [h.1 91 (by decide)]⟩⟩
theorem zXf_a {V : z_M} {s s1 : Nat} {a c : Int} (h : s ≤ s1) : zXf V (zXa V s1 a c) s := by
  unfold zXa
  refine ⟨fun x h1 h2 h3 => by rw [z_up_cell h1, z_up_cell h3, z_up_cell h2], fun j hj => ⟨?_, ?_⟩⟩
  · rw [z_up_cell (by decide), z_up_cell (by decide), z_up_rd, if_pos rfl, if_neg (by omega)]
  · rw [z_up_cell (by decide), z_up_rd, if_pos rfl, if_neg (by omega), z_up_cell (by decide)]
def zXc (W : z_M) (D s e : Nat) (F : zpF) : Prop := zSeg (fun j => zTr (W 90 j) (W 91 j)) (fun j => W 91 j) D s e F
theorem zXc_f {V W : z_M} {D D2 s e : Nat} {F : zpF} (h : zXc V D s e F) (hD : D ≤ D2) (hc : ∀ j, j < e → W 90 j = V 90 j ∧ W 91 j = V 91 j) : zXc W D2 s e F := by
  refine zSeg_congr (fun k h1 h2 => ?_) hD h
  try dsimp only
  rw [(hc k h2).1, (hc k h2).2]
  exact ⟨rfl, rfl⟩
theorem zXa_s {V : z_M} {s : Nat} {a c : Int} : zXa V s a c 90 s = a ∧ zXa V s a c 91 s = c := by
  unfold zXa
  constructor
  · rw [z_up_cell (by decide), z_up_cell (by decide), z_up_rd, if_pos rfl, if_pos rfl]
  · rw [z_up_cell (by decide), z_up_rd, if_pos rfl, if_pos rfl]
/-- a step that joins two -/
theorem zXc_b {V : z_M} {D1 D2 D s m e : Nat} {a op : Int} {F G : zpF} (h1 : zXc V D1 s m F) (h2 : zXc V D2 m e G) (hop : zTr a 0 = op) (ho : 20 ≤ op ∧ op ≤ 26) (hD : D1 ≤ D ∧ D2 + 1 ≤ D) (hm : m ≤ e) : zXc (zXa V e a 0) D s (e + 1) (zpBi op F G) := by
  have x := zXa_s (V := V) (s := e) (a := a) (c := 0)
  have fr := zXf_a (V := V) (s := e) (s1 := e) (a := a) (c := 0) (Nat.le_refl e)
  have g1 : zXc (zXa V e a 0) D1 s m F := zXc_f h1 (Nat.le_refl _) (fun j hj => fr.2 j (by omega))
  have g2 : zXc (zXa V e a 0) D2 m e G := zXc_f h2 (Nat.le_refl _) (fun j hj => fr.2 j hj)
  have eo : zTr (zXa V e a 0 90 e) (zXa V e a 0 91 e) = op := by rw [x.1, x.2]; exact hop
  have g3 := zSeg_bin g1 g2 (by rw [eo]; exact ho)
  try dsimp only at g3
  rw [eo] at g3
  exact zSeg_congr (fun _ _ _ => ⟨rfl, rfl⟩) (by omega) g3
section
variable {d : Nat} {b : Nat → Int} {L : Nat}
theorem zXs_n {V W : z_M} {f k s : Nat} (h : zXs V b L f k s) (hn : zXn V W) (h7 : W 89 7 = ((zpNx b L f : Nat) : Int)) (h8 : W 89 8 = ((zpTe b L (zpNx b L f) : Nat) : Int)) : zXs W b L (zpNx b L f) k s := by
  obtain ⟨hX, _, _, h4, h3, hf, h9⟩ := h
  exact ⟨zXb_c hX (hn.2 5 (by decide) (by decide)) (hn.2 6 (by decide) (by decide)) (hn.1 88 (by decide)) (fun a x y => hn.1 a (by omega)), h7, h8, (hn.2 4 (by decide) (by decide)).trans h4, (hn.2 3 (by decide) (by decide)).trans h3, (zpNx_p hf).2.2.1, (hn.2 9 (by decide) (by decide)).trans h9⟩
theorem zXs_a {V : z_M} {f k s : Nat} {a c : Int} (h : zXs V b L f k s) : zXs (zXa V s a c) b L f k (s + 1) := by
  obtain ⟨hX, h7, h8, h4, h3, hf, h9⟩ := h
  have e : ∀ k, ¬ k = 3 → zXa V s a c 89 k = V 89 k := fun k hk => by
    unfold zXa
    rw [z_up_rd, if_pos rfl, if_neg hk, z_up_cell (by decide), z_up_cell (by decide)]
  have c : ∀ x, ¬ x = 89 → ¬ x = 90 → ¬ x = 91 → zXa V s a c x = V x := fun x h1 h2 h3 => by unfold zXa; rw [z_up_cell h1, z_up_cell h3, z_up_cell h2]
  exact ⟨zXb_c hX (e 5 (by decide)) (e 6 (by decide)) (c 88 (by decide) (by decide) (by decide)) (fun a x y => c a (by omega) (by omega) (by omega)), (e 7 (by decide)).trans h7, (e 8 (by decide)).trans h8, (e 4 (by decide)).trans h4, rfl, hf, (e 9 (by decide)).trans h9⟩
theorem spx40 {Q : Int → z_M → Prop} {V : z_M} {f k s : Nat} (hS : zXs V b L f k s) (h : ∀ W, zXn V W → zXs W b L (zpNx b L f) k s → Q 0 W) : z_MS (d + 2) 40 true [.inr (.inr 89)] V Q :=
  sp40 (d := d) hS.1 hS.2.2.1 (zpTe_p hS.2.2.2.2.2.1).2.1 (fun W w1 w2 w3 => h W w1 (zXs_n hS w1 w2 w3))
theorem spx38 {Q : Int → z_M → Prop} {V : z_M} {f k s : Nat} (hS : zXs V b L f k s) (h : ∀ W, zXf V W s → W 89 9 = (f : Int) → Q 0 W) : z_MS (d + 1) 38 true [.inr (.inr 89)] V Q := by
  refine sp38 (fun W hW => h W ?_ ?_)
  · subst hW
    exact ⟨fun a x _ _ => z_up_cell x, fun j _ => ⟨by rw [z_up_cell (by decide)], by rw [z_up_cell (by decide)]⟩⟩
  · subst hW
    rw [z_up_rd, if_pos rfl, if_pos rfl]
    exact hS.2.1
theorem spx39 {Q : Int → z_M → Prop} {V : z_M} {f k s : Nat} {c : Int} (hS : zXs V b L f k s) (h1 : zpSg b L f c = true → ∀ W, zXn V W → zXs W b L (zpNx b L f) k s → Q 1 W) (h0 : zpSg b L f c = false → ∀ W, zXf V W s → W 89 9 = (f : Int) → Q 0 W) : z_MS (d + 3) 39 true [.inr (.inr 89), .inl c] V Q :=
  zb39_89 _ (sp42 hS.1 hS.2.1 (fun q => z_ifn (by decide) (spx40 hS (h1 q))) (fun q => z_ifp rfl (spx38 hS (fun W w1 w2 => z_gp (by decide) (h0 q W w1 w2)))))
def zX0 (Q : Int → z_M → Prop) (V : z_M) (s : Nat) (x : zpR) : Prop := ∀ p : Nat, x = .inl p → ∀ W, zXf V W s → W 89 9 = (p : Int) → Q 0 W
def zX1 (Q : Int → z_M → Prop) (V : z_M) (b : Nat → Int) (L f s s1 D : Nat) (x : zpR) : Prop := ∀ f2 k2 G, x = .inr (f2, k2, G) → ∀ W s2, zXf V W s → zXs W b L f2 k2 s2 → s1 ≤ s2 → s2 + f ≤ s1 + f2 → zXc W D s s2 G → Q 1 W
/-- what a method of the reader does in a mode -/
def zXm (b : Nat → Int) (L n m i c r : Nat) : Prop := ∀ (dd f k : Nat) (F : zpF) (x : zpR) (V : z_M) (s : Nat) (Q : Int → z_M → Prop) (D : Nat), zpPa b L n m dd f k F = some x → dd ≤ 8 → 40 * (8 - dd) + 20 + r ≤ D → zXs V b L f k s → s ≤ f → zX0 Q V s x → zX1 Q V b L f s s (c - 2 * dd) x → z_MS D i true [.inr (.inr 89), .inl (dd : Int)] V Q
/-- what its loop does -/
def zXl (b : Nat → Int) (L n m i c r : Nat) : Prop := ∀ (dd f k : Nat) (F : zpF) (x : zpR) (V : z_M) (s s1 t : Nat) (o : Option z_V) (Q : Int → z_M → Prop) (D : Nat), zpPa b L n m dd f k F = some x → dd ≤ 8 → 40 * (8 - dd) + 19 + r ≤ D → zXs V b L f k s1 → s ≤ s1 → s1 ≤ f → t ≤ f → zXc V (c - 2 * dd) s s1 F → zX0 Q V s x → zX1 Q V b L f s s1 (c - 2 * dd) x → z_Ex (z_MS D) i Q true 12 [some (.inr (.inr 89)), some (.inl (dd : Int)), some (.inl (t : Int)), o] [] 0 0 V
theorem zX_leaf {Q : Int → z_M → Prop} {V : z_M} {f k s D c : Nat} {a v : Int} {G : zpF} (hS : zXs V b L f k s) (hk : k < 50) (hsf : s ≤ f) (hfl : f < L) (hseg : ∀ W : z_M, W 90 s = a → W 91 s = v → zXc W c s (s + 1) G)
    (h1 : ∀ W s2, zXf V W s → zXs W b L (zpNx b L f) (k + 1) s2 → s ≤ s2 → s2 + f ≤ s + zpNx b L f → zXc W c s s2 G → Q 1 W) : ∀ W, W = z_up V 89 4 (z_add (k : Int) 1) → z_MS (D + 2) 37 true [.inr (.inr 89), .inl a, .inl v] W (fun _ V7 => z_MS (D + 2) 40 true [.inr (.inr 89)] V7 (fun _ V8 => Q 1 V8)) := by
  intro W hW
  rw [z_inc (by omega)] at hW
  have hS0 := hS
  obtain ⟨hX, h7, h8, h4, h3, hf, h9⟩ := hS
  have hL := hX.2.2.1
  have e : ∀ j, ¬ j = 4 → W 89 j = V 89 j := fun j hj => by rw [hW, z_up_rd, if_pos rfl, if_neg hj]
  have cc : ∀ x, ¬ x = 89 → W x = V x := fun x hx => by rw [hW, z_up_cell hx]
  have hS2 : zXs W b L f (k + 1) s := ⟨zXb_c hX (e 5 (by decide)) (e 6 (by decide)) (cc 88 (by decide)) (fun a x y => cc a (by omega)), (e 7 (by decide)).trans h7, (e 8 (by decide)).trans h8, by rw [hW]; rfl, (e 3 (by decide)).trans h3, hf, (e 9 (by decide)).trans h9⟩
  refine sp37 (d := D + 1) hS2.2.2.2.2.1 (by omega) (spx40 (d := D) (zXs_a hS2) (fun W3 n3 s3 => ?_))
  have nx := zpNx_p (b := b) hf
  have := nx.2.2.2 hfl
  have x := zXa_s (V := W) (s := s) (a := a) (c := v)
  refine h1 W3 (s + 1) (zXf_t (s1 := s) (zXf_t (s1 := s) ⟨fun q y _ _ => cc q y, fun j _ => ⟨by rw [cc 90 (by decide)], by rw [cc 91 (by decide)]⟩⟩ (zXf_a (Nat.le_refl s)) (Nat.le_refl s)) (zXf_n n3) (Nat.le_refl s)) s3 (by omega) (by omega) (hseg W3 ?_ ?_)
  · rw [n3.1 90 (by decide)]; exact x.1
  · rw [n3.1 91 (by decide)]; exact x.2
theorem zX_part {n : Nat} (ih : zXm b L n 3 32 19 3) : zXm b L (n + 1) 0 34 17 1 := by
  intro dd f k F x V s Q D e hd hD hS hsf h0 h1
  obtain ⟨D, rfl⟩ : ∃ D2, D = D2 + 21 := ⟨D - 21, by omega⟩
  rw [zpPa_0] at e
  have hS0 := hS
  obtain ⟨hX, h7, h8, h4, h3, hf, h9⟩ := hS0
  have nx := zpNx_p (b := b) hf
  refine zb34_89 _ (sp42 (d := D + 19) hX h7 (fun q => z_ifn (by decide) ?_) (fun q => z_ifp rfl ?_))
  · rw [if_pos q] at e
    rw [zpSg_e] at q
    have nx2 := nx.2.2.2 q.1
    by_cases h8d : 8 ≤ dd
    · rw [if_pos h8d] at e
      cases e
      exact z_ifn (by omega) (spx38 (d := D + 19) hS (fun W w1 w2 => z_gp (by decide) (h0 f rfl W w1 w2)))
    · rw [if_neg h8d] at e
      refine z_ifp (by omega) (spx40 (d := D + 18) hS (fun W w1 w2 => ?_))
      rw [z_inc (by omega)]
      rcases zpBd_r e with ⟨p, e1, rfl⟩ | ⟨f2, k2, G, e1, e2⟩
      · exact ih _ _ _ _ _ _ _ _ _ e1 (by omega) (by omega) w2 (by omega) (fun p' ep W' w3 w4 => z_ifp rfl (h0 _ ep W' (zXf_t (zXf_n w1) w3 (Nat.le_refl s)) w4)) (fun _ _ _ ep => nomatch ep)
      · refine ih _ _ _ _ _ _ _ _ _ e1 (by omega) (by omega) w2 (by omega) (fun p' ep => nomatch ep) (fun f3 k3 G3 ep W' s2 w3 wS ws1 ws2 wc => ?_)
        cases ep
        refine z_ifn (by decide) (spx39 (d := D + 17) wS (fun q W3 n3 s3 => ?_) (fun q W3 n3 s3 => ?_))
        · rw [if_pos q] at e2
          cases e2
          have nx3 := zpNx_p (b := b) wS.2.2.2.2.2.1
          exact h1 _ _ _ rfl W3 s2 (zXf_t (zXf_t (zXf_n w1) w3 (Nat.le_refl s)) (zXf_n (s := s) n3) (Nat.le_refl s)) s3 ws1 (by omega) (zXc_f wc (by omega) (fun j _ => ⟨by rw [n3.1 90 (by decide)], by rw [n3.1 91 (by decide)]⟩))
        · rw [if_neg (by rw [q]; decide)] at e2
          cases e2
          exact h0 _ rfl W3 (zXf_t (zXf_t (zXf_n w1) w3 (Nat.le_refl s)) n3 ws1) s3
  · rw [if_neg (by rw [q]; decide)] at e
    refine sp35 (d := D + 18) hX h7 h8 hf (sp36 (d := D + 14) hX h7 h8 hf ?_)
    rw [h4]
    have nb := zpNm_b (b := b) (L := L) (f := f)
    have fb := zpFa_b (b := b) (L := L) (f := f)
    by_cases hk : 50 ≤ k
    · rw [if_pos (Or.inl hk)] at e
      cases e
      exact z_ifn (by omega) (spx38 (d := D + 19) hS (fun W w1 w2 => z_gp (by decide) (h0 f rfl W w1 w2)))
    · refine z_ifp (by omega) ?_
      by_cases hn : zpNm b L f = -1
      · refine z_ifp hn ?_
        by_cases hfa : zpFa b L f = -1
        · rw [if_pos (Or.inr ⟨hn, hfa⟩)] at e
          cases e
          exact z_ifp hfa (spx38 (d := D + 19) hS (fun W w1 w2 => z_gp (by decide) (h0 f rfl W w1 w2)))
        · rw [if_neg (by omega)] at e
          cases e
          refine z_ifn hfa ?_
          rw [if_pos hn, if_pos hn]
          refine zX_leaf (D := D + 18) (c := 17 - 2 * dd) (G := zpLf b L f) hS (by omega) hsf (zpFa_f hf hfa) (fun W w1 w2 => ?_) (fun W s2 a1 a2 a3 a4 a5 => h1 _ _ _ rfl W s2 a1 a2 a3 a4 a5)
          unfold zpLf
          rw [if_pos hn]
          refine zSeg_congr (D := 1) (fun _ _ _ => ⟨rfl, rfl⟩) (by omega) (zSeg_fact (i := (zpFa b L f).toNat) ?_ (by omega))
          try dsimp only
          rw [w1, w2]
          unfold zTr
          rw [if_neg (by decide), if_pos rfl, if_pos (by omega)]
          omega
      · rw [if_neg (by omega)] at e
        cases e
        refine z_ifn hn ?_
        rw [if_neg hn, if_neg hn]
        have nb2 := nb.resolve_left hn
        refine zX_leaf (D := D + 18) (c := 17 - 2 * dd) (G := zpLf b L f) hS (by omega) hsf nb2.2.2 (fun W w1 w2 => ?_) (fun W s2 a1 a2 a3 a4 a5 => h1 _ _ _ rfl W s2 a1 a2 a3 a4 a5)
        unfold zpLf
        rw [if_neg hn]
        have g := zSeg_num (op := fun j => zTr (W 90 j) (W 91 j)) (arg := fun j => W 91 j) (s := s) (by rw [w1]; rfl) (by rw [w2]; omega)
        try dsimp only at g
        rw [w2] at g
        exact zSeg_congr (fun _ _ _ => ⟨rfl, rfl⟩) (by omega) g
theorem zX_terml {n : Nat} (ih : zXm b L n 0 34 17 1) (ihl : zXl b L n 2 33 18 2) : zXl b L (n + 1) 2 33 18 2 := by
  intro dd f k F x V s s1 t o Q D e hd hD hS hs1 hsf htf hc h0 h1
  obtain ⟨D, rfl⟩ : ∃ D2, D = D2 + 21 := ⟨D - 21, by omega⟩
  rw [zpPa_2] at e
  have hS0 := hS
  obtain ⟨hX, h7, h8, h4, h3, hf, h9⟩ := hS0
  have hL := hX.2.2.1
  have nx := zpNx_p (b := b) hf
  have ex : ∀ (st : Int) (op : Int), f < L → zTr st 0 = op → 20 ≤ op ∧ op ≤ 26 → (zpBd (zpPa b L n 0 dd (zpNx b L f) k F) fun f2 k2 G => zpPa b L n 2 dd f2 k2 (zpBi op F G)) = some x → z_Ex (z_MS (D + 21)) 33 Q true 51 [some (.inr (.inr 89)), some (.inl (dd : Int)), some (.inl (t : Int)), o] [.inl st] 0 0 V := by
    intro st op hfl hst hop e
    have nx2 := nx.2.2.2 hfl
    refine zb33_89_p51 _ _ _ _ (spx40 (d := D + 19) hS (fun W w1 w2 => ?_))
    rcases zpBd_r e with ⟨p, e1, rfl⟩ | ⟨f2, k2, G, e1, e2⟩
    · exact ih _ _ _ _ _ _ _ _ _ e1 hd (by omega) w2 (by omega) (fun p' ep W' w3 w4 => z_ifp rfl (h0 _ ep W' (zXf_t (zXf_n w1) w3 hs1) w4)) (fun _ _ _ ep => nomatch ep)
    · refine ih _ _ _ _ _ _ _ _ _ e1 hd (by omega) w2 (by omega) (fun p' ep => nomatch ep) (fun f3 k3 G3 ep W' s2 w3 wS ws1 ws2 wc => ?_)
      cases ep
      have hf2 := wS.2.2.2.2.2.1
      refine z_ifn (by decide) (sp37 (d := D + 20) wS.2.2.2.2.1 (by omega) ?_)
      rw [z_inc (by omega)]
      have hcW : zXc W' (18 - 2 * dd) s s1 F := zXc_f hc (Nat.le_refl _) (fun j hj => ⟨by rw [(w3.2 j hj).1, w1.1 90 (by decide)], by rw [(w3.2 j hj).2, w1.1 91 (by decide)]⟩)
      refine ihl dd _ _ _ _ _ s (s2 + 1) (t + 1) _ Q _ e2 hd (by omega) (zXs_a wS) (by omega) (by omega) (by omega) (zXc_b hcW wc hst hop ⟨Nat.le_refl _, by omega⟩ ws1) (fun p ep W3 w5 w6 => h0 p ep W3 (zXf_t (zXf_t (zXf_t (zXf_n w1) w3 hs1) (zXf_a (s := s) (by omega)) (Nat.le_refl s)) w5 (Nat.le_refl s)) w6) (fun f4 k4 G4 ep W3 s3 w5 wS3 h5 h6 wc3 => h1 _ _ _ ep W3 s3 (zXf_t (zXf_t (zXf_t (zXf_n w1) w3 hs1) (zXf_a (s := s) (by omega)) (Nat.le_refl s)) w5 (Nat.le_refl s)) wS3 (by omega) (by omega) wc3)
  have no : zpSg b L f 42 = false → zpSg b L f 47 = false → Q 1 V := by
    intro q1 q2
    rw [if_neg (by rw [q1]; decide), if_neg (by rw [q2]; decide)] at e
    cases e
    exact h1 _ _ _ rfl V s1 zXf_r hS (Nat.le_refl _) (by omega) hc
  by_cases ht : t < 400
  · refine zb33_89_p12 _ _ _ (z_ifp (by omega) (sp42 (d := D + 20) hX h7 (fun q => z_ifn (by decide) ?_) (fun q => z_ifp rfl ?_)))
    · rw [if_pos q] at e
      have q' := q
      rw [zpSg_e] at q'
      refine zb33_89_p37 _ _ _ (sp42 (d := D + 20) hX h7 (fun _ => ?_) (fun q2 => absurd q (by rw [q2]; decide)))
      rw [if_neg (by decide)]
      exact ex 4 22 q'.1 rfl (by decide) e
    · refine sp42 (d := D + 20) hX h7 (fun q3 => z_ifn (by decide) ?_) (fun q3 => z_ifp rfl (no q q3))
      rw [if_neg (by rw [q]; decide), if_pos q3] at e
      have q' := q3
      rw [zpSg_e] at q'
      refine zb33_89_p37 _ _ _ (sp42 (d := D + 20) hX h7 (fun q2 => absurd q2 (by rw [q]; decide)) (fun _ => ?_))
      rw [if_pos rfl]
      exact ex 5 23 q'.1 rfl (by decide) e
  · have hz : ∀ c, zpSg b L f c = false := fun c => by rw [Bool.eq_false_iff, ne_eq, zpSg_e]; omega
    exact zb33_89_p12 _ _ _ (z_ifn (by omega) (no (hz _) (hz _)))
theorem zX_term {n : Nat} (ih : zXm b L n 0 34 17 1) (ihl : zXl b L n 2 33 18 2) : zXm b L (n + 1) 1 33 18 2 := by
  intro dd f k F x V s Q D e hd hD hS hsf h0 h1
  obtain ⟨D, rfl⟩ : ∃ D2, D = D2 + 21 := ⟨D - 21, by omega⟩
  rw [zpPa_1] at e
  refine zb33_89 _ ?_
  rcases zpBd_r e with ⟨p, e1, rfl⟩ | ⟨f2, k2, G, e1, e2⟩
  · exact ih _ _ _ _ _ _ _ _ _ e1 hd (by omega) hS hsf (fun p' ep W' w3 w4 => z_ifp rfl (h0 _ ep W' w3 w4)) (fun _ _ _ ep => nomatch ep)
  · refine ih _ _ _ _ _ _ _ _ _ e1 hd (by omega) hS hsf (fun p' ep => nomatch ep) (fun f3 k3 G3 ep W' s2 w3 wS ws1 ws2 wc => ?_)
    cases ep
    have hff : s2 ≤ f2 := by omega
    exact z_ifn (by decide) (ihl dd _ _ _ _ _ s s2 0 _ Q _ e2 hd (by omega) wS ws1 hff (Nat.zero_le _) (zXc_f wc (by omega) (fun _ _ => ⟨rfl, rfl⟩)) (fun p ep W3 w5 w6 => h0 p ep W3 (zXf_t w3 w5 (Nat.le_refl s)) w6) (fun f4 k4 G4 ep W3 s3 w5 wS3 h5 h6 wc3 => h1 _ _ _ ep W3 s3 (zXf_t w3 w5 (Nat.le_refl s)) wS3 (by omega) (by omega) wc3))
theorem zX_suml {n : Nat} (ih : zXm b L n 1 33 18 2) (ihl : zXl b L n 4 32 19 3) : zXl b L (n + 1) 4 32 19 3 := by
  intro dd f k F x V s s1 t o Q D e hd hD hS hs1 hsf htf hc h0 h1
  obtain ⟨D, rfl⟩ : ∃ D2, D = D2 + 21 := ⟨D - 21, by omega⟩
  rw [zpPa_4] at e
  have hS0 := hS
  obtain ⟨hX, h7, h8, h4, h3, hf, h9⟩ := hS0
  have hL := hX.2.2.1
  have nx := zpNx_p (b := b) hf
  have ex : ∀ (st : Int) (op : Int), f < L → zTr st 0 = op → 20 ≤ op ∧ op ≤ 26 → (zpBd (zpPa b L n 1 dd (zpNx b L f) k F) fun f2 k2 G => zpPa b L n 4 dd f2 k2 (zpBi op F G)) = some x → z_Ex (z_MS (D + 21)) 32 Q true 51 [some (.inr (.inr 89)), some (.inl (dd : Int)), some (.inl (t : Int)), o] [.inl st] 0 0 V := by
    intro st op hfl hst hop e
    have nx2 := nx.2.2.2 hfl
    refine zb32_89_p51 _ _ _ _ (spx40 (d := D + 19) hS (fun W w1 w2 => ?_))
    rcases zpBd_r e with ⟨p, e1, rfl⟩ | ⟨f2, k2, G, e1, e2⟩
    · exact ih _ _ _ _ _ _ _ _ _ e1 hd (by omega) w2 (by omega) (fun p' ep W' w3 w4 => z_ifp rfl (h0 _ ep W' (zXf_t (zXf_n w1) w3 hs1) w4)) (fun _ _ _ ep => nomatch ep)
    · refine ih _ _ _ _ _ _ _ _ _ e1 hd (by omega) w2 (by omega) (fun p' ep => nomatch ep) (fun f3 k3 G3 ep W' s2 w3 wS ws1 ws2 wc => ?_)
      cases ep
      have hf2 := wS.2.2.2.2.2.1
      refine z_ifn (by decide) (sp37 (d := D + 20) wS.2.2.2.2.1 (by omega) ?_)
      rw [z_inc (by omega)]
      have hcW : zXc W' (19 - 2 * dd) s s1 F := zXc_f hc (Nat.le_refl _) (fun j hj => ⟨by rw [(w3.2 j hj).1, w1.1 90 (by decide)], by rw [(w3.2 j hj).2, w1.1 91 (by decide)]⟩)
      refine ihl dd _ _ _ _ _ s (s2 + 1) (t + 1) _ Q _ e2 hd (by omega) (zXs_a wS) (by omega) (by omega) (by omega) (zXc_b hcW wc hst hop ⟨Nat.le_refl _, by omega⟩ ws1) (fun p ep W3 w5 w6 => h0 p ep W3 (zXf_t (zXf_t (zXf_t (zXf_n w1) w3 hs1) (zXf_a (s := s) (by omega)) (Nat.le_refl s)) w5 (Nat.le_refl s)) w6) (fun f4 k4 G4 ep W3 s3 w5 wS3 h5 h6 wc3 => h1 _ _ _ ep W3 s3 (zXf_t (zXf_t (zXf_t (zXf_n w1) w3 hs1) (zXf_a (s := s) (by omega)) (Nat.le_refl s)) w5 (Nat.le_refl s)) wS3 (by omega) (by omega) wc3)
  have no : zpSg b L f 43 = false → zpSg b L f 45 = false → Q 1 V := by
    intro q1 q2
    rw [if_neg (by rw [q1]; decide), if_neg (by rw [q2]; decide)] at e
    cases e
    exact h1 _ _ _ rfl V s1 zXf_r hS (Nat.le_refl _) (by omega) hc
  by_cases ht : t < 400
  · refine zb32_89_p12 _ _ _ (z_ifp (by omega) (sp42 (d := D + 20) hX h7 (fun q => z_ifn (by decide) ?_) (fun q => z_ifp rfl ?_)))
    · rw [if_pos q] at e
      have q' := q
      rw [zpSg_e] at q'
      refine zb32_89_p37 _ _ _ (sp42 (d := D + 20) hX h7 (fun _ => ?_) (fun q2 => absurd q (by rw [q2]; decide)))
      rw [if_neg (by decide)]
      exact ex 2 20 q'.1 rfl (by decide) e
    · refine sp42 (d := D + 20) hX h7 (fun q3 => z_ifn (by decide) ?_) (fun q3 => z_ifp rfl (no q q3))
      rw [if_neg (by rw [q]; decide), if_pos q3] at e
      have q' := q3
      rw [zpSg_e] at q'
      refine zb32_89_p37 _ _ _ (sp42 (d := D + 20) hX h7 (fun q2 => absurd q2 (by rw [q]; decide)) (fun _ => ?_))
      rw [if_pos rfl]
      exact ex 3 21 q'.1 rfl (by decide) e
  · have hz : ∀ c, zpSg b L f c = false := fun c => by rw [Bool.eq_false_iff, ne_eq, zpSg_e]; omega
    exact zb32_89_p12 _ _ _ (z_ifn (by omega) (no (hz _) (hz _)))
theorem zX_sum {n : Nat} (ih : zXm b L n 1 33 18 2) (ihl : zXl b L n 4 32 19 3) : zXm b L (n + 1) 3 32 19 3 := by
  intro dd f k F x V s Q D e hd hD hS hsf h0 h1
  obtain ⟨D, rfl⟩ : ∃ D2, D = D2 + 21 := ⟨D - 21, by omega⟩
  rw [zpPa_3] at e
  refine zb32_89 _ ?_
  rcases zpBd_r e with ⟨p, e1, rfl⟩ | ⟨f2, k2, G, e1, e2⟩
  · exact ih _ _ _ _ _ _ _ _ _ e1 hd (by omega) hS hsf (fun p' ep W' w3 w4 => z_ifp rfl (h0 _ ep W' w3 w4)) (fun _ _ _ ep => nomatch ep)
  · refine ih _ _ _ _ _ _ _ _ _ e1 hd (by omega) hS hsf (fun p' ep => nomatch ep) (fun f3 k3 G3 ep W' s2 w3 wS ws1 ws2 wc => ?_)
    cases ep
    have hff : s2 ≤ f2 := by omega
    exact z_ifn (by decide) (ihl dd _ _ _ _ _ s s2 0 _ Q _ e2 hd (by omega) wS ws1 hff (Nat.zero_le _) (zXc_f wc (by omega) (fun _ _ => ⟨rfl, rfl⟩)) (fun p ep W3 w5 w6 => h0 p ep W3 (zXf_t w3 w5 (Nat.le_refl s)) w6) (fun f4 k4 G4 ep W3 s3 w5 wS3 h5 h6 wc3 => h1 _ _ _ ep W3 s3 (zXf_t w3 w5 (Nat.le_refl s)) wS3 (by omega) (by omega) wc3))
end
