/-! texts of laws, purely; the class reads one -/
abbrev zpC : Type := Int × zpF × Bool × zpF
abbrev zpCR : Type := Nat ⊕ (Nat × Nat × zpC)
abbrev zpTR : Type := Nat ⊕ List zpC
def zpD0 : zpF := fun _ => none
def zpDc : zpC := (0, zpD0, false, zpD0)
section
variable (b : Nat → Int) (L n : Nat)
def zpIf (f k : Nat) (hd : Int) (G : zpF) : Option zpCR := if zpWd b L f 10 then (match zpPa b L n 9 0 (zpNx b L f) k zpD0 with
  | none => none
  | some (.inl p) => some (.inl p)
  | some (.inr (f2, k2, H)) => some (.inr (f2, k2, (hd, G, true, H)))) else some (.inr (f, k, (hd, G, false, zpD0)))
def zpCl (f k : Nat) : Option zpCR := if zpWd b L f 8 then (match zpPa b L n 3 0 (zpNx b L f) k zpD0 with
  | none => none
  | some (.inl p) => some (.inl p)
  | some (.inr (f2, k2, G)) => zpIf b L n f2 k2 0 G) else if zpWd b L f 9 then zpIf b L n (zpNx b L f) k 1 zpD0 else some (.inl f)
def zpTx : Nat → Nat → Nat → Option zpTR
  | 0, f, _ => some (.inl f)
  | r + 1, f, k => match zpCl b L n f k with
    | none => none
    | some (.inl p) => some (.inl p)
    | some (.inr (f2, k2, c)) => if L ≤ f2 then some (.inr [c]) else if zpSg b L f2 59 then (match zpTx r (zpNx b L f2) k2 with
      | none => none
      | some (.inl p) => some (.inl p)
      | some (.inr cs) => some (.inr (c :: cs))) else some (.inl f2)
end
section
variable {b : Nat → Int} {L n : Nat}
theorem zpIf_e {f k : Nat} {hd : Int} {G : zpF} {x : zpCR} (e : zpIf b L n f k hd G = some x) : (zpWd b L f 10 = false ∧ x = .inr (f, k, (hd, G, false, zpD0))) ∨ (zpWd b L f 10 = true ∧ ((∃ p, zpPa b L n 9 0 (zpNx b L f) k zpD0 = some (.inl p) ∧ x = .inl p) ∨ ∃ f2 k2 H, zpPa b L n 9 0 (zpNx b L f) k zpD0 = some (.inr (f2, k2, H)) ∧ x = .inr (f2, k2, (hd, G, true, H)))) := by
  unfold zpIf at e
  split at e
  · rename_i q
    refine Or.inr ⟨q, ?_⟩
    split at e
    · cases e
    · rename_i p h
      cases e
      exact Or.inl ⟨p, h, rfl⟩
    · rename_i f2 k2 H h
      cases e
      exact Or.inr ⟨f2, k2, H, h, rfl⟩
  · rename_i q
    cases e
    exact Or.inl ⟨Bool.eq_false_iff.mpr q, rfl⟩
theorem zpCl_e {f k : Nat} {x : zpCR} (e : zpCl b L n f k = some x) : (zpWd b L f 8 = false ∧ zpWd b L f 9 = false ∧ x = .inl f) ∨ (zpWd b L f 8 = false ∧ zpWd b L f 9 = true ∧ zpIf b L n (zpNx b L f) k 1 zpD0 = some x) ∨ (zpWd b L f 8 = true ∧ ((∃ p, zpPa b L n 3 0 (zpNx b L f) k zpD0 = some (.inl p) ∧ x = .inl p) ∨ ∃ f2 k2 G, zpPa b L n 3 0 (zpNx b L f) k zpD0 = some (.inr (f2, k2, G)) ∧ zpIf b L n f2 k2 0 G = some x)) := by
  unfold zpCl at e
  split at e
  · rename_i q
    refine Or.inr (Or.inr ⟨q, ?_⟩)
    split at e
    · cases e
    · rename_i p h
      cases e
      exact Or.inl ⟨p, h, rfl⟩
    · rename_i f2 k2 G h
      exact Or.inr ⟨f2, k2, G, h, e⟩
  · rename_i q
    split at e
    · rename_i q2
      exact Or.inr (Or.inl ⟨Bool.eq_false_iff.mpr q, q2, e⟩)
    · rename_i q2
      cases e
      exact Or.inl ⟨Bool.eq_false_iff.mpr q, Bool.eq_false_iff.mpr q2, rfl⟩
theorem zpTx_e {r f k : Nat} {x : zpTR} (e : zpTx b L n (r + 1) f k = some x) : (∃ p, zpCl b L n f k = some (.inl p) ∧ x = .inl p) ∨ ∃ f2 k2 c, zpCl b L n f k = some (.inr (f2, k2, c)) ∧ ((L ≤ f2 ∧ x = .inr [c]) ∨ (¬ L ≤ f2 ∧ zpSg b L f2 59 = false ∧ x = .inl f2) ∨ (¬ L ≤ f2 ∧ zpSg b L f2 59 = true ∧ ((∃ p, zpTx b L n r (zpNx b L f2) k2 = some (.inl p) ∧ x = .inl p) ∨ ∃ cs, zpTx b L n r (zpNx b L f2) k2 = some (.inr cs) ∧ x = .inr (c :: cs)))) := by
  unfold zpTx at e
  split at e
  · cases e
  · rename_i p h
    cases e
    exact Or.inl ⟨p, h, rfl⟩
  · rename_i f2 k2 c h
    refine Or.inr ⟨f2, k2, c, h, ?_⟩
    split at e
    · rename_i q
      cases e
      exact Or.inl ⟨q, rfl⟩
    · rename_i q
      split at e
      · rename_i q2
        refine Or.inr (Or.inr ⟨q, q2, ?_⟩)
        split at e
        · cases e
        · rename_i p h2
          cases e
          exact Or.inl ⟨p, h2, rfl⟩
        · rename_i cs h2
          cases e
          exact Or.inr ⟨cs, h2, rfl⟩
      · rename_i q2
        cases e
        exact Or.inr (Or.inl ⟨q, Bool.eq_false_iff.mpr q2, rfl⟩)
theorem zpIf_k {f k f2 k2 : Nat} {hd : Int} {G : zpF} {c : zpC} (hf : f ≤ L) (e : zpIf b L n f k hd G = some (.inr (f2, k2, c))) : f ≤ f2 ∧ f2 ≤ L ∧ c.1 = hd := by
  rcases zpIf_e e with ⟨_, h⟩ | ⟨q, ⟨p, _, h⟩ | ⟨f3, k3, H, h3, h⟩⟩
  · cases h; exact ⟨Nat.le_refl _, hf, rfl⟩
  · cases h
  · cases h
    have nx := zpNx_p (b := b) hf
    have q := zpPa_k (b := b) (L := L) n 9 0 _ _ _ _ (by unfold zpM; omega) nx.2.2.1 (by omega) (by omega) (by omega) h3 f2 k2 H rfl
    exact ⟨by omega, q.2.1, rfl⟩
theorem zpCl_k {f k f2 k2 : Nat} {c : zpC} (hf : f ≤ L) (e : zpCl b L n f k = some (.inr (f2, k2, c))) : f < f2 ∧ f2 ≤ L ∧ (c.1 = 0 ∨ c.1 = 1) := by
  have nx := zpNx_p (b := b) hf
  rcases zpCl_e e with ⟨_, _, h⟩ | ⟨_, q, h⟩ | ⟨q, ⟨p, _, h⟩ | ⟨f3, k3, G, h3, h⟩⟩
  · cases h
  · have := nx.2.2.2 (zpWd_f hf q).1
    have a := zpIf_k nx.2.2.1 h
    exact ⟨by omega, a.2.1, Or.inr a.2.2⟩
  · cases h
  · have := nx.2.2.2 (zpWd_f hf q).1
    have q := zpPa_k (b := b) (L := L) n 3 0 _ _ _ _ (by unfold zpM; omega) nx.2.2.1 (by omega) (by omega) (by omega) h3 f3 k3 G rfl
    have a := zpIf_k q.2.1 h
    exact ⟨by omega, a.2.1, Or.inl a.2.2⟩
theorem zpIf_t {f k : Nat} {hd : Int} {G : zpF} (hL : L ≤ 400) (hf : f ≤ L) : ∃ x, zpIf b L 9000 f k hd G = some x := by
  unfold zpIf
  split
  · have nx := zpNx_p (b := b) hf
    have r9 : zpRk 9 = 6 := rfl
    obtain ⟨x, e, _⟩ := zpPa_t (b := b) (L := L) 9000 9 0 (zpNx b L f) k zpD0 (by unfold zpM; omega) nx.2.2.1 (by omega) (by omega) (by omega) (by omega)
    rw [e]
    rcases x with p | ⟨f2, k2, H⟩
    · exact ⟨_, rfl⟩
    · exact ⟨_, rfl⟩
  · exact ⟨_, rfl⟩
theorem zpCl_t {f k : Nat} (hL : L ≤ 400) (hf : f ≤ L) : ∃ x, zpCl b L 9000 f k = some x := by
  unfold zpCl
  have nx := zpNx_p (b := b) hf
  split
  · have r3 : zpRk 3 = 3 := rfl
    obtain ⟨x, e, hx⟩ := zpPa_t (b := b) (L := L) 9000 3 0 (zpNx b L f) k zpD0 (by unfold zpM; omega) nx.2.2.1 (by omega) (by omega) (by omega) (by omega)
    rw [e]
    rcases x with p | ⟨f2, k2, H⟩
    · exact ⟨_, rfl⟩
    · exact zpIf_t hL (hx _ _ _ rfl).2.1
  · split
    · exact zpIf_t hL nx.2.2.1
    · exact ⟨_, rfl⟩
theorem zpTx_t (hL : L ≤ 400) : ∀ {r f k : Nat}, f ≤ L → ∃ x, zpTx b L 9000 r f k = some x
  | 0, f, _, _ => ⟨.inl f, rfl⟩
  | r + 1, f, k, hf => by
    unfold zpTx
    obtain ⟨x, e⟩ := zpCl_t (b := b) (k := k) hL hf
    rw [e]
    rcases x with p | ⟨f2, k2, c⟩
    · exact ⟨_, rfl⟩
    · have q := zpCl_k hf e
      dsimp only
      split
      · exact ⟨_, rfl⟩
      · split
        · obtain ⟨y, e2⟩ := zpTx_t hL (r := r) (f := zpNx b L f2) (k := k2) (zpNx_p q.2.1).2.2.1
          rw [e2]
          rcases y with p | cs
          · exact ⟨_, rfl⟩
          · exact ⟨_, rfl⟩
        · exact ⟨_, rfl⟩
theorem zpTx_l : ∀ {r f k : Nat} {cs : List zpC}, zpTx b L n r f k = some (.inr cs) → 0 < cs.length ∧ cs.length ≤ r
  | 0, _, _, _, e => nomatch e
  | r + 1, f, k, cs, e => by
    rcases zpTx_e e with ⟨p, _, h⟩ | ⟨f2, k2, c, _, ⟨_, h⟩ | ⟨_, _, h⟩ | ⟨_, _, ⟨p, _, h⟩ | ⟨ds, h2, h⟩⟩⟩
    · cases h
    · cases h; simp
    · cases h
    · cases h
    · cases h
      have := zpTx_l h2
      simp
      omega
-- the class
def zXk (W : z_M) (s s2 : Nat) (c : zpC) : Prop := ∃ a b : Nat, s ≤ a ∧ a ≤ b ∧ b + 1 = s2 ∧ W 90 b = (if c.1 = 0 then 13 else 14) ∧ (if c.1 = 0 then zXc W 20 s a c.2.1 else a = s) ∧ (if c.2.2.1 = true then (a < b ∧ W 90 (b - 1) = 12 ∧ zXc W 20 a (b - 1) c.2.2.2) else a = b)
theorem zXk_f {V W : z_M} {s s2 : Nat} {c : zpC} (h : zXk V s s2 c) (hc : ∀ j, j < s2 → W 90 j = V 90 j ∧ W 91 j = V 91 j) : zXk W s s2 c := by
  obtain ⟨a, e, h1, h2, h3, h4, h5, h6⟩ := h
  refine ⟨a, e, h1, h2, h3, by rw [(hc e (by omega)).1]; exact h4, ?_, ?_⟩
  · split
    · rename_i q
      rw [if_pos q] at h5
      exact zXc_f h5 (Nat.le_refl _) (fun j hj => hc j (by omega))
    · rename_i q
      rw [if_neg q] at h5
      exact h5
  · split
    · rename_i q
      rw [if_pos q] at h6
      exact ⟨h6.1, by rw [(hc (e - 1) (by omega)).1]; exact h6.2.1, zXc_f h6.2.2 (Nat.le_refl _) (fun j hj => hc j (by omega))⟩
    · rename_i q
      rw [if_neg q] at h6
      exact h6
theorem spx57 {D f k s a : Nat} {hd : Int} {G : zpF} {x : zpCR} {V : z_M} {Q : Int → z_M → Prop} (hD : 400 ≤ D) (hS : zXs V b L f k a) (hsa : s ≤ a) (haf : a + 1 ≤ f) (hh : hd = 0 ∨ hd = 1) (hG : if hd = 0 then zXc V 20 s a G else a = s) (e : zpIf b L n f k hd G = some x)
    (h0 : ∀ p : Nat, x = .inl p → ∀ W, zXf V W s → W 89 9 = (p : Int) → Q 0 W) (h1 : ∀ f2 k2 c, x = .inr (f2, k2, c) → ∀ W s2, zXf V W s → zXs W b L f2 k2 s2 → s2 ≤ f2 → s < s2 → zXk W s s2 c → Q 1 W) : z_Ex (z_MS D) 26 Q true 57 [some (.inr (.inr 89)), some (.inl (if hd = 0 then 13 else 14))] [] 0 0 V := by
  obtain ⟨D, rfl⟩ : ∃ D2, D = D2 + 20 := ⟨D - 20, by omega⟩
  generalize hwv : (if hd = 0 then (13 : Int) else 14) = w
  have hf := hS.2.2.2.2.2.1
  have hL := hS.1.2.2.1
  have nx := zpNx_p (b := b) hf
  refine zb26_89_p57 _ (sp43_10 (d := D + 15) hS.1 hS.2.1 hS.2.2.1 hf (fun q => z_ifn (by decide) ?_) (fun q => z_ifp rfl ?_))
  · have hw := zpWd_f hf q
    have nx2 := nx.2.2.2 hw.1
    have nx3 := nx.2.1
    refine spx40 (d := D + 18) hS (fun W w1 w2 => ?_)
    rcases zpIf_e e with ⟨q2, _⟩ | ⟨_, ⟨p, e1, rfl⟩ | ⟨f2, k2, H, e1, rfl⟩⟩
    · rw [q] at q2; cases q2
    · exact (zX_all n).2.2.2.2.2.2.2.2.1 0 _ _ _ _ _ _ _ _ e1 (by omega) (by omega) w2 (by omega) (fun p' ep W' w3 w4 => z_ifp rfl (h0 p rfl W' (zXf_t (zXf_n w1) w3 hsa) (by cases ep; exact w4))) (fun _ _ _ ep => nomatch ep)
    · refine (zX_all n).2.2.2.2.2.2.2.2.1 0 _ _ _ _ _ _ _ _ e1 (by omega) (by omega) w2 (by omega) (fun _ ep => nomatch ep) (fun f3 k3 G3 ep W' s2 w3 wS ws1 ws2 wc => ?_)
      cases ep
      have hf2 := wS.2.2.2.2.2.1
      refine z_ifn (by decide) (sp37 (d := D + 19) wS.2.2.2.2.1 (by omega) (sp37 (d := D + 19) (zXs_a wS).2.2.2.2.1 (by omega) ?_))
      have x1 := zXa_s (V := W') (s := s2) (a := 12) (c := 0)
      have f1 := zXf_a (V := W') (s := s2) (s1 := s2) (a := 12) (c := 0) (Nat.le_refl _)
      have x2 := zXa_s (V := zXa W' s2 12 0) (s := s2 + 1) (a := w) (c := 0)
      have f2' := zXf_a (V := zXa W' s2 12 0) (s := s2 + 1) (s1 := s2 + 1) (a := w) (c := 0) (Nat.le_refl _)
      have cc : ∀ j, j < s2 → zXa (zXa W' s2 12 0) (s2 + 1) w 0 90 j = W' 90 j ∧ zXa (zXa W' s2 12 0) (s2 + 1) w 0 91 j = W' 91 j := fun j hj => ⟨(f2'.2 j (by omega)).1.trans (f1.2 j hj).1, (f2'.2 j (by omega)).2.trans (f1.2 j hj).2⟩
      refine h1 _ _ _ rfl _ (s2 + 1 + 1) (zXf_t (zXf_t (zXf_t (zXf_n (s := s) w1) w3 hsa) (zXf_a (s := s) (by omega)) (Nat.le_refl s)) (zXf_a (s := s) (by omega)) (Nat.le_refl s)) (zXs_a (zXs_a wS)) (by omega) (by omega) ?_
      refine ⟨a, s2 + 1, hsa, by omega, rfl, x2.1.trans hwv.symm, ?_, ?_⟩
      · dsimp only
        split
        · rename_i q5
          rw [if_pos q5] at hG
          exact zXc_f hG (Nat.le_refl _) (fun j hj => ⟨(cc j (by omega)).1.trans ((w3.2 j hj).1.trans (by rw [w1.1 90 (by decide)])), (cc j (by omega)).2.trans ((w3.2 j hj).2.trans (by rw [w1.1 91 (by decide)]))⟩)
        · rename_i q5
          rw [if_neg q5] at hG
          exact hG
      · dsimp only
        rw [if_pos rfl]
        refine ⟨by omega, ?_, ?_⟩
        · rw [show s2 + 1 - 1 = s2 by omega, (f2'.2 s2 (by omega)).1]; exact x1.1
        · rw [show s2 + 1 - 1 = s2 by omega]
          exact zXc_f wc (by omega) (fun j hj => cc j hj)
  · rcases zpIf_e e with ⟨_, rfl⟩ | ⟨q2, _⟩
    · refine sp37 (d := D + 19) hS.2.2.2.2.1 (by omega) ?_
      have x1 := zXa_s (V := V) (s := a) (a := w) (c := 0)
      have f1 := zXf_a (V := V) (s := a) (s1 := a) (a := w) (c := 0) (Nat.le_refl _)
      refine h1 _ _ _ rfl _ (a + 1) (zXf_a (s := s) hsa) (zXs_a hS) (by omega) (by omega) ⟨a, a, hsa, Nat.le_refl a, rfl, x1.1.trans hwv.symm, ?_, ?_⟩
      · dsimp only
        split
        · rename_i q5
          rw [if_pos q5] at hG
          exact zXc_f hG (Nat.le_refl _) (fun j hj => f1.2 j hj)
        · rename_i q5
          rw [if_neg q5] at hG
          exact hG
      · dsimp only
        rw [if_neg (by decide)]
    · rw [q] at q2; cases q2
theorem spx26 {D f k s : Nat} {x : zpCR} {V : z_M} {Q : Int → z_M → Prop} (hD : 401 ≤ D) (hS : zXs V b L f k s) (hsf : s ≤ f) (e : zpCl b L n f k = some x)
    (h0 : ∀ p : Nat, x = .inl p → ∀ W, zXf V W s → W 89 9 = (p : Int) → Q 0 W) (h1 : ∀ f2 k2 c, x = .inr (f2, k2, c) → ∀ W s2, zXf V W s → zXs W b L f2 k2 s2 → s2 ≤ f2 → s < s2 → zXk W s s2 c → Q 1 W) : z_MS D 26 true [.inr (.inr 89)] V Q := by
  obtain ⟨D, rfl⟩ : ∃ D2, D = D2 + 21 := ⟨D - 21, by omega⟩
  have hf := hS.2.2.2.2.2.1
  have hL := hS.1.2.2.1
  have nx := zpNx_p (b := b) hf
  refine zb26_89 (sp43_8 (d := D + 15) hS.1 hS.2.1 hS.2.2.1 hf (fun q => z_ifn (by decide) ?_) (fun q => z_ifp rfl ?_))
  · have hw := zpWd_f hf q
    have nx2 := nx.2.2.2 hw.1
    have nx3 := nx.2.1
    refine spx40 (d := D + 18) hS (fun W w1 w2 => z_ifp rfl ?_)
    rcases zpCl_e e with ⟨q2, _, _⟩ | ⟨q2, _, _⟩ | ⟨_, ⟨p, e1, rfl⟩ | ⟨f2, k2, G, e1, e2⟩⟩
    · rw [q] at q2; cases q2
    · rw [q] at q2; cases q2
    · exact (zX_all n).2.2.2.1 0 _ _ _ _ _ _ _ _ e1 (by omega) (by omega) w2 (by omega) (fun p' ep W' w3 w4 => z_ifp rfl (h0 p rfl W' (zXf_t (zXf_n w1) w3 (Nat.le_refl s)) (by cases ep; exact w4))) (fun _ _ _ ep => nomatch ep)
    · refine (zX_all n).2.2.2.1 0 _ _ _ _ _ _ _ _ e1 (by omega) (by omega) w2 (by omega) (fun _ ep => nomatch ep) (fun f3 k3 G3 ep W' s2 w3 wS ws1 ws2 wc => ?_)
      cases ep
      refine z_ifn (by decide) ?_
      have fW : zXf V W' s := zXf_t (zXf_n (s := s) w1) w3 (Nat.le_refl s)
      have g := spx57 (Q := Q) (D := D + 20) (hd := 0) (by omega) wS ws1 (by omega) (Or.inl rfl) (by rw [if_pos rfl]; exact zXc_f wc (by omega) (fun _ _ => ⟨rfl, rfl⟩)) e2 (fun p ep W2 w5 w6 => h0 p ep W2 (zXf_t fW w5 (Nat.le_refl s)) w6) (fun f4 k4 c ep W2 s4 w5 w6 w7 w8 w9 => h1 f4 k4 c ep W2 s4 (zXf_t fW w5 (Nat.le_refl s)) w6 w7 w8 w9)
      rw [if_pos rfl] at g
      rw [if_neg (by decide)]
      exact g
  · refine sp43_9 (d := D + 15) hS.1 hS.2.1 hS.2.2.1 hf (fun q2 => z_ifn (by decide) ?_) (fun q2 => z_ifp rfl ?_)
    · have hw := zpWd_f hf q2
      have nx2 := nx.2.2.2 hw.1
      have nx3 := nx.2.1
      refine spx40 (d := D + 18) hS (fun W w1 w2 => z_ifn (by decide) ?_)
      rcases zpCl_e e with ⟨_, q3, _⟩ | ⟨_, _, e2⟩ | ⟨q3, _⟩
      · rw [q2] at q3; cases q3
      · have g := spx57 (Q := Q) (D := D + 20) (hd := 1) (by omega) w2 (Nat.le_refl s) (by omega) (Or.inr rfl) (by rw [if_neg (by decide)]) e2 (fun p ep W2 w5 w6 => h0 p ep W2 (zXf_t (zXf_n (s := s) w1) w5 (Nat.le_refl s)) w6) (fun f4 k4 c ep W2 s4 w5 w6 w7 w8 w9 => h1 f4 k4 c ep W2 s4 (zXf_t (zXf_n (s := s) w1) w5 (Nat.le_refl s)) w6 w7 w8 w9)
        rw [if_neg (by decide)] at g
        rw [if_pos rfl]
        exact g
      · rw [q] at q3; cases q3
    · rcases zpCl_e e with ⟨_, _, rfl⟩ | ⟨_, q3, _⟩ | ⟨q3, _⟩
      · exact spx38 (d := D + 19) hS (fun W w1 w2 => z_gp (by decide) (h0 f rfl W w1 w2))
      · rw [q2] at q3; cases q3
      · rw [q] at q3; cases q3
def zpLaw (P : Nat → zpC) (m : Nat) : (Nat → Int) → Int := fun f => (zFo (fun k => (P k).1) (fun k => (P k).2.1) (fun k => (P k).2.2.2) (fun k => (P k).2.2.1) f m).getD (-1)
/-- what a law that was read leaves in the class -/
def zXr (V W : z_M) (q : Nat) : Prop := W 0 0 = ((169 + 4 * q + 4 : Nat) : Int) ∧ (∀ k, ¬ k = 0 → k < 169 + 4 * q → W 0 k = V 0 k) ∧ (∀ x, ¬ x = 0 → ¬ (89 ≤ x ∧ x ≤ 92) → x < 169 + 4 * q → W x = V x) ∧ W 89 9 = -1
theorem spx25_50 {D q : Nat} {V0 : z_M} {Q : Int → z_M → Prop} {P : Nat → zpC} (hD : 402 ≤ D) (h00 : V0 0 0 = ((169 + 4 * q : Nat) : Int)) (hP : ∀ k, (P k).1 = 0 ∨ (P k).1 = 1) : ∀ (r m f k : Nat) (x : zpTR) (V : z_M) (s : Nat) (S : Nat → Nat) (o1 : Option z_V), m + r = 12 → zpTx b L n r f k = some x → zXs V b L f k s → s ≤ f → (∀ a, ¬ (89 ≤ a ∧ a ≤ 92) → V a = V0 a) → (∀ j, j < m → V 92 j = (S j : Int)) → S m = s → ((∃ cs, x = .inr cs) → ∀ j, j < m → S j ≤ s ∧ S (j + 1) ≤ s ∧ zXk V (S j) (S (j + 1)) (P j)) → (∀ cs, x = .inr cs → ∀ i, i < cs.length → P (m + i) = cs.getD i zpDc) →
    (∀ p : Nat, x = .inl p → ∀ W, (∀ a, ¬ (89 ≤ a ∧ a ≤ 92) → W a = V0 a) → W 89 9 = (p : Int) → Q 0 W) → (∀ cs, x = .inr cs → ∀ W, zXr V0 W q → zLx W (169 + 4 * q) (zpLaw P (m + cs.length)) → Q ((169 + 4 * q : Nat) : Int) W) → z_Ex (z_MS D) 25 Q true 50 [some (.inr (.inr 89)), o1, some (.inl (m : Int))] [] 0 0 V
  | 0, m, f, k, x, V, s, S, o1, hm, e, hS, hsf, hV, h92, hSm, hK, hPx, h0, h1 => by
    obtain ⟨D, rfl⟩ : ∃ D2, D = D2 + 21 := ⟨D - 21, by omega⟩
    cases e
    refine zb25_89_87_p50 _ _ (z_ifn (by omega) (spx38 (d := D + 20) hS (fun W w1 w2 => h0 f rfl W (fun a ha => (w1.1 a (by omega) (by omega) (by omega)).trans (hV a ha)) w2)))
  | r + 1, m, f, k, x, V, s, S, o1, hm, e, hS, hsf, hV, h92, hSm, hK, hPx, h0, h1 => by
    obtain ⟨D, rfl⟩ : ∃ D2, D = D2 + 21 := ⟨D - 21, by omega⟩
    have hf := hS.2.2.2.2.2.1
    have hL := hS.1.2.2.1
    refine zb25_89_87_p50 _ _ (z_ifp (by omega) (z_gp (by omega) ?_))
    rw [hS.2.2.2.2.1, Int.toNat_natCast]
    refine z_all ?_
    have c1 : ∀ a, ¬ a = 92 → z_up V 92 m (s : Int) a = V a := fun a ha => z_up_cell ha
    have hS1 : zXs (z_up V 92 m (s : Int)) b L f k s := by
      unfold zXs zXb zSt at hS ⊢
      rw [c1 89 (by decide), c1 88 (by decide)]
      exact ⟨⟨hS.1.1, hS.1.2.1, hS.1.2.2.1, hS.1.2.2.2.1, fun a y z => by rw [c1 a (by omega)]; exact hS.1.2.2.2.2 a y z⟩, hS.2⟩
    have d1 : ∀ j, j < m + 1 → z_up V 92 m (s : Int) 92 j = (S j : Int) := fun j hj => by
      by_cases ej : j = m
      · subst ej; rw [zUp_s, hSm]
      · rw [zUp_o (by omega)]; exact h92 j (by omega)
    rcases zpTx_e e with ⟨p, e1, rfl⟩ | ⟨f2, k2, c, e1, e2⟩
    · exact spx26 (D := D + 21) (by omega) hS1 hsf e1 (fun p' ep W w1 w2 => z_ifp rfl (h0 p rfl W (fun a ha => by rw [w1.1 a (by omega) (by omega) (by omega), c1 a (by omega)]; exact hV a ha) (by cases ep; exact w2))) (fun _ _ _ ep => nomatch ep)
    · refine spx26 (D := D + 21) (by omega) hS1 hsf e1 (fun _ ep => nomatch ep) (fun f3 k3 c3 ep W s2 w1 w2 w3 w4 w5 => z_ifn (by decide) ?_)
      cases ep
      have hf2 := w2.2.2.2.2.2.1
      rw [z_inc (by omega), w2.2.2.2.2.1]
      refine z_gp (by omega) ?_
      rw [Int.toNat_natCast]
      refine z_all ?_
      have c2 : ∀ a, ¬ a = 92 → z_up W 92 (m + 1) (s2 : Int) a = W a := fun a ha => z_up_cell ha
      have hS2 : zXs (z_up W 92 (m + 1) (s2 : Int)) b L f2 k2 s2 := by
        unfold zXs zXb zSt at w2 ⊢
        rw [c2 89 (by decide), c2 88 (by decide)]
        exact ⟨⟨w2.1.1, w2.1.2.1, w2.1.2.2.1, w2.1.2.2.2.1, fun a y z => by rw [c2 a (by omega)]; exact w2.1.2.2.2.2 a y z⟩, w2.2⟩
      have hV2 : ∀ a, ¬ (89 ≤ a ∧ a ≤ 92) → z_up W 92 (m + 1) (s2 : Int) a = V0 a := fun a ha => by rw [c2 a (by omega), w1.1 a (by omega) (by omega) (by omega), c1 a (by omega)]; exact hV a ha
      have d2 : ∀ j, j < m + 1 → z_up W 92 (m + 1) (s2 : Int) 92 j = (S j : Int) := fun j hj => by
        rw [zUp_o (by omega), w1.1 92 (by decide) (by decide) (by decide)]
        exact d1 j hj
      -- the clauses so far
      obtain ⟨S', s0, s1⟩ : ∃ S' : Nat → Nat, (∀ j, j < m + 1 → S' j = S j) ∧ S' (m + 1) = s2 := ⟨fun j => if j = m + 1 then s2 else S j, fun j hj => if_neg (by omega), if_pos rfl⟩
      have hKK : (P m = c) → (∃ cs, x = .inr cs) → ∀ j, j < m + 1 → S' j ≤ s2 ∧ S' (j + 1) ≤ s2 ∧ zXk (z_up W 92 (m + 1) (s2 : Int)) (S' j) (S' (j + 1)) (P j) := by
        intro hPm hx j hj
        by_cases ej : j = m
        · subst ej
          rw [s0 j hj, s1, hSm, hPm]
          exact ⟨by omega, Nat.le_refl _, zXk_f w5 (fun i _ => by rw [c2 90 (by decide), c2 91 (by decide)]; exact ⟨rfl, rfl⟩)⟩
        · have a := hK hx j (by omega)
          rw [s0 j hj, s0 (j + 1) (by omega)]
          refine ⟨by omega, by omega, zXk_f a.2.2 (fun i hi => ?_)⟩
          have g := w1.2 i (by omega)
          rw [c1 90 (by decide), c1 91 (by decide)] at g
          rw [c2 90 (by decide), c2 91 (by decide)]
          exact g
      have d3 : ∀ j, j < m + 2 → z_up W 92 (m + 1) (s2 : Int) 92 j = (S' j : Int) := fun j hj => by
        by_cases ej : j = m + 1
        · subst ej; rw [zUp_s, s1]
        · rw [s0 j (by omega)]; exact d2 j (by omega)
      rw [hS2.2.1, hS2.1.2.1]
      rcases e2 with ⟨q1, rfl⟩ | ⟨q1, q2, rfl⟩ | ⟨q1, q2, e3⟩
      · -- the text ends
        refine z_ifn (by omega) ?_
        have hPm : P m = c := by have := hPx [c] rfl 0 (by simp); exact this
        have kk := hKK hPm ⟨_, rfl⟩
        refine sp25_98 (d := D + 20) (q := q) (s := s2) (by rw [hV2 0 (by decide)]; exact h00) hS2.2.2.2.2.1 (by omega) (by omega) (fun X hX => h1 [c] rfl X ?_ ?_)
        · obtain ⟨x1, x2, x3, x4, x5, x6, x7, x8, x9, x10, x11⟩ := hX
          exact ⟨x1, fun i i1 i2 => by rw [x5 i i1 i2, hV2 0 (by decide)], fun y y1 y2 y3 => by rw [x6 y y1 y3, hV2 y y2], by rw [x6 89 (by decide) (by omega)]; exact hS2.2.2.2.2.2.2⟩
        · obtain ⟨x1, x2, x3, x4, x5, x6, x7, x8, x9, x10, x11⟩ := hX
          have tr : ∀ {a e : Nat} {F : zpF}, e ≤ s2 → zXc (z_up W 92 (m + 1) (s2 : Int)) 20 a e F → zSeg (fun j => zTr (X (169 + 4 * q + 1) j) (X (169 + 4 * q + 2) j)) (fun j => X (169 + 4 * q + 2) j) 20 a e F := fun {a e F} he h => zSeg_congr (fun j _ hj => by
            have g := x10 j (by omega)
            try dsimp only
            rw [g.1, g.2]
            exact ⟨rfl, rfl⟩) (Nat.le_refl _) h
          refine ⟨m + 1, fun k => (P k).1, fun k => (P k).2.1, fun k => (P k).2.2.2, fun k => (P k).2.2.1, S', s2, by omega, by omega, fun _ _ => rfl, x7, x8, x9, x2, x3, by rw [x4]; omega, by omega, fun j hj => ⟨by rw [x11 j (by omega)]; exact d3 j (by omega), ?_⟩, fun j hj => ⟨hP j, ?_⟩⟩
          · by_cases ej : j = m + 1
            · subst ej; rw [s1]; exact Nat.le_refl _
            · exact (kk j (by omega)).1
          · obtain ⟨j1, j2, a, e, b1, b2, b3, b4, b5, b6⟩ := kk j (by omega)
            refine ⟨a, e, b1, b2, b3, by rw [(x10 e (by omega)).1]; exact b4, ?_, ?_⟩
            · dsimp only
              split
              · rename_i q5
                rw [if_pos q5] at b5
                exact tr (by omega) b5
              · rename_i q5
                rw [if_neg q5] at b5
                exact b5
            · dsimp only
              split
              · rename_i q5
                rw [if_pos q5] at b6
                exact ⟨b6.1, by rw [(x10 (e - 1) (by omega)).1]; exact b6.2.1, tr (by omega) b6.2.2⟩
              · rename_i q5
                rw [if_neg q5] at b6
                exact b6
      · refine z_ifp (by omega) (spx39 (d := D + 18) hS2 (fun q3 => absurd q3 (by rw [q2]; decide)) (fun _ W3 w6 w7 => z_ifp rfl (h0 f2 rfl W3 (fun a ha => (w6.1 a (by omega) (by omega) (by omega)).trans (hV2 a ha)) w7)))
      · refine z_ifp (by omega) (spx39 (d := D + 18) hS2 (fun _ W3 w6 w7 => z_ifn (by decide) ?_) (fun q3 => absurd q2 (by rw [q3]; decide)))
        have nx := zpNx_p (b := b) hf2
        have cW : ∀ j, W3 90 j = z_up W 92 (m + 1) (s2 : Int) 90 j ∧ W3 91 j = z_up W 92 (m + 1) (s2 : Int) 91 j := fun j => ⟨by rw [w6.1 90 (by decide)], by rw [w6.1 91 (by decide)]⟩
        have V3 : ∀ a, ¬ (89 ≤ a ∧ a ≤ 92) → W3 a = V0 a := fun a ha => (w6.1 a (by omega)).trans (hV2 a ha)
        have ii : z_add (m : Int) 1 = ((m + 1 : Nat) : Int) := z_inc (by omega)
        have d4 : ∀ j, j < m + 1 → W3 92 j = (S' j : Int) := fun j hj => by rw [w6.1 92 (by decide)]; exact d3 j (by omega)
        rcases e3 with ⟨p, e4, rfl⟩ | ⟨cs, e4, rfl⟩
        · -- what P holds does not matter: the text fails
          exact spx25_50 hD h00 hP r (m + 1) _ _ _ W3 s2 S' _ (by omega) e4 w7 (by omega) V3 d4 s1 (fun ⟨_, h⟩ => nomatch h) (fun _ ed => nomatch ed) (fun p' ed W w1 w2 => h0 p' ed W w1 w2) (fun _ ed => nomatch ed)
        · have hPm : P m = c := by have := hPx (c :: cs) rfl 0 (by simp); exact this
          have kk := hKK hPm ⟨_, rfl⟩
          exact spx25_50 hD h00 hP r (m + 1) _ _ _ W3 s2 S' _ (by omega) e4 w7 (by omega) V3 d4 s1 (fun _ j hj => ⟨(kk j hj).1, (kk j hj).2.1, zXk_f (kk j hj).2.2 (fun i _ => cW i)⟩) (fun ds ed i hi => by
            cases ed
            have := hPx (c :: cs) rfl (i + 1) (by simp; omega)
            rw [show m + 1 + i = m + (i + 1) by omega]
            exact this) (fun _ ed => nomatch ed) (fun ds ed W w1 w2 => by
            cases ed
            refine h1 (c :: cs) rfl W w1 ?_
            rw [show m + (c :: cs).length = m + 1 + cs.length by simp; omega]
            exact w2)
end
