/-! sorted -/
/-- who stays, one after the other: how many are found before t, and the last of them -/
def zSs (th run : Nat → Int) (st i : Int) : Nat → Nat × Int
  | 0 => (0, -1)
  | t + 1 => if ((zSs th run st i t).1 : Int) ≤ i ∧ run t = st - ((zSs th run st i t).1 : Int) ∧ ((zSs th run st i t).2 = -1 ∨ th t ≤ th (zSs th run st i t).2.toNat) then ((zSs th run st i t).1 + 1, (t : Int)) else zSs th run st i t
theorem zSs_s {th run : Nat → Int} {st i : Int} {t : Nat} (h : ¬ ((zSs th run st i t).1 : Int) ≤ i) : ∀ m, zSs th run st i (t + m) = zSs th run st i t
  | 0 => rfl
  | m + 1 => by
    rw [show t + (m + 1) = (t + m) + 1 from rfl, zSs, zSs_s h m]
    exact if_neg (fun q => h q.1)
theorem zSs_i {th run : Nat → Int} {st i : Int} : ∀ t, ((zSs th run st i t).1 = 0 ∧ (zSs th run st i t).2 = -1) ∨ ∃ a : Nat, a < t ∧ (zSs th run st i t).2 = (a : Int) ∧ 1 ≤ (zSs th run st i t).1 ∧ run a = st - ((zSs th run st i t).1 : Int) + 1
  | 0 => Or.inl ⟨rfl, rfl⟩
  | t + 1 => by
    have h := zSs_i (th := th) (run := run) (st := st) (i := i) t
    rw [zSs]
    split
    · rename_i c
      refine Or.inr ⟨t, by omega, rfl, by show 1 ≤ _ + 1; omega, ?_⟩
      have := c.2.1
      show run t = st - (((zSs th run st i t).1 + 1 : Nat) : Int) + 1
      omega
    · rcases h with h | ⟨a, h1, h2⟩
      · exact Or.inl h
      · exact Or.inr ⟨a, by omega, h2⟩
section
variable {d : Nat} {Q : Int → z_M → Prop}
theorem cm_sorted {V : z_M} (hR : zR V) (i : Int) : zPr (d + 5) 120 240 [.inl i] V := by
  have hR2 := hR
  obtain ⟨⟨Λ, hT, hc⟩, r3, r4, r5⟩ := hR2
  obtain ⟨n, R, m, hn, hRr, hm, n12, R6, m7⟩ := zR_nat hT
  have a0 := zT_0 hT
  have a1 := zT_1 hT
  have a4 := zT_4 hT
  refine zb120_36 _ (sp143 (d := d) hT hn (fun W run w1 w2 w3 w4 => ?_))
  have hW : zKeep V W := ⟨fun a x => w1 a (by unfold zKc at x; omega), fun k _ => by rw [w1 141 (by decide)]⟩
  have hst : 0 ≤ zMx run n n ∧ zMx run n n ≤ n := by
    rcases zMx_e (run := run) (n := n) (j := n) (Nat.le_refl n) with h | ⟨u, h1, h2⟩
    · omega
    · have := w4 u h1; omega
  have hse := zMx_e (run := run) (n := n) (j := n) (Nat.le_refl n)
  generalize hs : zMx run n n = st at hst hse ⊢
  have ex : ∀ (k : Nat) (a : Int), (k : Int) ≤ i → i < st → ((k = 0 ∧ a = -1) ∨ ∃ a' : Nat, a' < n ∧ a = (a' : Int) ∧ run a' = st - (k : Int) + 1) → ∃ u : Nat, a < (u : Int) ∧ u < n ∧ run u = st - (k : Int) ∧ (a = -1 ∨ zTH (V 143) u ≤ zTH (V 143) a.toNat) := by
    intro k a hk hi h
    rcases h with ⟨rfl, rfl⟩ | ⟨a', ha, rfl, h2⟩
    · rcases hse with h | ⟨u, h1, h2⟩
      · omega
      · exact ⟨u, by omega, h1, by omega, Or.inl rfl⟩
    · have h3 := w3 a' (by omega) ha
      rcases zMb_e (th := zTH (V 143)) (run := run) (t := a') (k := n) with h | ⟨u, h1, h4, h5, h6⟩
      · omega
      · exact ⟨u, by omega, h4, by omega, Or.inr (by rw [Int.toNat_natCast]; exact h5)⟩
  have ref : ∀ zz : Int, (i = -1 → zz = (n : Int) - st) → (¬ i = -1 → ¬ (0 ≤ i ∧ i < st) → zz = -1) → (0 ≤ i ∧ i < st → zz = (zSs (zTH (V 143)) run st i n).2) → z_MS (d + 5) 240 true [.inr (.inr 141), .inl i] W (fun z2 X => z2 = zz ∧ zR X) := by
    intro zz z1 z2 z3
    refine zb240_141 _ (z_all (sp239 (d := d + 1) hT (by rw [z_up_cell (by decide)]; exact w1 143 (by decide)) hn (fun X run2 x1 x2 x3 x4 => ?_)))
    have er : ∀ t, t < n → run2 t = run t := fun t ht => zRn_u x3 w3 n t (by omega) ht
    have es : zMx run2 n n = st := by rw [zMx_c (Nat.le_refl n) (fun u _ hu => er u hu)]; exact hs
    rw [es]
    have hX := zR_k hR (zKeep_t hW (zKeep_t zKeep_0 ⟨fun a x => x1 a (by unfold zKc at x; omega), fun k _ => by rw [x1 141 (by decide)]⟩))
    have e143 : X 143 = V 143 := by rw [x1 143 (by decide), z_up_cell (by decide), w1 143 (by decide)]
    refine z_ifc (fun c => sp154 (d := d + 3) ⟨?_, hX⟩) (fun c => ?_)
    · rw [e143, hn, z_sub_e (by omega), z1 c]
    rw [z_lsub_e (by omega)]
    refine sp145 (d := d + 3) (fun h1 => z_ifn (by decide) ?_) (fun h1 => z_ifp rfl ⟨(z2 c (by omega)).symm, hX⟩)
    have hi : 0 ≤ i ∧ i < st := by omega
    have lp : ∀ (m t k : Nat) (a : Int), t + m = n → zSs (zTH (V 143)) run st i t = (k, a) → (k : Int) ≤ i → (∃ u, t ≤ u ∧ u < n ∧ run u = st - (k : Int) ∧ (a = -1 ∨ zTH (V 143) u ≤ zTH (V 143) a.toNat)) → z_Ex (z_MS (d + 4)) 240 (fun z2 X => z2 = zz ∧ zR X) true 53 [some (.inr (.inr 141)), some (.inl i), some (.inl st), some (.inl a), some (.inl (k : Int)), some (.inl (t : Int))] [] 0 0 X := by
      intro m
      induction m with
      | zero =>
        intro t k a e _ _ hu
        obtain ⟨u, h2, h3, _⟩ := hu
        omega
      | succ m ih =>
        intro t k a e hs1 hk hu
        have inv := zSs_i (th := zTH (V 143)) (run := run) (st := st) (i := i) t
        rw [hs1] at inv
        have pk : run t = st - (k : Int) → (a = -1 ∨ zTH (V 143) t ≤ zTH (V 143) a.toNat) → ∀ o5, z_Ex (z_MS (d + 4)) 240 (fun z2 X => z2 = zz ∧ zR X) true 42 [some (.inr (.inr 141)), some (.inl i), some (.inl st), some (.inl (t : Int)), some (.inl ((k + 1 : Nat) : Int)), o5] [] 0 0 X := by
          intro q1 q2 o5
          have e1 : zSs (zTH (V 143)) run st i (t + 1) = (k + 1, (t : Int)) := by
            rw [zSs, hs1]
            exact if_pos ⟨hk, q1, q2⟩
          refine zb240_141_p42 _ _ _ _ _ (z_ifc (fun c => ⟨?_, hX⟩) (fun c => ?_))
          · have h4 := zSs_s (th := zTH (V 143)) (run := run) (st := st) (i := i) (t := t + 1) (by rw [e1]; show ¬ ((k + 1 : Nat) : Int) ≤ i; omega) m
            rw [show t + 1 + m = n by omega, e1] at h4
            rw [z3 hi, h4]
          · rw [z_inc (by omega)]
            refine ih (t + 1) (k + 1) t (by omega) e1 (by omega) ?_
            obtain ⟨u, u1, u2, u3, u4⟩ := ex (k + 1) t (by omega) hi.2 (Or.inr ⟨t, by omega, rfl, by omega⟩)
            exact ⟨u, by omega, u2, u3, u4⟩
        have nx : ¬ (run t = st - (k : Int) ∧ (a = -1 ∨ zTH (V 143) t ≤ zTH (V 143) a.toNat)) → z_Ex (z_MS (d + 4)) 240 (fun z2 X => z2 = zz ∧ zR X) true 53 [some (.inr (.inr 141)), some (.inl i), some (.inl st), some (.inl a), some (.inl (k : Int)), some (.inl ((t + 1 : Nat) : Int))] [] 0 0 X := by
          intro q
          refine ih (t + 1) k a (by omega) ?_ hk ?_
          · rw [zSs, hs1]
            exact if_neg (fun c => q c.2)
          · obtain ⟨u, u1, u2, u3⟩ := hu
            refine ⟨u, ?_, u2, u3⟩
            by_cases et : t = u
            · subst et; exact absurd u3 q
            · omega
        refine zb240_141_p53 _ _ _ _ _ (z_gp (by omega) (z_all ?_))
        rw [Int.toNat_natCast, x2 t (by omega), er t (by omega), z_sub_e (by omega), z_inc (i := t) (by omega), z_inc (i := k) (by omega)]
        refine z_ifc (fun c => z_ifc (fun c2 => pk c (Or.inl c2) _) (fun c2 => ?_)) (fun c => nx (fun q => c q.1))
        rcases inv with ⟨_, h3⟩ | ⟨a', h3, h4, _⟩
        · exact absurd h3 c2
        have h4 : a = (a' : Int) := h4
        subst h4
        refine sp157 (d := d + 3) (w := 0) (by omega) (by omega) (sp157 (d := d + 3) (w := 0) (by omega) (by omega) ?_)
        rw [e143]
        have g1 : zTH (V 143) t = V 143 (8 + 4 * t + 0) := rfl
        have g2 : zTH (V 143) a' = V 143 (8 + 4 * a' + 0) := rfl
        rw [Int.toNat_natCast] at pk nx
        refine z_ifc (fun c3 => nx (fun q => ?_)) (fun c3 => pk c (Or.inr (by omega)) _)
        rcases q.2 with q | q <;> omega
    refine zb240_141_p42 _ _ _ _ _ (z_ifn (by omega) ?_)
    have h0 := lp n 0 0 (-1) (by omega) rfl hi.1 (by
      obtain ⟨u, u1, u2, u3⟩ := ex 0 (-1) hi.1 hi.2 (Or.inl ⟨rfl, rfl⟩)
      exact ⟨u, by omega, u2, u3⟩)
    exact h0
  rw [show W 37 7 = (n : Int) by rw [w1 37 (by decide)]; omega, z_sub_e (by omega)]
  refine z_ifc (fun c => ref _ (fun _ => rfl) (fun q => absurd c q) (fun q => by omega)) (fun c => ?_)
  rw [z_sub_e (by omega)]
  refine sp133 (d := d + 3) (fun h1 => z_ifn (by decide) ?_) (fun h1 => z_ifp rfl (ref _ (fun q => absurd q c) (fun _ _ => rfl) (fun q => absurd (by omega) h1)))
  have hi : 0 ≤ i ∧ i < st := by omega
  have hTW : zT 37 (V 143) W Λ := zT_c hT (w1 0 (by decide)) (fun a x y => w1 a (by omega)) (fun a x => w1 a (by omega))
  have lp : ∀ (m t k : Nat) (a : Int), t + m = n → zSs (zTH (V 143)) run st i t = (k, a) → z_Ex (z_MS (d + 4)) 120 (fun z W => z_MS (d + 5) 240 true [.inr (.inr 141), .inl i] W (fun z2 X => z2 = z ∧ zR X)) true 41 [some (.inr (.inr 36)), some (.inl i), some (.inl st), some (.inl ((k : Int) - 1)), some (.inl a), some (.inl (t : Int))] [] 0 0 W := by
    intro m
    induction m with
    | zero =>
      intro t k a e hs1
      have e2 : t = n := by omega
      subst e2
      refine zb120_36_p41 _ _ _ _ _ (z_ifn (by rw [w1 37 (by decide)]; omega) (ref _ (fun q => by omega) (fun _ q => absurd hi q) (fun _ => by rw [hs1])))
    | succ m ih =>
      intro t k a e hs1
      have inv := zSs_i (th := zTH (V 143)) (run := run) (st := st) (i := i) t
      rw [hs1] at inv
      refine zb120_36_p41 _ _ _ _ _ (z_ifp (by rw [w1 37 (by decide)]; omega) (z_ifc (fun c => ?_) (fun c => ?_)))
      · have pk : run t = st - (k : Int) → (a = -1 ∨ zTH (V 143) t ≤ zTH (V 143) a.toNat) → z_Ex (z_MS (d + 4)) 120 (fun z W => z_MS (d + 5) 240 true [.inr (.inr 141), .inl i] W (fun z2 X => z2 = z ∧ zR X)) true 41 [some (.inr (.inr 36)), some (.inl i), some (.inl st), some (.inl (k : Int)), some (.inl (t : Int)), some (.inl ((t + 1 : Nat) : Int))] [] 0 0 W := by
          intro q1 q2
          have h5 := ih (t + 1) (k + 1) t (by omega) (by
            rw [zSs, hs1]
            exact if_pos ⟨by show (k : Int) ≤ i; omega, q1, q2⟩)
          rw [show ((k + 1 : Nat) : Int) - 1 = (k : Int) by omega] at h5
          exact h5
        have nx : ¬ (run t = st - (k : Int) ∧ (a = -1 ∨ zTH (V 143) t ≤ zTH (V 143) a.toNat)) → z_Ex (z_MS (d + 4)) 120 (fun z W => z_MS (d + 5) 240 true [.inr (.inr 141), .inl i] W (fun z2 X => z2 = z ∧ zR X)) true 41 [some (.inr (.inr 36)), some (.inl i), some (.inl st), some (.inl ((k : Int) - 1)), some (.inl a), some (.inl ((t + 1 : Nat) : Int))] [] 0 0 W := by
          intro q
          refine ih (t + 1) k a (by omega) ?_
          rw [zSs, hs1]
          exact if_neg (fun c => q c.2)
        refine z_gp (by omega) (z_all ?_)
        rw [Int.toNat_natCast, w2 t (by omega), z_inc (i := t) (by omega)]
        simp (disch := omega) only [z_mul_e, z_add_e, z_sub_e]
        rw [show (k : Int) - 1 + 1 = (k : Int) by omega, show st - ((k : Int) - 1) - 1 = st - (k : Int) by omega]
        refine z_ifc (fun c1 => z_ifc (fun c2 => pk c1 (Or.inl c2)) (fun c2 => ?_)) (fun c1 => nx (fun q => c1 q.1))
        rcases inv with ⟨_, h3⟩ | ⟨a', h3, h4, _⟩
        · exact absurd h3 c2
        have h4 : a = (a' : Int) := h4
        subst h4
        rw [Int.toNat_natCast] at pk nx
        refine sp89 (d := d + 1) hTW hn (by omega) (by omega) ?_
        by_cases c3 : zTH (V 143) t ≤ zTH (V 143) a'
        · rw [if_pos c3]
          exact z_ifn (by decide) (pk c1 (Or.inr c3))
        · rw [if_neg c3]
          exact z_ifp rfl (nx (fun q => by rcases q.2 with q | q <;> omega))
      · refine ref _ (fun q => by omega) (fun _ q => absurd hi q) (fun _ => ?_)
        have h4 := zSs_s (th := zTH (V 143)) (run := run) (st := st) (i := i) (t := t) (by rw [hs1]; show ¬ (k : Int) ≤ i; omega) (m + 1)
        rw [e, hs1] at h4
        rw [h4]
  have h0 := lp n 0 0 (-1) (by omega) rfl
  exact h0
end
