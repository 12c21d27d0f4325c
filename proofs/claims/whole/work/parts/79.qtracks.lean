/-! tracks of class and reference -/
theorem zFq_1 {M : Nat → Bool} {s : Nat} (h : M s = true) : zFq M (s + 1) = ((zFq M s).1 + 1, if (zFq M s).1 = 0 then s else if zCn12 s < zCn12 (zFq M s).2.1 then s else (zFq M s).2.1, if (zFq M s).1 = 0 then (s : Int) else z_and (zFq M s).2.2 s) := by
  rw [zFq, if_pos h]
theorem zFq_0 {M : Nat → Bool} {s : Nat} (h : ¬ M s = true) : zFq M (s + 1) = zFq M s := by
  rw [zFq, if_neg h]
section
variable {d : Nat} {Q : Int → z_M → Prop}
theorem lp238b {V : z_M} {T : Nat → Int} {R : Nat} {a what : Int} (hR6 : R ≤ 6) (hV : V 143 1 = (R : Int)) (hT : ∀ r, r < R → V 166 r = T r) (h : Q (zFz (zFq (zTm T R a) (2 ^ R)) what) V) :
    ∀ (k s : Nat) (l3 l4 l5 : Int) (o7 o8 o9 : Option z_V), s + k = 2 ^ R → zFr2 (zFq (zTm T R a) s) 63 l3 l4 l5 → z_Ex (z_MS (d + 2)) 238 Q true 149 [some (.inr (.inr 141)), some (.inl a), some (.inl what), some (.inl l3), some (.inl l4), some (.inl l5), some (.inl (s : Int)), o7, o8, o9] [] 0 0 V
  | 0, s, l3, l4, l5, o7, o8, o9, e, hr => by
    have e2 : s = 2 ^ R := by omega
    subst e2
    refine zb238_141_p149 _ _ _ _ _ _ _ _ _ (z_ifn (by rw [hV, zSh_e (by omega)]; omega) ?_)
    have e3 : zFz (zFq (zTm T R a) (2 ^ R)) what = if what = 0 then l3 else (if l3 = 0 then -1 else (if what = 1 then l4 else l5)) := by
      unfold zFz
      obtain ⟨h1, h2, h3⟩ := hr
      by_cases c : what = 0
      · rw [if_pos c, if_pos c, h1]
      · rw [if_neg c, if_neg c]
        by_cases c2 : (zFq (zTm T R a) (2 ^ R)).1 = 0
        · rw [if_pos c2, if_pos (by omega)]
        · rw [if_neg c2, if_neg (show ¬ l3 = 0 by omega), (h3 c2).1, (h3 c2).2]
    rw [e3] at h
    exact h
  | k + 1, s, l3, l4, l5, o7, o8, o9, e, hr => by
    have p2 := zP6 ⟨R, by omega⟩
    have p2 : 2 ^ R ≤ 64 := p2
    have hb := zFq_b (M := zTm T R a) s
    have hbs : zBS (s : Int) (fun k => s.testBit k) := zBS_nat (by omega)
    refine zb238_141_p149 _ _ _ _ _ _ _ _ _ (z_ifp (by rw [hV, zSh_e (by omega)]; omega) ?_)
    have inner : ∀ (k2 r : Nat) (x ok : Int), r + k2 = R → ok = (if zAny r (fun r => s.testBit r && decide (T r = -1)) = true then 0 else 1) → (ok = 1 → x = zTu T s r) → z_Ex (z_MS (d + 2)) 238 Q true 171 [some (.inr (.inr 141)), some (.inl a), some (.inl what), some (.inl l3), some (.inl l4), some (.inl l5), some (.inl (s : Int)), some (.inl x), some (.inl ok), some (.inl (r : Int))] [] 0 0 V := by
      intro k2
      induction k2 with
      | zero =>
        intro r x ok e2 hok hx
        have e3 : r = R := by omega
        subst e3
        refine zb238_141_p171 _ _ _ _ _ _ _ _ _ (z_ifn (by rw [hV]; omega) ?_)
        rw [z_inc (i := s) (by omega)]
        have nx : ¬ zTm T r a s = true → z_Ex (z_MS (d + 2)) 238 Q true 149 [some (.inr (.inr 141)), some (.inl a), some (.inl what), some (.inl l3), some (.inl l4), some (.inl l5), some (.inl ((s + 1 : Nat) : Int)), some (.inl x), some (.inl ok), some (.inl (r : Int))] [] 0 0 V := by
          intro q
          refine lp238b hR6 hV hT h k (s + 1) l3 l4 l5 _ _ _ (by omega) ?_
          rw [zFq_0 q]
          exact hr
        cases hz : zAny r (fun r => s.testBit r && decide (T r = -1)) with
        | true =>
          rw [hz] at hok
          refine z_ifp (by rw [hok]; rfl) (nx ?_)
          unfold zTm zTb
          rw [hz]
          simp
        | false =>
          rw [hz] at hok
          have hok : ok = 1 := hok
          have hx := hx hok
          refine z_ifn (by omega) (z_ifc (fun c => ?_) (fun c => nx ?_))
          · have hM : zTm T r a s = true := by
              unfold zTm zTb
              rw [hz, ← hx, c]
              simp
            have hq := zFq_1 hM
            obtain ⟨r1, r2, r3⟩ := hr
            refine z_ifc (fun c0 => ?_) (fun c0 => ?_)
            · have c1 : (zFq (zTm T r a) s).1 = 0 := by omega
              have a63 := zAn63 ⟨s, by omega⟩
              have a63 : z_and 63 (s : Int) = (s : Int) := a63
              rw [(r2 c1).2, a63, z_add_e (by omega)]
              refine lp238b hR6 hV hT h k (s + 1) _ _ _ _ _ _ (by omega) ?_
              rw [hq, if_pos c1, if_pos c1]
              exact ⟨by show _ = ((_ + 1 : Nat) : Int); omega, fun q => absurd q (by show ¬ _ + 1 = 0; omega), fun _ => ⟨rfl, rfl⟩⟩
            · have c1 : ¬ (zFq (zTm T r a) s).1 = 0 := by omega
              have hb4 := (r3 c1).1
              rw [hb4, (r3 c1).2]
              refine sp147 (d := d + 1) (by omega) (sp147 (d := d + 1) (by omega) ?_)
              rw [z_add_e (by omega)]
              refine lp238b hR6 hV hT h k (s + 1) _ _ _ _ _ _ (by omega) ?_
              rw [hq, if_neg c1, if_neg c1]
              refine ⟨by show _ = ((_ + 1 : Nat) : Int); omega, fun q => absurd q (by show ¬ _ + 1 = 0; omega), fun _ => ⟨?_, rfl⟩⟩
              show _ = ((if _ then s else _ : Nat) : Int)
              by_cases c5 : zCn12 s < zCn12 (zFq (zTm T r a) s).2.1
              · rw [if_pos c5, if_pos (by omega)]
              · rw [if_neg c5, if_neg (by omega)]
          · unfold zTm zTb
            rw [hz, ← hx]
            simp [c]
      | succ k2 ih =>
        intro r x ok e2 hok hx
        refine zb238_141_p171 _ _ _ _ _ _ _ _ _ (z_ifp (by rw [hV]; omega) ?_)
        have fin : ∀ s0 : Int, s0 = (if zAny (r + 1) (fun r => s.testBit r && decide (T r = -1)) = true then 0 else 1) → ∀ o8, z_Ex (z_MS (d + 2)) 238 Q true 213 [some (.inr (.inr 141)), some (.inl a), some (.inl what), some (.inl l3), some (.inl l4), some (.inl l5), some (.inl (s : Int)), some (.inl x), o8, some (.inl (r : Int))] [.inl s0] 0 0 V := by
          intro s0 hs0 o8
          have hs1 : s0 = 1 → ok = 1 := by
            intro q
            rw [hok]
            cases hz : zAny r (fun r => s.testBit r && decide (T r = -1)) with
            | false => rfl
            | true => rw [zAny, hz] at hs0; simp at hs0; omega
          refine zb238_141_p213 _ _ _ _ _ _ _ _ _ _ (sp146 (d := d + 1) hbs (by omega) ?_)
          rw [z_inc (i := r) (by omega)]
          by_cases c : s.testBit r = true
          · rw [if_pos c]
            refine z_ifn (by decide) (z_gp (by omega) (z_all ?_))
            rw [Int.toNat_natCast, hT r (by omega)]
            refine ih (r + 1) _ _ (by omega) hs0 (fun q => ?_)
            rw [zTu, if_pos c, hx (hs1 q)]
          · rw [if_neg c]
            refine z_ifp rfl (ih (r + 1) _ _ (by omega) hs0 (fun q => ?_))
            rw [zTu, if_neg c, hx (hs1 q), zTu_0]
        cases hz : zAny r (fun r => s.testBit r && decide (T r = -1)) with
        | true =>
          rw [hz] at hok
          exact z_ifp (by rw [hok]; rfl) (fin 0 (by rw [zAny, hz]; rfl) _)
        | false =>
          rw [hz] at hok
          have hok : ok = 1 := hok
          refine z_ifn (by omega) (sp146 (d := d + 1) hbs (by omega) ?_)
          by_cases c : s.testBit r = true
          · rw [if_pos c]
            refine z_ifn (by decide) (z_gp (by omega) (z_all ?_))
            rw [Int.toNat_natCast, hT r (by omega)]
            refine fin _ ?_ _
            rw [zAny, hz, c]
            by_cases c2 : T r = -1 <;> simp [c2]
          · rw [if_neg c]
            refine z_ifp rfl (fin 1 ?_ _)
            rw [zAny, hz]
            simp [c]
    exact inner R 0 0 1 (by omega) rfl (fun _ => rfl)
theorem cm_tracks {V : z_M} (hR : zR V) (a what : Int) (ha : a < 2147483648) : zPr (d + 9) 119 238 [.inl a, .inl what] V := by
  have hR2 := hR
  obtain ⟨⟨Λ, hT, hc⟩, r3, r4, r5⟩ := hR2
  obtain ⟨n, R, m, hn, hRr, hm, n12, R6, m7⟩ := zR_nat hT
  have a0 := zT_0 hT
  have a1 := zT_1 hT
  have a4 := zT_4 hT
  have hlb : ∀ p, p ≤ n → 0 ≤ zLE (V 143) (fun t => t) p ∧ zLE (V 143) (fun t => t) p ≤ 108 := fun p hp => zLE_b hT hn (fun t ht => ht) hp
  have p2n := zP2_e n12
  have p2 := zP6 ⟨R, by omega⟩
  have p2 : 2 ^ R ≤ 64 := p2
  have p1 := (zP2_e (k := R) (by omega)).1
  have e8 : V 37 8 = (R : Int) := by omega
  have no : ¬ ((0 ≤ a ∧ a ≤ ((2 ^ n : Nat) : Int) - 1) ∧ 0 ≤ what ∧ what ≤ 2) → z_MS (d + 9) 238 true [.inr (.inr 141), .inl a, .inl what] V (fun z2 X => z2 = -1 ∧ zR X) := by
    intro hno
    refine zb238_141 _ _ (z_all (sp154 (d := d + 7) ?_))
    rw [show z_up V 141 0 0 143 = V 143 from z_up_cell (by decide), hn, zSh_e n12, z_lsub_e (by omega)]
    exact sp145 (d := d + 7) (fun h1 => z_ifn (by decide) (sp145 (d := d + 7) (fun h2 => absurd ⟨h1, h2⟩ hno) (fun _ => z_ifp rfl ⟨rfl, zR_k hR zKeep_0⟩))) (fun _ => z_ifp rfl ⟨rfl, zR_k hR zKeep_0⟩)
  refine zb119_36 _ _ ?_
  rw [show V 37 7 = (n : Int) by omega, zSh_e n12, z_sub_e (by omega)]
  refine sp133 (d := d + 7) (fun h1 => z_ifn (by decide) (sp133 (d := d + 7) (fun h2 => z_ifn (by decide) ?_) (fun h2 => z_ifp rfl (no (by omega))))) (fun h1 => z_ifp rfl (no (by omega)))
  refine sp139 (d := d + 2) r5.1 hT hn hRr (fun W w1 w2 w3 => ?_)
  have hTd : (fun r => zTx n (zAd n (zLE (V 143) (fun t => t)) (zSR (V 143) r) (zSR (V 143) r + V 143 7)) (zOp n (zCR (V 143) Λ (fun t => t) r) (zG0 (V 143) (fun t => t)))) = (fun r => zTx n (zAd n (zLE (V 143) (fun t => t)) (zSR (V 143) r) (zSR (V 143) r + V 143 7)) (zOp n (zCR (V 143) Λ (fun t => t) r) (zG0 (V 143) (fun t => t)))) := rfl
  generalize hTT : (fun r => zTx n (zAd n (zLE (V 143) (fun t => t)) (zSR (V 143) r) (zSR (V 143) r + V 143 7)) (zOp n (zCR (V 143) Λ (fun t => t) r) (zG0 (V 143) (fun t => t)))) = T at hTd
  clear hTd
  rw [show W 37 8 = (R : Int) by rw [w1 37 (by omega)]; exact e8, zSh_e (by omega), z_sub_e (by omega)]
  have ref : ∀ X, zOff 94 116 V X → z_MS (d + 9) 238 true [.inr (.inr 141), .inl a, .inl what] X (fun z2 Y => z2 = zFz (zFq (zTm T R a) (2 ^ R)) what ∧ zR Y) := by
    intro X hX
    have e143 : z_up X 141 0 0 143 = V 143 := by rw [z_up_cell (by decide), hX 143 (by omega)]
    refine zb238_141 _ _ (z_all (sp154 (d := d + 7) ?_))
    rw [e143, hn, zSh_e n12, z_lsub_e (by omega)]
    refine sp145 (d := d + 7) (fun _ => z_ifn (by decide) (sp145 (d := d + 7) (fun _ => z_ifn (by decide) ?_) (fun h => absurd h2 h))) (fun h => absurd h1 h)
    refine sp201 (d := d + 1) hT e143 hn hRr hm (fun Y y1 y2 => ?_)
    refine lp238 (d := d + 2) (lev := zLE (V 143) (fun t => t)) (car := zCR (V 143) Λ (fun t => t)) (g := zG0 (V 143) (fun t => t)) hT rfl hlb hn hRr (fun Z z1 z2 => ?_) R 0 Y none none (by omega) zFm_r y2 (fun q hq => absurd hq (Nat.not_lt_zero q))
    refine lp238b (d := d + 6) (T := T) R6 (by rw [z1.1 143 (by decide) (by omega), y2.1]; exact hRr) (fun r hr => by rw [z2 r hr, ← hTT]) ⟨rfl, ?_⟩ (2 ^ R) 0 0 (-1) 63 none none none (by omega) ⟨rfl, fun _ => ⟨rfl, rfl⟩, fun q => absurd rfl q⟩
    exact zR_k hR (zKeep_t (zKeep_x (zOff_w hX (show 89 ≤ 94 by omega) (show 116 ≤ 118 by omega))) (zKeep_t zKeep_0 (zKeep_t (zKeep_m y1 (Or.inr (by omega)) (by omega)) (zKeep_m z1 (Or.inr (by omega)) (by omega)))))
  have lp : ∀ (k s : Nat) (l3 l4 l5 : Int) (X : z_M), s + k = 2 ^ R → zOff 114 116 W X → zFr2 (zFq (zTm T R a) s) (((2 ^ R : Nat) : Int) - 1) l3 l4 l5 → z_Ex (z_MS (d + 8)) 119 (fun z W => z_MS (d + 9) 238 true [.inr (.inr 141), .inl a, .inl what] W (fun z2 X => z2 = z ∧ zR X)) true 55 [some (.inr (.inr 36)), some (.inl a), some (.inl what), some (.inl l3), some (.inl l4), some (.inl l5), some (.inl (s : Int))] [] 0 0 X := by
    intro k
    induction k with
    | zero =>
      intro s l3 l4 l5 X e hX hr
      have e2 : s = 2 ^ R := by omega
      subst e2
      have hVX : zOff 94 116 V X := zOff_t (zOff_w w1 (by decide) (by decide)) (zOff_w hX (by decide) (by decide))
      have rf := ref X hVX
      refine zb119_36_p55 _ _ _ _ _ _ (z_ifn (by rw [hVX 37 (by omega), e8, zSh_e (by omega)]; omega) ?_)
      obtain ⟨r1, r2, r3⟩ := hr
      unfold zFz at rf
      refine z_ifc (fun c => ?_) (fun c => z_ifc (fun c2 => ?_) (fun c2 => ?_))
      · rw [if_pos c] at rf
        rw [r1]; exact rf
      · rw [if_neg c, if_pos (by omega)] at rf
        exact rf
      · have c3 : ¬ (zFq (zTm T R a) (2 ^ R)).1 = 0 := by omega
        rw [if_neg c, if_neg c3] at rf
        rw [(r3 c3).1, (r3 c3).2]
        exact rf
    | succ k ih =>
      intro s l3 l4 l5 X e hX hr
      have hVX : zOff 94 116 V X := zOff_t (zOff_w w1 (by decide) (by decide)) (zOff_w hX (by decide) (by decide))
      have hb := zFq_b (M := zTm T R a) s
      have an6 : z_and (((2 ^ R : Nat) : Int) - 1) (s : Int) = (s : Int) := zAn6 ⟨R, by omega⟩ ⟨s, by omega⟩ (by show s < 2 ^ R; omega)
      refine zb119_36_p55 _ _ _ _ _ _ (z_ifp (by rw [hVX 37 (by omega), e8, zSh_e (by omega)]; omega) ?_)
      refine sp142 (d := d + 3) (g := zG0 (V 143) (fun t => t)) (zT_off hT hVX (by decide) (by decide) (by decide)) hRr (by omega) n12 (zSC_up (by omega) w2 (by rw [hX 97 (by omega)]) (by rw [hX 97 (by omega)]) (fun a p q => hX a (by omega))) (by rw [hX 97 (by omega)]; exact w3.1) (fun Y y1 => ?_)
      rw [hTT]
      have hY := zOff_t hX y1
      rw [z_inc (i := s) (by omega)]
      obtain ⟨r1, r2, r3⟩ := hr
      refine z_ifc (fun c => ?_) (fun c => ?_)
      · have hM : zTm T R a s = true := by
          unfold zTm
          cases hz : zTb T s R with
          | true => rw [hz] at c; have c : (-1 : Int) = a := c; omega
          | false => rw [hz] at c; have c : zTu T s R = a := c; simp [c]
        have hq := zFq_1 hM
        by_cases c1 : (zFq (zTm T R a) s).1 = 0
        · rw [(r2 c1).1, (r2 c1).2, an6, z_add_e (by omega)]
          refine z_ifp rfl (ih (s + 1) _ _ _ Y (by omega) hY ?_)
          rw [hq, if_pos c1, if_pos c1]
          exact ⟨by show _ = ((_ + 1 : Nat) : Int); omega, fun q => absurd q (by show ¬ _ + 1 = 0; omega), fun _ => ⟨rfl, rfl⟩⟩
        · rw [(r3 c1).1, (r3 c1).2, z_add_e (by omega)]
          refine z_ifn (by omega) (sp256 (d := d + 7) (sp256 (d := d + 7) ?_))
          rw [zBc_e (by omega), zBc_e (by omega)]
          refine z_ifc (fun c5 => ih (s + 1) _ _ _ Y (by omega) hY ?_) (fun c5 => ih (s + 1) _ _ _ Y (by omega) hY ?_)
          · rw [hq, if_neg c1, if_neg c1, if_pos (by omega)]
            exact ⟨by show _ = ((_ + 1 : Nat) : Int); omega, fun q => absurd q (by show ¬ _ + 1 = 0; omega), fun _ => ⟨rfl, rfl⟩⟩
          · rw [hq, if_neg c1, if_neg c1, if_neg (by omega)]
            exact ⟨by show _ = ((_ + 1 : Nat) : Int); omega, fun q => absurd q (by show ¬ _ + 1 = 0; omega), fun _ => ⟨rfl, rfl⟩⟩
      · have hM : ¬ zTm T R a s = true := by
          unfold zTm
          cases hz : zTb T s R with
          | true => simp
          | false => rw [hz] at c; have c : ¬ zTu T s R = a := c; simp [c]
        refine ih (s + 1) _ _ _ Y (by omega) hY ?_
        rw [zFq_0 hM]
        exact ⟨r1, r2, r3⟩
  exact lp (2 ^ R) 0 0 (-1) _ W (by omega) zOff_r ⟨rfl, fun _ => ⟨rfl, rfl⟩, fun q => absurd rfl q⟩
end
