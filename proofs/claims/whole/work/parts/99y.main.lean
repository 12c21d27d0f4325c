/-! the law's whole run -/
theorem z_main {L : Nat} {xs : Nat → Int32} (hL : L ≤ 3072) : z_Ex (z_MS 1800) 0 (fun z _ => z = 1) false 0 (z_ent [.inr (.inr 1)] 4) [] 0 0 (z_V0 L xs) := by
  obtain ⟨k1, s1, eA⟩ := xA_e
  obtain ⟨k2, s2, eB⟩ := xB_e
  unfold xA at eA
  unfold xB at eB
  show z_Ex (z_MS 1800) 0 (fun z _ => z = 1) false 0 [some (.inr (.inr 1)), none, none, none] [] 0 0 (z_V0 L xs)
  refine zk_new (pc := 0) (c := 36) (nf := 16) zr_0_0 rfl ⟨by decide, by decide⟩ (by decide) (by decide) ?_
  show z_Ex (z_MS 1800) 0 (fun z _ => z = 1) false 3 [some (.inr (.inr 1)), none, none, none] [.inr (.inr 36)] 1 16 (xU (z_V0 L xs) [(0, 0, 0, 37)])
  refine ze_dup (pc := 3) zr_0_3 rfl ?_
  refine zq_callI0 (pc := 4) (as := [.inr (.inr 36)]) (r := [.inr (.inr 36)]) (kc2 := 105) (ks2 := 2426) (G := fun _ W => W = xU (z_V0 L xs) xL1 ∧ W 0 0 = 141) zr_0_4 rfl ⟨by decide, by decide⟩ rfl rfl rfl rfl ⟨rfl, rfl⟩ rfl ?_ (fun z W hW => ?_)
  · show z_Ex (z_MS 1799) 91 _ false 0 (z_ent [.inr (.inr 36)] (z_ml 91)) [] 0 0 (xU (z_V0 L xs) [(0, 0, 0, 37)])
    exact xrun_s 400 1799 91 0 _ _ 0 0 37 _ (k1, s1, 141, xL1) _ (by decide) eA rfl (fun h => ⟨rfl, h⟩)
  obtain ⟨rfl, h0⟩ := hW
  refine zq_astore_n (pc := 7) (ls2 := [some (.inr (.inr 1)), some (.inr (.inr 36)), none, none]) zr_0_7 rfl rfl ?_
  refine zk_new (pc := 8) (c := 141) (nf := 56) zr_0_8 (by unfold z_nx; rw [h0]; rfl) ⟨by decide, by decide⟩ (by decide) (by decide) ?_
  rw [h0]
  show z_Ex (z_MS 1800) 0 (fun z _ => z = 1) false 11 [some (.inr (.inr 1)), some (.inr (.inr 36)), none, none] [.inr (.inr 141)] 106 2482 (xU (z_V0 L xs) ((0, 0, 0, 142) :: xL1))
  refine ze_dup (pc := 11) zr_0_11 rfl ?_
  refine zq_callI0 (pc := 12) (as := [.inr (.inr 141)]) (r := [.inr (.inr 141)]) (kc2 := 133) (ks2 := 21858) (G := fun _ W => W = xU (z_V0 L xs) xL ∧ W 0 0 = 169) zr_0_12 rfl ⟨by decide, by decide⟩ rfl rfl rfl rfl ⟨rfl, rfl⟩ rfl ?_ (fun z W hW => ?_)
  · show z_Ex (z_MS 1799) 144 _ false 0 (z_ent [.inr (.inr 141)] (z_ml 144)) [] 0 0 (xU (z_V0 L xs) ((0, 0, 0, 142) :: xL1))
    exact xrun_s 400 1799 144 0 _ _ 0 0 142 _ (k2, s2, 169, xL) _ (by decide) eB (by show z_up _ 0 0 _ 0 0 = _; rw [zUp_s]; rfl) (fun h => ⟨rfl, h⟩)
  obtain ⟨rfl, h0⟩ := hW
  refine zq_astore_n (pc := 15) (ls2 := [some (.inr (.inr 1)), some (.inr (.inr 36)), some (.inr (.inr 141)), none]) zr_0_15 rfl rfl ?_
  refine ze_iconst (pc := 16) zr_0_16 (by decide) ?_
  refine zq_istore_n (pc := 17) (ls2 := [some (.inr (.inr 1)), some (.inr (.inr 36)), some (.inr (.inr 141)), some (.inl 0)]) zr_0_17 rfl rfl ?_
  have low := xU_low (V0 := z_V0 L xs) xL_ok
  refine z_Ex.switch xGr (zw_loop hL 513 0 133 21858 _ (by omega) ⟨xR h0, ?_, fun k => ?_, by rw [h0]; decide⟩ (by decide) (by decide) (by decide))
  · rw [low.2 1 (by decide) (by decide)]
    rfl
  · rw [low.1 1 (by decide) (by decide)]
    show -2147483648 ≤ (if k < L then (xs k).toInt else 0) ∧ (if k < L then (xs k).toInt else 0) < 2147483648
    split
    · exact z_r32 _
    · decide
