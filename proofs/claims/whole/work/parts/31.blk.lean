/-! blocks: printed by a program -/
set_option maxRecDepth 100000 in
theorem zb146 {d : Nat} {Q : Int → z_M → Prop} (a0 : Int) (a1 : Int) {V : z_M}
    (h : if (z_and (z_shr a0 a1) 1) = 1 then (Q 1 V) else (Q 0 V)) : z_MS (d + 1) 146 true [.inl a0, .inl a1] V Q := z_RC.ex (cut := []) 400 h
set_option maxRecDepth 100000 in
theorem zb155_141 {d : Nat} {Q : Int → z_M → Prop} (a0 : Int) {V : z_M}
    (h : z_MS d 154 true [.inr (.inr 141)] V (fun z1 V1 => z_MS d 145 true [.inr (.inl a0), .inr (.inl 0), .inr (.inl (z_lsub z1 1))] V1 (fun z2 V2 => z_g (z2 = 0 ∨ z2 = 1) (Q z2 V2)))) : z_MS (d + 1) 155 true [.inr (.inr 141), .inl a0] V Q := z_RC.ex (cut := []) 400 h
set_option maxRecDepth 100000 in
theorem zb84_37 {d : Nat} {Q : Int → z_M → Prop}  {V : z_M}
    (h : z_Ex (z_MS d) 84 Q true 4 [some (.inr (.inr 37)), some (.inl 0), some (.inl 0)] [] 0 0 V) : z_MS (d + 1) 84 true [.inr (.inr 37)] V Q := z_RC.ex (cut := [4]) 400 h
set_option maxRecDepth 100000 in
theorem zb84_37_4 {d : Nat} {Q : Int → z_M → Prop} (n : Int) (k : Int) {V : z_M}
    (h : if k < (V 37 7) then (z_g (0 ≤ k ∧ k < 12) (z_Ex (z_MS d) 84 Q true 4 [some (.inr (.inr 37)), some (.inl (z_add n (V 42 k.toNat))), some (.inl (z_add k 1))] [] 0 0 V)) else (Q n V)) : z_Ex (z_MS d) 84 Q true 4 [some (.inr (.inr 37)), some (.inl n), some (.inl k)] [] 0 0 V := z_RC.ex (cut := [4]) 400 h
set_option maxRecDepth 100000 in
theorem zb75_37 {d : Nat} {Q : Int → z_M → Prop} (a0 : Int) {V : z_M}
    (h : z_MS d 133 true [.inl a0, .inl 0, .inl (z_sub (V 37 7) 1)] V (fun z1 V1 => z_g (z1 = 0 ∨ z1 = 1) (Q z1 V1))) : z_MS (d + 1) 75 true [.inr (.inr 37), .inl a0] V Q := z_RC.ex (cut := []) 400 h
set_option maxRecDepth 100000 in
theorem zb78_37 {d : Nat} {Q : Int → z_M → Prop} (a0 : Int) (a1 : Int) {V : z_M}
    (h : if (V 37 8) < 6 then (z_g (0 ≤ (V 37 8) ∧ (V 37 8) < 6) (let W1 := z_up V 44 (V 37 8).toNat a0; z_g (0 ≤ (V 37 8) ∧ (V 37 8) < 6) (let W2 := z_up W1 45 (V 37 8).toNat a1; let W3 := z_up W2 37 8 (z_add (V 37 8) 1); Q (z_sub (z_add (V 37 8) 1) 1) W3))) else (Q (-1) V)) : z_MS (d + 1) 78 true [.inr (.inr 37), .inl a0, .inl a1] V Q := z_RC.ex (cut := []) 400 h
set_option maxRecDepth 100000 in
theorem zb77_37 {d : Nat} {Q : Int → z_M → Prop} (a0 : Int) (a1 : Int) (a2 : Int) {V : z_M}
    (h : if (V 37 7) < 12 then (z_g (0 ≤ (V 37 7) ∧ (V 37 7) < 12) (let W1 := z_up V 39 (V 37 7).toNat a0; z_g (0 ≤ (V 37 7) ∧ (V 37 7) < 12) (let W2 := z_up W1 40 (V 37 7).toNat a1; z_g (0 ≤ (V 37 7) ∧ (V 37 7) < 12) (let W3 := z_up W2 41 (V 37 7).toNat a2; z_g (0 ≤ (V 37 7) ∧ (V 37 7) < 12) (let W4 := z_up W3 42 (V 37 7).toNat 0; let W5 := z_up W4 37 7 (z_add (V 37 7) 1); Q (z_sub (z_add (V 37 7) 1) 1) W5))))) else (Q (-1) V)) : z_MS (d + 1) 77 true [.inr (.inr 37), .inl a0, .inl a1, .inl a2] V Q := z_RC.ex (cut := []) 400 h
