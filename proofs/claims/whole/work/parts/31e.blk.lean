/-! blocks of rows: printed by a program -/
set_option maxRecDepth 100000 in
theorem zb80_37 {d : Nat} {Q : Int → z_M → Prop} (a0 : Int) (a1 : Int) {V : z_M}
    (h : if (V 37 11) < 7 then (z_g (0 ≤ (V 37 11) ∧ (V 37 11) < 7) (let W1 := z_up V 49 (V 37 11).toNat a0; z_g (0 ≤ (V 37 11) ∧ (V 37 11) < 7) (let W2 := z_up W1 50 (V 37 11).toNat a1; let W3 := z_up W2 37 11 (z_add (V 37 11) 1); Q (z_sub (z_add (V 37 11) 1) 1) W3))) else (Q (-1) V)) : z_MS (d + 1) 80 true [.inr (.inr 37), .inl a0, .inl a1] V Q := z_RC.ex (cut := []) 400 h
set_option maxRecDepth 100000 in
theorem zb81_37 {d : Nat} {Q : Int → z_M → Prop} (a0 : Int) {V : z_M}
    (h : if (V 37 12) < 8 then (z_g (0 ≤ (V 37 12) ∧ (V 37 12) < 8) (let W1 := z_up V 51 (V 37 12).toNat a0; let W2 := z_up W1 37 12 (z_add (V 37 12) 1); Q (z_add (V 37 12) 1) W2)) else (Q (-1) V)) : z_MS (d + 1) 81 true [.inr (.inr 37), .inl a0] V Q := z_RC.ex (cut := []) 400 h
set_option maxRecDepth 100000 in
theorem zb82_37 {d : Nat} {Q : Int → z_M → Prop} (a0 : Int) {V : z_M}
    (h : z_Ex (z_MS d) 82 Q true 8 [some (.inr (.inr 37)), some (.inl a0), some (.inl (z_add (z_max a0 0) 1))] [] 0 0 V) : z_MS (d + 1) 82 true [.inr (.inr 37), .inl a0] V Q := z_RC.ex (cut := [8]) 400 h
set_option maxRecDepth 100000 in
theorem zb82_37_p8 {d : Nat} {Q : Int → z_M → Prop} (l1 : Int) (l2 : Int) {V : z_M}
    (h : if l2 < (V 37 11) then (z_g (0 ≤ l2 ∧ l2 < 7) (z_g (0 ≤ (z_sub l2 1) ∧ (z_sub l2 1) < 7) (let W2 := z_up V 49 (z_sub l2 1).toNat (V 49 l2.toNat); z_g (0 ≤ l2 ∧ l2 < 7) (z_g (0 ≤ (z_sub l2 1) ∧ (z_sub l2 1) < 7) (let W3 := z_up W2 50 (z_sub l2 1).toNat (V 50 l2.toNat); z_Ex (z_MS d) 82 Q true 8 [some (.inr (.inr 37)), some (.inl l1), some (.inl (z_add l2 1))] [] 0 0 W3))))) else (let W1 := z_up V 37 11 (z_sub (V 37 11) 1); Q 0 W1)) : z_Ex (z_MS d) 82 Q true 8 [some (.inr (.inr 37)), some (.inl l1), some (.inl l2)] [] 0 0 V := z_RC.ex (cut := [8]) 400 h
set_option maxRecDepth 100000 in
theorem zb83_37 {d : Nat} {Q : Int → z_M → Prop} (a0 : Int) {V : z_M}
    (h : z_Ex (z_MS d) 83 Q true 4 [some (.inr (.inr 37)), some (.inl a0), some (.inl 0), some (.inl 0)] [] 0 0 V) : z_MS (d + 1) 83 true [.inr (.inr 37), .inl a0] V Q := z_RC.ex (cut := [4]) 400 h
set_option maxRecDepth 100000 in
theorem zb83_37_p4 {d : Nat} {Q : Int → z_M → Prop} (l1 : Int) (l2 : Int) (l3 : Int) {V : z_M}
    (h : if l1 < l3 then (Q l2 V) else (if l3 < (V 37 7) then (z_g (0 ≤ l3 ∧ l3 < 12) (z_Ex (z_MS d) 83 Q true 4 [some (.inr (.inr 37)), some (.inl l1), some (.inl (z_add l2 (V 39 l3.toNat))), some (.inl (z_add l3 1))] [] 0 0 V)) else (Q l2 V))) : z_Ex (z_MS d) 83 Q true 4 [some (.inr (.inr 37)), some (.inl l1), some (.inl l2), some (.inl l3)] [] 0 0 V := z_RC.ex (cut := [4]) 400 h
set_option maxRecDepth 100000 in
theorem zb84_37 {d : Nat} {Q : Int → z_M → Prop}  {V : z_M}
    (h : z_Ex (z_MS d) 84 Q true 4 [some (.inr (.inr 37)), some (.inl 0), some (.inl 0)] [] 0 0 V) : z_MS (d + 1) 84 true [.inr (.inr 37)] V Q := z_RC.ex (cut := [4]) 400 h
set_option maxRecDepth 100000 in
theorem zb84_37_p4 {d : Nat} {Q : Int → z_M → Prop} (l1 : Int) (l2 : Int) {V : z_M}
    (h : if l2 < (V 37 7) then (z_g (0 ≤ l2 ∧ l2 < 12) (z_Ex (z_MS d) 84 Q true 4 [some (.inr (.inr 37)), some (.inl (z_add l1 (V 42 l2.toNat))), some (.inl (z_add l2 1))] [] 0 0 V)) else (Q l1 V)) : z_Ex (z_MS d) 84 Q true 4 [some (.inr (.inr 37)), some (.inl l1), some (.inl l2)] [] 0 0 V := z_RC.ex (cut := [4]) 400 h
set_option maxRecDepth 100000 in
theorem zb85_37 {d : Nat} {Q : Int → z_M → Prop}  {V : z_M}
    (h : z_MS d 133 true [.inl (V 37 10), .inl 0, .inl (z_sub (V 37 9) 1)] V (fun z1 V1 => if z1 = 0 then (Q (0 : Nat) V1) else (z_g (0 ≤ (V1 37 10) ∧ (V1 37 10) < 6) (z_g (3 = 3 ∧ ¬ (z_rr true V1 47 (V1 37 10).toNat) = 7) (Q (z_rr true V1 47 (V1 37 10).toNat : Nat) V1))))) : z_MS (d + 1) 85 true [.inr (.inr 37)] V Q := z_RC.ex (cut := []) 400 h
set_option maxRecDepth 100000 in
theorem zb86_37 {d : Nat} {Q : Int → z_M → Prop}  {V : z_M}
    (h : z_Ex (z_MS d) 86 Q true 4 [some (.inr (.inr 37)), some (.inl 0), some (.inl 0)] [] 0 0 V) : z_MS (d + 1) 86 true [.inr (.inr 37)] V Q := z_RC.ex (cut := [4]) 400 h
set_option maxRecDepth 100000 in
theorem zb86_37_p4 {d : Nat} {Q : Int → z_M → Prop} (l1 : Int) (l2 : Int) {V : z_M}
    (h : if l2 < (V 37 11) then (z_g (0 ≤ l2 ∧ l2 < 7) (z_Ex (z_MS d) 86 Q true 4 [some (.inr (.inr 37)), some (.inl (z_or l1 (z_shl 1 (V 49 l2.toNat)))), some (.inl (z_add l2 1))] [] 0 0 V)) else (Q l1 V)) : z_Ex (z_MS d) 86 Q true 4 [some (.inr (.inr 37)), some (.inl l1), some (.inl l2)] [] 0 0 V := z_RC.ex (cut := [4]) 400 h
set_option maxRecDepth 100000 in
theorem zb87_37_124 {d : Nat} {Q : Int → z_M → Prop}  {V : z_M}
    (h : if 7 < (V 37 7) then (Q 0 V) else (z_Ex (z_MS d) 87 Q true 12 [some (.inr (.inr 37)), some (.inr (.inr 124)), some (.inl 0), none] [] 0 0 V)) : z_MS (d + 1) 87 true [.inr (.inr 37), .inr (.inr 124)] V Q := z_RC.ex (cut := [12, 38, 86]) 400 h
set_option maxRecDepth 100000 in
theorem zb87_37_124_p12 {d : Nat} {Q : Int → z_M → Prop} (l2 : Int) {V : z_M}
    (h : if 3 < l2 then (z_Ex (z_MS d) 87 Q true 86 [some (.inr (.inr 37)), some (.inr (.inr 124)), some (.inl 0), none] [] 0 0 V) else (z_g (0 ≤ l2 ∧ l2 < 4) (z_g (z_kd (z_rr true V 38 l2.toNat) = 101 ∧ z_kd 52 = 101 ∧ 36 ≤ 52 ∧ z_sum [] ≤ 8) (z_g (0 ≤ (V 37 7) ∧ 0 ≤ 0 ∧ 0 ≤ 0 ∧ 0 + (V 37 7) ≤ z_len' V (z_rr true V 38 l2.toNat) ∧ 0 + (V 37 7) ≤ 12) (z_Ex (z_MS d) 87 Q true 38 [some (.inr (.inr 37)), some (.inr (.inr 124)), some (.inl l2), some (.inl 0)] [] 0 0 (z_cpy V (z_rr true V 38 l2.toNat) 0.toNat 52 0.toNat (V 37 7).toNat)))))) : z_Ex (z_MS d) 87 Q true 12 [some (.inr (.inr 37)), some (.inr (.inr 124)), some (.inl l2), none] [] 0 0 V := z_RC.ex (cut := [12, 38, 86]) 400 h
set_option maxRecDepth 100000 in
theorem zb87_37_124_p38 {d : Nat} {Q : Int → z_M → Prop} (l2 : Int) (l3 : Int) {V : z_M}
    (h : if l3 < (V 37 7) then (z_g (0 ≤ l3 ∧ l3 < 7) (z_MS d 75 true [.inr (.inr 37), .inl (V 124 l3.toNat)] V (fun z2 V2 => if z2 = 0 then (z_Ex (z_MS d) 87 Q true 38 [some (.inr (.inr 37)), some (.inr (.inr 124)), some (.inl l2), some (.inl (z_add l3 1))] [] 0 0 V2) else (z_g (0 ≤ l2 ∧ l2 < 4) (z_g (0 ≤ l3 ∧ l3 < 7) (z_g (0 ≤ (V2 124 l3.toNat) ∧ (V2 124 l3.toNat) < 12) (z_g (z_kd (z_rr true V2 38 l2.toNat) = 101 ∧ 36 ≤ (z_rr true V2 38 l2.toNat)) (z_g (0 ≤ l3 ∧ l3 < z_len' V2 (z_rr true V2 38 l2.toNat)) (let W2 := z_up V2 (z_rr true V2 38 l2.toNat) l3.toNat (V2 52 (V2 124 l3.toNat).toNat); z_Ex (z_MS d) 87 Q true 38 [some (.inr (.inr 37)), some (.inr (.inr 124)), some (.inl l2), some (.inl (z_add l3 1))] [] 0 0 W2))))))))) else (z_Ex (z_MS d) 87 Q true 12 [some (.inr (.inr 37)), some (.inr (.inr 124)), some (.inl (z_add l2 1)), some (.inl l3)] [] 0 0 V)) : z_Ex (z_MS d) 87 Q true 38 [some (.inr (.inr 37)), some (.inr (.inr 124)), some (.inl l2), some (.inl l3)] [] 0 0 V := z_RC.ex (cut := [12, 38, 86]) 400 h
set_option maxRecDepth 100000 in
theorem zb87_37_124_p86 {d : Nat} {Q : Int → z_M → Prop} (l2 : Int) {V : z_M}
    (h : if l2 < (V 37 11) then (z_g (0 ≤ l2 ∧ l2 < 7) (z_MS d 88 true [.inr (.inr 37), .inr (.inr 124), .inl (V 50 l2.toNat)] V (fun z1 V1 => z_g (0 ≤ l2 ∧ l2 < 7) (let W1 := z_up V1 50 l2.toNat z1; z_Ex (z_MS d) 87 Q true 86 [some (.inr (.inr 37)), some (.inr (.inr 124)), some (.inl (z_add l2 1)), none] [] 0 0 W1)))) else (Q 0 V)) : z_Ex (z_MS d) 87 Q true 86 [some (.inr (.inr 37)), some (.inr (.inr 124)), some (.inl l2), none] [] 0 0 V := z_RC.ex (cut := [12, 38, 86]) 400 h
set_option maxRecDepth 100000 in
theorem zb87_37_139 {d : Nat} {Q : Int → z_M → Prop}  {V : z_M}
    (h : if 12 < (V 37 7) then (Q 0 V) else (z_Ex (z_MS d) 87 Q true 12 [some (.inr (.inr 37)), some (.inr (.inr 139)), some (.inl 0), none] [] 0 0 V)) : z_MS (d + 1) 87 true [.inr (.inr 37), .inr (.inr 139)] V Q := z_RC.ex (cut := [12, 38, 86]) 400 h
set_option maxRecDepth 100000 in
theorem zb87_37_139_p12 {d : Nat} {Q : Int → z_M → Prop} (l2 : Int) {V : z_M}
    (h : if 3 < l2 then (z_Ex (z_MS d) 87 Q true 86 [some (.inr (.inr 37)), some (.inr (.inr 139)), some (.inl 0), none] [] 0 0 V) else (z_g (0 ≤ l2 ∧ l2 < 4) (z_g (z_kd (z_rr true V 38 l2.toNat) = 101 ∧ z_kd 52 = 101 ∧ 36 ≤ 52 ∧ z_sum [] ≤ 8) (z_g (0 ≤ (V 37 7) ∧ 0 ≤ 0 ∧ 0 ≤ 0 ∧ 0 + (V 37 7) ≤ z_len' V (z_rr true V 38 l2.toNat) ∧ 0 + (V 37 7) ≤ 12) (z_Ex (z_MS d) 87 Q true 38 [some (.inr (.inr 37)), some (.inr (.inr 139)), some (.inl l2), some (.inl 0)] [] 0 0 (z_cpy V (z_rr true V 38 l2.toNat) 0.toNat 52 0.toNat (V 37 7).toNat)))))) : z_Ex (z_MS d) 87 Q true 12 [some (.inr (.inr 37)), some (.inr (.inr 139)), some (.inl l2), none] [] 0 0 V := z_RC.ex (cut := [12, 38, 86]) 400 h
set_option maxRecDepth 100000 in
theorem zb87_37_139_p38 {d : Nat} {Q : Int → z_M → Prop} (l2 : Int) (l3 : Int) {V : z_M}
    (h : if l3 < (V 37 7) then (z_g (0 ≤ l3 ∧ l3 < 12) (z_MS d 75 true [.inr (.inr 37), .inl (V 139 l3.toNat)] V (fun z2 V2 => if z2 = 0 then (z_Ex (z_MS d) 87 Q true 38 [some (.inr (.inr 37)), some (.inr (.inr 139)), some (.inl l2), some (.inl (z_add l3 1))] [] 0 0 V2) else (z_g (0 ≤ l2 ∧ l2 < 4) (z_g (0 ≤ l3 ∧ l3 < 12) (z_g (0 ≤ (V2 139 l3.toNat) ∧ (V2 139 l3.toNat) < 12) (z_g (z_kd (z_rr true V2 38 l2.toNat) = 101 ∧ 36 ≤ (z_rr true V2 38 l2.toNat)) (z_g (0 ≤ l3 ∧ l3 < z_len' V2 (z_rr true V2 38 l2.toNat)) (let W2 := z_up V2 (z_rr true V2 38 l2.toNat) l3.toNat (V2 52 (V2 139 l3.toNat).toNat); z_Ex (z_MS d) 87 Q true 38 [some (.inr (.inr 37)), some (.inr (.inr 139)), some (.inl l2), some (.inl (z_add l3 1))] [] 0 0 W2))))))))) else (z_Ex (z_MS d) 87 Q true 12 [some (.inr (.inr 37)), some (.inr (.inr 139)), some (.inl (z_add l2 1)), some (.inl l3)] [] 0 0 V)) : z_Ex (z_MS d) 87 Q true 38 [some (.inr (.inr 37)), some (.inr (.inr 139)), some (.inl l2), some (.inl l3)] [] 0 0 V := z_RC.ex (cut := [12, 38, 86]) 400 h
set_option maxRecDepth 100000 in
theorem zb87_37_139_p86 {d : Nat} {Q : Int → z_M → Prop} (l2 : Int) {V : z_M}
    (h : if l2 < (V 37 11) then (z_g (0 ≤ l2 ∧ l2 < 7) (z_MS d 88 true [.inr (.inr 37), .inr (.inr 139), .inl (V 50 l2.toNat)] V (fun z1 V1 => z_g (0 ≤ l2 ∧ l2 < 7) (let W1 := z_up V1 50 l2.toNat z1; z_Ex (z_MS d) 87 Q true 86 [some (.inr (.inr 37)), some (.inr (.inr 139)), some (.inl (z_add l2 1)), none] [] 0 0 W1)))) else (Q 0 V)) : z_Ex (z_MS d) 87 Q true 86 [some (.inr (.inr 37)), some (.inr (.inr 139)), some (.inl l2), none] [] 0 0 V := z_RC.ex (cut := [12, 38, 86]) 400 h
set_option maxRecDepth 100000 in
theorem zb88_37_124 {d : Nat} {Q : Int → z_M → Prop} (a1 : Int) {V : z_M}
    (h : z_Ex (z_MS d) 88 Q true 2 [some (.inr (.inr 37)), some (.inr (.inr 124)), some (.inl a1), some (.inl 0)] [] 0 0 V) : z_MS (d + 1) 88 true [.inr (.inr 37), .inr (.inr 124), .inl a1] V Q := z_RC.ex (cut := [2]) 400 h
set_option maxRecDepth 100000 in
theorem zb88_37_124_p2 {d : Nat} {Q : Int → z_M → Prop} (l2 : Int) (l3 : Int) {V : z_M}
    (h : if l3 < (V 37 7) then (if l3 < 7 then (z_g (0 ≤ l3 ∧ l3 < 7) (if (V 124 l3.toNat) = l2 then (Q l3 V) else (z_Ex (z_MS d) 88 Q true 2 [some (.inr (.inr 37)), some (.inr (.inr 124)), some (.inl l2), some (.inl (z_add l3 1))] [] 0 0 V))) else (Q l2 V)) else (Q l2 V)) : z_Ex (z_MS d) 88 Q true 2 [some (.inr (.inr 37)), some (.inr (.inr 124)), some (.inl l2), some (.inl l3)] [] 0 0 V := z_RC.ex (cut := [2]) 400 h
set_option maxRecDepth 100000 in
theorem zb88_37_139 {d : Nat} {Q : Int → z_M → Prop} (a1 : Int) {V : z_M}
    (h : z_Ex (z_MS d) 88 Q true 2 [some (.inr (.inr 37)), some (.inr (.inr 139)), some (.inl a1), some (.inl 0)] [] 0 0 V) : z_MS (d + 1) 88 true [.inr (.inr 37), .inr (.inr 139), .inl a1] V Q := z_RC.ex (cut := [2]) 400 h
set_option maxRecDepth 100000 in
theorem zb88_37_139_p2 {d : Nat} {Q : Int → z_M → Prop} (l2 : Int) (l3 : Int) {V : z_M}
    (h : if l3 < (V 37 7) then (if l3 < 12 then (z_g (0 ≤ l3 ∧ l3 < 12) (if (V 139 l3.toNat) = l2 then (Q l3 V) else (z_Ex (z_MS d) 88 Q true 2 [some (.inr (.inr 37)), some (.inr (.inr 139)), some (.inl l2), some (.inl (z_add l3 1))] [] 0 0 V))) else (Q l2 V)) else (Q l2 V)) : z_Ex (z_MS d) 88 Q true 2 [some (.inr (.inr 37)), some (.inr (.inr 139)), some (.inl l2), some (.inl l3)] [] 0 0 V := z_RC.ex (cut := [2]) 400 h
set_option maxRecDepth 100000 in
theorem zb89_37 {d : Nat} {Q : Int → z_M → Prop} (a0 : Int) (a1 : Int) {V : z_M}
    (h : z_MS d 75 true [.inr (.inr 37), .inl a0] V (fun z1 V1 => if z1 = 0 then (Q 0 V1) else (z_MS d 75 true [.inr (.inr 37), .inl a1] V1 (fun z2 V2 => if z2 = 0 then (Q 0 V2) else (z_g (0 ≤ a1 ∧ a1 < 12) (z_g (0 ≤ a0 ∧ a0 < 12) (if (V2 39 a0.toNat) < (V2 39 a1.toNat) then (Q 0 V2) else (Q 1 V2)))))))) : z_MS (d + 1) 89 true [.inr (.inr 37), .inl a0, .inl a1] V Q := z_RC.ex (cut := []) 400 h
set_option maxRecDepth 100000 in
theorem zb90_37 {d : Nat} {Q : Int → z_M → Prop} (a0 : Int) (a1 : Int) {V : z_M}
    (h : if a0 < 0 then (Q 0 V) else (if (V 37 7) < (z_add a0 (V 37 12)) then (Q 0 V) else (z_Ex (z_MS d) 90 Q true 21 [some (.inr (.inr 37)), some (.inl a0), some (.inl a1), some (.inl 0)] [] 0 0 V))) : z_MS (d + 1) 90 true [.inr (.inr 37), .inl a0, .inl a1] V Q := z_RC.ex (cut := [21]) 400 h
set_option maxRecDepth 100000 in
theorem zb90_37_p21 {d : Nat} {Q : Int → z_M → Prop} (l1 : Int) (l2 : Int) (l3 : Int) {V : z_M}
    (h : if l3 < (V 37 12) then (z_g (0 ≤ (z_add l1 l3) ∧ (z_add l1 l3) < 12) (z_g (0 ≤ l3 ∧ l3 < 8) (if l2 < (z_abs (z_sub (V 39 (z_add l1 l3).toNat) (V 51 l3.toNat))) then (Q 0 V) else (z_Ex (z_MS d) 90 Q true 21 [some (.inr (.inr 37)), some (.inl l1), some (.inl l2), some (.inl (z_add l3 1))] [] 0 0 V)))) else (Q 1 V)) : z_Ex (z_MS d) 90 Q true 21 [some (.inr (.inr 37)), some (.inl l1), some (.inl l2), some (.inl l3)] [] 0 0 V := z_RC.ex (cut := [21]) 400 h
set_option maxRecDepth 100000 in
theorem zb92_36 {d : Nat} {Q : Int → z_M → Prop} (a0 : Int) (a1 : Int) {V : z_M}
    (h : z_MS d 134 true [.inl 0, .inl a0] V (fun z1 V1 => if z1 = 0 then (z_MS d 130 true [.inr (.inr 36), .inl (-1)] V1 (fun z2 V2 => Q z2 V2)) else (z_MS d 134 true [.inl 1, .inl a1] V1 (fun z3 V3 => if z3 = 0 then (z_MS d 130 true [.inr (.inr 36), .inl (-1)] V3 (fun z6 V6 => Q z6 V6)) else (z_MS d 77 true [.inr (.inr 37), .inl a0, .inl a1, .inl 0] V3 (fun z4 V4 => z_MS d 132 true [.inr (.inr 36), .inl z4] V4 (fun z5 V5 => Q z5 V5))))))) : z_MS (d + 1) 92 true [.inr (.inr 36), .inl a0, .inl a1] V Q := z_RC.ex (cut := []) 400 h
set_option maxRecDepth 100000 in
theorem zb93_36 {d : Nat} {Q : Int → z_M → Prop} (a0 : Int) (a1 : Int) (a2 : Int) {V : z_M}
    (h : z_MS d 134 true [.inl a1, .inl a2] V (fun z1 V1 => if z1 = 0 then (z_MS d 130 true [.inr (.inr 36), .inl (-1)] V1 (fun z6 V6 => Q z6 V6)) else (z_MS d 75 true [.inr (.inr 37), .inl a0] V1 (fun z2 V2 => if z2 = 0 then (z_MS d 130 true [.inr (.inr 36), .inl (-2)] V2 (fun z5 V5 => Q z5 V5)) else (z_g (0 ≤ a1 ∧ a1 < 4) (z_MS d 136 true [.inr (.inr (z_rr true V2 38 a1.toNat)), .inl a0, .inl a2] V2 (fun z3 V3 => z_MS d 131 true [.inr (.inr 36), .inl z3] V3 (fun z4 V4 => Q z4 V4)))))))) : z_MS (d + 1) 93 true [.inr (.inr 36), .inl a0, .inl a1, .inl a2] V Q := z_RC.ex (cut := []) 400 h
set_option maxRecDepth 100000 in
theorem zb94_36 {d : Nat} {Q : Int → z_M → Prop} (a0 : Int) (a1 : Int) {V : z_M}
    (h : z_MS d 75 true [.inr (.inr 37), .inl a0] V (fun z1 V1 => if z1 = 0 then (Q (-1) V1) else (z_MS d 133 true [.inl a1, .inl 0, .inl 4] V1 (fun z2 V2 => if z2 = 0 then (Q (-1) V2) else (if a1 = 4 then (z_MS d 83 true [.inr (.inr 37), .inl a0] V2 (fun z3 V3 => Q z3 V3)) else (z_g (0 ≤ a1 ∧ a1 < 4) (z_g (z_kd (z_rr true V2 38 a1.toNat) = 101) (z_g (0 ≤ a0 ∧ a0 < z_len' V2 (z_rr true V2 38 a1.toNat)) (Q (V2 (z_rr true V2 38 a1.toNat) a0.toNat) V2))))))))) : z_MS (d + 1) 94 true [.inr (.inr 36), .inl a0, .inl a1] V Q := z_RC.ex (cut := []) 400 h
set_option maxRecDepth 100000 in
theorem zb95_36 {d : Nat} {Q : Int → z_M → Prop} (a0 : Int) (a1 : Int) {V : z_M}
    (h : z_MS d 135 true [.inl 0, .inl a0] V (fun z1 V1 => if z1 = 0 then (z_MS d 130 true [.inr (.inr 36), .inl (-1)] V1 (fun z2 V2 => Q z2 V2)) else (z_MS d 135 true [.inl 1, .inl a1] V1 (fun z3 V3 => if z3 = 0 then (z_MS d 130 true [.inr (.inr 36), .inl (-1)] V3 (fun z6 V6 => Q z6 V6)) else (z_MS d 78 true [.inr (.inr 37), .inl a0, .inl a1] V3 (fun z4 V4 => z_MS d 132 true [.inr (.inr 36), .inl z4] V4 (fun z5 V5 => Q z5 V5))))))) : z_MS (d + 1) 95 true [.inr (.inr 36), .inl a0, .inl a1] V Q := z_RC.ex (cut := []) 400 h
set_option maxRecDepth 100000 in
theorem zb96_36 {d : Nat} {Q : Int → z_M → Prop} (a0 : Int) (a1 : Int) (a2 : Int) {V : z_M}
    (h : z_MS d 135 true [.inl a1, .inl a2] V (fun z1 V1 => if z1 = 0 then (z_MS d 130 true [.inr (.inr 36), .inl (-1)] V1 (fun z6 V6 => Q z6 V6)) else (z_MS d 76 true [.inr (.inr 37), .inl a0] V1 (fun z2 V2 => if z2 = 0 then (z_MS d 130 true [.inr (.inr 36), .inl (-2)] V2 (fun z5 V5 => Q z5 V5)) else (z_g (0 ≤ a1 ∧ a1 < 2) (z_MS d 136 true [.inr (.inr (z_rr true V2 43 a1.toNat)), .inl a0, .inl a2] V2 (fun z3 V3 => z_MS d 131 true [.inr (.inr 36), .inl z3] V3 (fun z4 V4 => Q z4 V4)))))))) : z_MS (d + 1) 96 true [.inr (.inr 36), .inl a0, .inl a1, .inl a2] V Q := z_RC.ex (cut := []) 400 h
set_option maxRecDepth 100000 in
theorem zb97_36 {d : Nat} {Q : Int → z_M → Prop} (a0 : Int) (a1 : Int) {V : z_M}
    (h : z_MS d 133 true [.inl a0, .inl 0, .inl 1] V (fun z1 V1 => if z1 = 0 then (z_MS d 130 true [.inr (.inr 36), .inl (-1)] V1 (fun z2 V2 => Q z2 V2)) else (z_g (0 ≤ a0 ∧ a0 < 2) (z_MS d 133 true [.inl a1, .inl 0, .inl (V1 5 a0.toNat)] V1 (fun z3 V3 => if z3 = 0 then (z_MS d 130 true [.inr (.inr 36), .inl (-1)] V3 (fun z6 V6 => Q z6 V6)) else (z_MS d 136 true [.inr (.inr 46), .inl a0, .inl a1] V3 (fun z4 V4 => z_MS d 131 true [.inr (.inr 36), .inl z4] V4 (fun z5 V5 => Q z5 V5)))))))) : z_MS (d + 1) 97 true [.inr (.inr 36), .inl a0, .inl a1] V Q := z_RC.ex (cut := []) 400 h
set_option maxRecDepth 100000 in
theorem zb98_36 {d : Nat} {Q : Int → z_M → Prop} (a0 : Int) (a1 : Int) (a2 : Int) (a3 : Int) (a4 : Int) {V : z_M}
    (h : if 400 < (z_add (V 87 1) 20) then (Q (-1) V) else (z_MS d 71 true [.inr (.inr 87), .inl a0] V (fun z1 V1 => z_MS d 71 true [.inr (.inr 87), .inl a1] V1 (fun z2 V2 => z_MS d 71 true [.inr (.inr 87), .inl a2] V2 (fun z3 V3 => z_MS d 71 true [.inr (.inr 87), .inl a3] V3 (fun z4 V4 => z_MS d 71 true [.inr (.inr 87), .inl a4] V4 (fun z5 V5 => Q (V5 87 1) V5))))))) : z_MS (d + 1) 98 true [.inr (.inr 36), .inl a0, .inl a1, .inl a2, .inl a3, .inl a4] V Q := z_RC.ex (cut := []) 400 h
set_option maxRecDepth 100000 in
theorem zb99_36 {d : Nat} {Q : Int → z_M → Prop} (a0 : Int) {V : z_M}
    (h : z_MS d 133 true [.inl a0, .inl 0, .inl (V 87 1)] V (fun z1 V1 => if z1 = 0 then (Q (-1) V1) else (let W1 := z_up V1 87 1 a0; Q a0 W1))) : z_MS (d + 1) 99 true [.inr (.inr 36), .inl a0] V Q := z_RC.ex (cut := []) 400 h
set_option maxRecDepth 100000 in
theorem zb100_36 {d : Nat} {Q : Int → z_M → Prop}  {V : z_M}
    (h : if (V 87 1) = 0 then (z_MS d 130 true [.inr (.inr 36), .inl (-6)] V (fun z1 V1 => Q z1 V1)) else (let W1 := z_up V 36 13 0; z_Ex (z_MS d) 100 Q true 26 [some (.inr (.inr 36)), some (.inl 0), some (.inl 0)] [] 0 0 W1)) : z_MS (d + 1) 100 true [.inr (.inr 36)] V Q := z_RC.ex (cut := [26]) 400 h
set_option maxRecDepth 100000 in
theorem zb100_36_p26 {d : Nat} {Q : Int → z_M → Prop} (l1 : Int) (l2 : Int) {V : z_M}
    (h : if l2 < (V 87 1) then (z_MS d 137 true [.inr (.inr 36), .inl l2] V (fun z3 V3 => if z3 = 0 then (let W3 := z_up V3 36 13 (z_add (V3 36 13) 1); z_Ex (z_MS d) 100 Q true 26 [some (.inr (.inr 36)), some (.inl l1), some (.inl (z_add l2 3))] [] 0 0 W3) else (z_Ex (z_MS d) 100 Q true 26 [some (.inr (.inr 36)), some (.inl (z_add l1 1)), some (.inl (z_add l2 3))] [] 0 0 V3))) else (let W2 := z_up V 87 1 0; z_MS d 131 true [.inr (.inr 36), .inl l1] W2 (fun z2 V2 => Q z2 V2))) : z_Ex (z_MS d) 100 Q true 26 [some (.inr (.inr 36)), some (.inl l1), some (.inl l2)] [] 0 0 V := z_RC.ex (cut := [26]) 400 h
set_option maxRecDepth 100000 in
theorem zb101_36 {d : Nat} {Q : Int → z_M → Prop}  {V : z_M}
    (h : Q (V 36 13) V) : z_MS (d + 1) 101 true [.inr (.inr 36)] V Q := z_RC.ex (cut := []) 400 h
set_option maxRecDepth 100000 in
theorem zb102_36 {d : Nat} {Q : Int → z_M → Prop}  {V : z_M}
    (h : if (V 37 9) < 6 then (z_MS d 25 true [.inr (.inr 89), .inr (.inr 87)] V (fun z1 V1 => let W1 := z_up V1 36 14 (V1 89 9); let W2 := z_up W1 87 1 0; z_g (¬ z1.toNat = 7) (if ((z1.toNat : Int)) = 0 then (z_MS d 130 true [.inr (.inr 36), .inl (-6)] W2 (fun z4 V4 => Q z4 V4)) else (z_MS d 79 true [.inr (.inr 37), .inr (.inr (z1.toNat))] W2 (fun z2 V2 => z_MS d 132 true [.inr (.inr 36), .inl z2] V2 (fun z3 V3 => Q z3 V3)))))) else (let W3 := z_up V 87 1 0; z_MS d 130 true [.inr (.inr 36), .inl (-5)] W3 (fun z5 V5 => Q z5 V5))) : z_MS (d + 1) 102 true [.inr (.inr 36)] V Q := z_RC.ex (cut := []) 400 h
set_option maxRecDepth 100000 in
theorem zb103_36 {d : Nat} {Q : Int → z_M → Prop}  {V : z_M}
    (h : Q (V 36 14) V) : z_MS (d + 1) 103 true [.inr (.inr 36)] V Q := z_RC.ex (cut := []) 400 h
set_option maxRecDepth 100000 in
theorem zb104_36 {d : Nat} {Q : Int → z_M → Prop} (a0 : Int) {V : z_M}
    (h : if a0 = (-1) then (let W1 := z_up V 37 10 a0; z_MS d 131 true [.inr (.inr 36), .inl (V 37 10)] W1 (fun z1 V1 => Q z1 V1)) else (z_MS d 133 true [.inl a0, .inl 0, .inl (z_sub (V 37 9) 1)] V (fun z2 V2 => if z2 = 0 then (z_MS d 130 true [.inr (.inr 36), .inl (-2)] V2 (fun z4 V4 => Q z4 V4)) else (let W2 := z_up V2 37 10 a0; z_MS d 131 true [.inr (.inr 36), .inl (V2 37 10)] W2 (fun z3 V3 => Q z3 V3))))) : z_MS (d + 1) 104 true [.inr (.inr 36), .inl a0] V Q := z_RC.ex (cut := []) 400 h
set_option maxRecDepth 100000 in
theorem zb105_36 {d : Nat} {Q : Int → z_M → Prop} (a0 : Int) (a1 : Int) {V : z_M}
    (h : z_MS d 75 true [.inr (.inr 37), .inl a0] V (fun z1 V1 => if z1 = 0 then (Q (-1) V1) else (z_MS d 76 true [.inr (.inr 37), .inl a1] V1 (fun z2 V2 => if z2 = 0 then (Q (-1) V2) else (z_MS d 83 true [.inr (.inr 37), .inl a0] V2 (fun z3 V3 => z_MS d 16 true [.inr (.inr 94), .inr (.inr 37), .inl a1, .inl a0, .inl a0, .inl z3] V3 (fun z4 V4 => if z4 = 0 then (Q 0 V4) else (Q 1 V4)))))))) : z_MS (d + 1) 105 true [.inr (.inr 36), .inl a0, .inl a1] V Q := z_RC.ex (cut := []) 400 h
set_option maxRecDepth 100000 in
theorem zb106_36 {d : Nat} {Q : Int → z_M → Prop} (a0 : Int) {V : z_M}
    (h : z_MS d 76 true [.inr (.inr 37), .inl a0] V (fun z1 V1 => if z1 = 0 then (Q (-1) V1) else (z_MS d 138 true [.inr (.inr 36), .inl a0] V1 (fun z2 V2 => z_MS d 53 true [.inr (.inr 97), .inl a0] V2 (fun z3 V3 => Q (z_shr z3 1) V3))))) : z_MS (d + 1) 106 true [.inr (.inr 36), .inl a0] V Q := z_RC.ex (cut := []) 400 h
set_option maxRecDepth 100000 in
theorem zb107_36 {d : Nat} {Q : Int → z_M → Prop} (a0 : Int) (a1 : Int) (a2 : Int) {V : z_M}
    (h : z_MS d 76 true [.inr (.inr 37), .inl a0] V (fun z1 V1 => if z1 = 0 then (Q (-1) V1) else (z_MS d 75 true [.inr (.inr 37), .inl a1] V1 (fun z2 V2 => if z2 = 0 then (Q (-1) V2) else (z_MS d 138 true [.inr (.inr 36), .inl a0] V2 (fun z3 V3 => z_MS d 56 true [.inr (.inr 97), .inl a0, .inl (z_add a1 1)] V3 (fun z4 V4 => if a2 = (-1) then (Q z4 V4) else (z_MS d 133 true [.inl a2, .inl 0, .inl (z_sub z4 1)] V4 (fun z5 V5 => if z5 = 0 then (Q (-1) V5) else (z_g (0 ≤ a2 ∧ a2 < 12) (Q (V5 116 a2.toNat) V5))))))))))) : z_MS (d + 1) 107 true [.inr (.inr 36), .inl a0, .inl a1, .inl a2] V Q := z_RC.ex (cut := []) 400 h
set_option maxRecDepth 100000 in
theorem zb108_36 {d : Nat} {Q : Int → z_M → Prop} (a0 : Int) (a1 : Int) {V : z_M}
    (h : z_MS d 133 true [.inl a1, .inl 0, .inl 3] V (fun z1 V1 => if z1 = 0 then (Q (-1) V1) else (z_MS d 141 true [.inr (.inr 36), .inl 0, .inl a0, .inl a1] V1 (fun z2 V2 => Q z2 V2)))) : z_MS (d + 1) 108 true [.inr (.inr 36), .inl a0, .inl a1] V Q := z_RC.ex (cut := []) 400 h
set_option maxRecDepth 100000 in
theorem zb109_36 {d : Nat} {Q : Int → z_M → Prop} (a0 : Int) (a1 : Int) {V : z_M}
    (h : z_MS d 133 true [.inl a1, .inl 0, .inl 2] V (fun z1 V1 => if z1 = 0 then (Q (-1) V1) else (z_MS d 141 true [.inr (.inr 36), .inl 1, .inl a0, .inl a1] V1 (fun z2 V2 => Q z2 V2)))) : z_MS (d + 1) 109 true [.inr (.inr 36), .inl a0, .inl a1] V Q := z_RC.ex (cut := []) 400 h
set_option maxRecDepth 100000 in
theorem zb110_36 {d : Nat} {Q : Int → z_M → Prop} (a0 : Int) (a1 : Int) {V : z_M}
    (h : z_MS d 133 true [.inl a1, .inl 0, .inl 2] V (fun z1 V1 => if z1 = 0 then (Q (-1) V1) else (z_MS d 141 true [.inr (.inr 36), .inl 2, .inl a0, .inl a1] V1 (fun z2 V2 => Q z2 V2)))) : z_MS (d + 1) 110 true [.inr (.inr 36), .inl a0, .inl a1] V Q := z_RC.ex (cut := []) 400 h
