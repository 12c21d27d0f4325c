/-! blocks of rows: printed by a program -/
set_option maxRecDepth 100000 in
theorem zb111_36 {d : Nat} {Q : Int → z_M → Prop} (a0 : Int) (a1 : Int) {V : z_M}
    (h : z_MS d 76 true [.inr (.inr 37), .inl a0] V (fun z1 V1 => if z1 = 0 then (z_MS d 130 true [.inr (.inr 36), .inl (-2)] V1 (fun z2 V2 => Q z2 V2)) else (z_MS d 75 true [.inr (.inr 37), .inl a1] V1 (fun z3 V3 => if z3 = 0 then (z_MS d 130 true [.inr (.inr 36), .inl (-2)] V3 (fun z6 V6 => Q z6 V6)) else (z_MS d 80 true [.inr (.inr 37), .inl a0, .inl a1] V3 (fun z4 V4 => z_MS d 132 true [.inr (.inr 36), .inl z4] V4 (fun z5 V5 => Q z5 V5))))))) : z_MS (d + 1) 111 true [.inr (.inr 36), .inl a0, .inl a1] V Q := z_RC.ex (cut := []) 400 h
set_option maxRecDepth 100000 in
theorem zb112_36 {d : Nat} {Q : Int → z_M → Prop} (a0 : Int) {V : z_M}
    (h : z_MS d 133 true [.inl a0, .inl 0, .inl (z_sub (V 37 11) 1)] V (fun z1 V1 => if z1 = 0 then (z_MS d 130 true [.inr (.inr 36), .inl (-2)] V1 (fun z4 V4 => Q z4 V4)) else (z_MS d 82 true [.inr (.inr 37), .inl a0] V1 (fun z2 V2 => z_MS d 131 true [.inr (.inr 36), .inl (V2 37 11)] V2 (fun z3 V3 => Q z3 V3))))) : z_MS (d + 1) 112 true [.inr (.inr 36), .inl a0] V Q := z_RC.ex (cut := []) 400 h
set_option maxRecDepth 100000 in
theorem zb113_36 {d : Nat} {Q : Int → z_M → Prop} (a0 : Int) {V : z_M}
    (h : z_MS d 133 true [.inl a0, .inl 0, .inl 2] V (fun z1 V1 => if z1 = 0 then (Q (-1) V1) else (z_MS d 140 true [.inr (.inr 36)] V1 (fun z2 V2 => if a0 = 0 then (Q z2 V2) else (if a0 = 1 then (z_MS d 62 true [.inr (.inr 97)] V2 (fun z4 V4 => Q z4 V4)) else (z_MS d 64 true [.inr (.inr 97)] V2 (fun z3 V3 => Q z3 V3))))))) : z_MS (d + 1) 113 true [.inr (.inr 36), .inl a0] V Q := z_RC.ex (cut := []) 400 h
set_option maxRecDepth 100000 in
theorem zb114_36 {d : Nat} {Q : Int → z_M → Prop} (a0 : Int) {V : z_M}
    (h : z_MS d 76 true [.inr (.inr 37), .inl a0] V (fun z1 V1 => if z1 = 0 then (Q (-1) V1) else (z_MS d 140 true [.inr (.inr 36)] V1 (fun z2 V2 => z_g (0 ≤ a0 ∧ a0 < 6) (if (V2 115 a0.toNat) = 0 then (Q 100 V2) else (Q (z_sub (V2 115 a0.toNat) 1) V2)))))) : z_MS (d + 1) 114 true [.inr (.inr 36), .inl a0] V Q := z_RC.ex (cut := []) 400 h
set_option maxRecDepth 100000 in
theorem zb115_36 {d : Nat} {Q : Int → z_M → Prop} (a0 : Int) {V : z_M}
    (h : if (V 119 1) = 0 then (z_MS d 139 true [.inr (.inr 36)] V (fun z2 V2 => z_MS d 45 true [.inr (.inr 118), .inr (.inr 37), .inr (.inr 97)] V2 (fun z3 V3 => z_MS d 69 true [.inr (.inr 119), .inl a0, .inl (V3 37 11)] V3 (fun z4 V4 => Q z4 V4)))) else (z_MS d 69 true [.inr (.inr 119), .inl a0, .inl (V 37 11)] V (fun z1 V1 => Q z1 V1))) : z_MS (d + 1) 115 true [.inr (.inr 36), .inl a0] V Q := z_RC.ex (cut := []) 400 h
set_option maxRecDepth 100000 in
theorem zb116_36 {d : Nat} {Q : Int → z_M → Prop} (a0 : Int) {V : z_M}
    (h : if 6 < (V 37 7) then (Q (-1) V) else (z_MS d 2 true [.inr (.inr 122), .inr (.inr 37), .inr (.inr 97), .inr (.inr 94)] V (fun z1 V1 => z_MS d 69 true [.inr (.inr 123), .inl a0, .inl (V1 37 7)] V1 (fun z2 V2 => Q z2 V2)))) : z_MS (d + 1) 116 true [.inr (.inr 36), .inl a0] V Q := z_RC.ex (cut := []) 400 h
set_option maxRecDepth 100000 in
theorem zb117_36 {d : Nat} {Q : Int → z_M → Prop}  {V : z_M}
    (h : if 6 < (V 37 7) then (z_MS d 130 true [.inr (.inr 36), .inl (-3)] V (fun z2 V2 => Q z2 V2)) else (z_MS d 2 true [.inr (.inr 122), .inr (.inr 37), .inr (.inr 97), .inr (.inr 94)] V (fun z1 V1 => z_Ex (z_MS d) 117 Q true 42 [some (.inr (.inr 36)), some (.inl 0), some (.inl 0)] [] 0 0 V1))) : z_MS (d + 1) 117 true [.inr (.inr 36)] V Q := z_RC.ex (cut := [42]) 400 h
set_option maxRecDepth 100000 in
theorem zb117_36_p42 {d : Nat} {Q : Int → z_M → Prop} (l1 : Int) (l2 : Int) {V : z_M}
    (h : if l2 < (V 37 7) then (z_g (0 ≤ l2 ∧ l2 < 7) (if (V 124 l2.toNat) = l2 then (z_Ex (z_MS d) 117 Q true 42 [some (.inr (.inr 36)), some (.inl l1), some (.inl (z_add l2 1))] [] 0 0 V) else (z_Ex (z_MS d) 117 Q true 42 [some (.inr (.inr 36)), some (.inl (z_add l1 1)), some (.inl (z_add l2 1))] [] 0 0 V))) else (z_MS d 87 true [.inr (.inr 37), .inr (.inr 124)] V (fun z3 V3 => z_MS d 131 true [.inr (.inr 36), .inl l1] V3 (fun z4 V4 => Q z4 V4)))) : z_Ex (z_MS d) 117 Q true 42 [some (.inr (.inr 36)), some (.inl l1), some (.inl l2)] [] 0 0 V := z_RC.ex (cut := [42]) 400 h
set_option maxRecDepth 100000 in
theorem zb118_36 {d : Nat} {Q : Int → z_M → Prop} (a0 : Int) (a1 : Int) {V : z_M}
    (h : z_MS d 75 true [.inr (.inr 37), .inl a0] V (fun z1 V1 => if z1 = 0 then (z_MS d 130 true [.inr (.inr 36), .inl (-2)] V1 (fun z2 V2 => Q z2 V2)) else (z_MS d 75 true [.inr (.inr 37), .inl a1] V1 (fun z3 V3 => if z3 = 0 then (z_MS d 130 true [.inr (.inr 36), .inl (-2)] V3 (fun z7 V7 => Q z7 V7)) else (if a0 = a1 then (z_MS d 130 true [.inr (.inr 36), .inl (-3)] V3 (fun z6 V6 => Q z6 V6)) else (z_g (0 ≤ 12 ∧ 0 ≤ 0 ∧ 0 ≤ 0 ∧ 0 + 12 ≤ 12 ∧ 0 + 12 ≤ 12) (z_g (0 ≤ a0 ∧ a0 < 12) (let W1 := z_up (z_cpy V3 6 0.toNat 139 0.toNat 12.toNat) 139 a0.toNat a1; z_g (0 ≤ a1 ∧ a1 < 12) (let W2 := z_up W1 139 a1.toNat a0; z_MS d 87 true [.inr (.inr 37), .inr (.inr 139)] W2 (fun z4 V4 => z_MS d 131 true [.inr (.inr 36), .inl 0] V4 (fun z5 V5 => Q z5 V5))))))))))) : z_MS (d + 1) 118 true [.inr (.inr 36), .inl a0, .inl a1] V Q := z_RC.ex (cut := []) 400 h
set_option maxRecDepth 100000 in
theorem zb119_36 {d : Nat} {Q : Int → z_M → Prop} (a0 : Int) (a1 : Int) {V : z_M}
    (h : z_MS d 133 true [.inl a0, .inl 0, .inl (z_sub (z_shl 1 (V 37 7)) 1)] V (fun z1 V1 => if z1 = 0 then (Q (-1) V1) else (z_MS d 133 true [.inl a1, .inl 0, .inl 2] V1 (fun z2 V2 => if z2 = 0 then (Q (-1) V2) else (z_MS d 139 true [.inr (.inr 36)] V2 (fun z3 V3 => z_Ex (z_MS d) 119 Q true 55 [some (.inr (.inr 36)), some (.inl a0), some (.inl a1), some (.inl 0), some (.inl (-1)), some (.inl (z_sub (z_shl 1 (V3 37 8)) 1)), some (.inl 0)] [] 0 0 V3)))))) : z_MS (d + 1) 119 true [.inr (.inr 36), .inl a0, .inl a1] V Q := z_RC.ex (cut := [55]) 400 h
set_option maxRecDepth 100000 in
theorem zb119_36_p55 {d : Nat} {Q : Int → z_M → Prop} (l1 : Int) (l2 : Int) (l3 : Int) (l4 : Int) (l5 : Int) (l6 : Int) {V : z_M}
    (h : if l6 < (z_shl 1 (V 37 8)) then (z_MS d 142 true [.inr (.inr 36), .inl l6] V (fun z4 V4 => if z4 = l1 then (if l4 = (-1) then (z_Ex (z_MS d) 119 Q true 55 [some (.inr (.inr 36)), some (.inl l1), some (.inl l2), some (.inl (z_add l3 1)), some (.inl l6), some (.inl (z_and l5 l6)), some (.inl (z_add l6 1))] [] 0 0 V4) else (z_MS d 256 true [.inl l6] V4 (fun z5 V5 => z_MS d 256 true [.inl l4] V5 (fun z6 V6 => if z5 < z6 then (z_Ex (z_MS d) 119 Q true 55 [some (.inr (.inr 36)), some (.inl l1), some (.inl l2), some (.inl (z_add l3 1)), some (.inl l6), some (.inl (z_and l5 l6)), some (.inl (z_add l6 1))] [] 0 0 V6) else (z_Ex (z_MS d) 119 Q true 55 [some (.inr (.inr 36)), some (.inl l1), some (.inl l2), some (.inl (z_add l3 1)), some (.inl l4), some (.inl (z_and l5 l6)), some (.inl (z_add l6 1))] [] 0 0 V6))))) else (z_Ex (z_MS d) 119 Q true 55 [some (.inr (.inr 36)), some (.inl l1), some (.inl l2), some (.inl l3), some (.inl l4), some (.inl l5), some (.inl (z_add l6 1))] [] 0 0 V4))) else (if l2 = 0 then (Q l3 V) else (if l3 = 0 then (Q (-1) V) else (if l2 = 1 then (Q l4 V) else (Q l5 V))))) : z_Ex (z_MS d) 119 Q true 55 [some (.inr (.inr 36)), some (.inl l1), some (.inl l2), some (.inl l3), some (.inl l4), some (.inl l5), some (.inl l6)] [] 0 0 V := z_RC.ex (cut := [55]) 400 h
set_option maxRecDepth 100000 in
theorem zb120_36 {d : Nat} {Q : Int → z_M → Prop} (a0 : Int) {V : z_M}
    (h : z_MS d 143 true [.inr (.inr 36)] V (fun z1 V1 => if a0 = (-1) then (Q (z_sub (V1 37 7) z1) V1) else (z_MS d 133 true [.inl a0, .inl 0, .inl (z_sub z1 1)] V1 (fun z2 V2 => if z2 = 0 then (Q (-1) V2) else (z_Ex (z_MS d) 120 Q true 41 [some (.inr (.inr 36)), some (.inl a0), some (.inl z1), some (.inl (-1)), some (.inl (-1)), some (.inl 0)] [] 0 0 V2))))) : z_MS (d + 1) 120 true [.inr (.inr 36), .inl a0] V Q := z_RC.ex (cut := [41]) 400 h
set_option maxRecDepth 100000 in
theorem zb120_36_p41 {d : Nat} {Q : Int → z_M → Prop} (l1 : Int) (l2 : Int) (l3 : Int) (l4 : Int) (l5 : Int) {V : z_M}
    (h : if l5 < (V 37 7) then (if l3 < l1 then (z_g (0 ≤ l5 ∧ l5 < 12) (if (V 139 l5.toNat) = (z_sub (z_sub l2 l3) 1) then (if l4 = (-1) then (z_Ex (z_MS d) 120 Q true 41 [some (.inr (.inr 36)), some (.inl l1), some (.inl l2), some (.inl (z_add l3 1)), some (.inl l5), some (.inl (z_add l5 1))] [] 0 0 V) else (z_MS d 89 true [.inr (.inr 37), .inl l4, .inl l5] V (fun z3 V3 => if z3 = 0 then (z_Ex (z_MS d) 120 Q true 41 [some (.inr (.inr 36)), some (.inl l1), some (.inl l2), some (.inl l3), some (.inl l4), some (.inl (z_add l5 1))] [] 0 0 V3) else (z_Ex (z_MS d) 120 Q true 41 [some (.inr (.inr 36)), some (.inl l1), some (.inl l2), some (.inl (z_add l3 1)), some (.inl l5), some (.inl (z_add l5 1))] [] 0 0 V3)))) else (z_Ex (z_MS d) 120 Q true 41 [some (.inr (.inr 36)), some (.inl l1), some (.inl l2), some (.inl l3), some (.inl l4), some (.inl (z_add l5 1))] [] 0 0 V))) else (Q l4 V)) else (Q l4 V)) : z_Ex (z_MS d) 120 Q true 41 [some (.inr (.inr 36)), some (.inl l1), some (.inl l2), some (.inl l3), some (.inl l4), some (.inl l5)] [] 0 0 V := z_RC.ex (cut := [41]) 400 h
set_option maxRecDepth 100000 in
theorem zb121_36 {d : Nat} {Q : Int → z_M → Prop} (a0 : Int) {V : z_M}
    (h : z_MS d 134 true [.inl 0, .inl a0] V (fun z1 V1 => if z1 = 0 then (z_MS d 130 true [.inr (.inr 36), .inl (-1)] V1 (fun z4 V4 => Q z4 V4)) else (z_MS d 81 true [.inr (.inr 37), .inl a0] V1 (fun z2 V2 => z_MS d 132 true [.inr (.inr 36), .inl z2] V2 (fun z3 V3 => Q z3 V3))))) : z_MS (d + 1) 121 true [.inr (.inr 36), .inl a0] V Q := z_RC.ex (cut := []) 400 h
set_option maxRecDepth 100000 in
theorem zb122_36 {d : Nat} {Q : Int → z_M → Prop}  {V : z_M}
    (h : let W1 := z_up V 37 12 0; Q (V 37 12) W1) : z_MS (d + 1) 122 true [.inr (.inr 36)] V Q := z_RC.ex (cut := []) 400 h
set_option maxRecDepth 100000 in
theorem zb123_36 {d : Nat} {Q : Int → z_M → Prop} (a0 : Int) (a1 : Int) {V : z_M}
    (h : z_MS d 133 true [.inl a0, .inl 0, .inl 8] V (fun z1 V1 => if z1 = 0 then (Q (-1) V1) else (if (V1 37 12) = 0 then (Q (-1) V1) else (if a1 < (-1) then (Q (-1) V1) else (z_Ex (z_MS d) 123 Q true 32 [some (.inr (.inr 36)), some (.inl a0), some (.inl a1), some (.inl 0), some (.inl 0)] [] 0 0 V1))))) : z_MS (d + 1) 123 true [.inr (.inr 36), .inl a0, .inl a1] V Q := z_RC.ex (cut := [32]) 400 h
set_option maxRecDepth 100000 in
theorem zb123_36_p32 {d : Nat} {Q : Int → z_M → Prop} (l1 : Int) (l2 : Int) (l3 : Int) (l4 : Int) {V : z_M}
    (h : if l4 < (V 37 7) then (z_MS d 90 true [.inr (.inr 37), .inl l4, .inl l1] V (fun z2 V2 => if z2 = 0 then (z_Ex (z_MS d) 123 Q true 32 [some (.inr (.inr 36)), some (.inl l1), some (.inl l2), some (.inl l3), some (.inl (z_add l4 1))] [] 0 0 V2) else (if l3 = l2 then (Q l4 V2) else (z_Ex (z_MS d) 123 Q true 32 [some (.inr (.inr 36)), some (.inl l1), some (.inl l2), some (.inl (z_add l3 1)), some (.inl (z_add l4 1))] [] 0 0 V2)))) else (if l2 = (-1) then (Q l3 V) else (Q (-1) V))) : z_Ex (z_MS d) 123 Q true 32 [some (.inr (.inr 36)), some (.inl l1), some (.inl l2), some (.inl l3), some (.inl l4)] [] 0 0 V := z_RC.ex (cut := [32]) 400 h
set_option maxRecDepth 100000 in
theorem zb124_36 {d : Nat} {Q : Int → z_M → Prop} (a0 : Int) (a1 : Int) {V : z_M}
    (h : z_MS d 133 true [.inl a0, .inl 0, .inl 1000000] V (fun z1 V1 => if z1 = 0 then (z_MS d 130 true [.inr (.inr 36), .inl (-1)] V1 (fun z2 V2 => Q z2 V2)) else (z_MS d 133 true [.inl a1, .inl 1, .inl 20] V1 (fun z3 V3 => if z3 = 0 then (z_MS d 130 true [.inr (.inr 36), .inl (-1)] V3 (fun z7 V7 => Q z7 V7)) else (z_MS d 139 true [.inr (.inr 36)] V3 (fun z4 V4 => z_MS d 12 true [.inr (.inr 134), .inr (.inr 37), .inr (.inr 97), .inl a0, .inl a1] V4 (fun z5 V5 => z_MS d 131 true [.inr (.inr 36), .inl z5] V5 (fun z6 V6 => Q z6 V6)))))))) : z_MS (d + 1) 124 true [.inr (.inr 36), .inl a0, .inl a1] V Q := z_RC.ex (cut := []) 400 h
set_option maxRecDepth 100000 in
theorem zb125_36 {d : Nat} {Q : Int → z_M → Prop} (a0 : Int) (a1 : Int) {V : z_M}
    (h : z_MS d 133 true [.inl a0, .inl 0, .inl (z_sub (V 134 1) 1)] V (fun z1 V1 => if z1 = 0 then (Q (-1) V1) else (z_MS d 133 true [.inl a1, .inl 0, .inl 2] V1 (fun z2 V2 => if z2 = 0 then (Q (-1) V2) else (z_g (0 ≤ a1 ∧ a1 < 3) (z_g (z_kd (z_rr true V2 135 a1.toNat) = 101) (z_g (0 ≤ a0 ∧ a0 < z_len' V2 (z_rr true V2 135 a1.toNat)) (Q (V2 (z_rr true V2 135 a1.toNat) a0.toNat) V2)))))))) : z_MS (d + 1) 125 true [.inr (.inr 36), .inl a0, .inl a1] V Q := z_RC.ex (cut := []) 400 h
set_option maxRecDepth 100000 in
theorem zb126_36 {d : Nat} {Q : Int → z_M → Prop} (a0 : Int) {V : z_M}
    (h : z_MS d 133 true [.inl a0, .inl 0, .inl 1] V (fun z1 V1 => if z1 = 0 then (z_MS d 130 true [.inr (.inr 36), .inl (-1)] V1 (fun z4 V4 => Q z4 V4)) else (z_g (0 ≤ a0 ∧ a0 < 2) (z_g (z_kd (z_rr true V1 53 a0.toNat) = z_rc 73 ∧ 0 < z_rc 73) (z_MS d 73 true [.inr (.inr (z_rr true V1 53 a0.toNat)), .inr (.inr 37)] V1 (fun z2 V2 => z_g (0 ≤ a0 ∧ a0 < 2) (let W1 := z_up V2 86 a0.toNat 1; z_MS d 131 true [.inr (.inr 36), .inl 0] W1 (fun z3 V3 => Q z3 V3)))))))) : z_MS (d + 1) 126 true [.inr (.inr 36), .inl a0] V Q := z_RC.ex (cut := []) 400 h
set_option maxRecDepth 100000 in
theorem zb127_36 {d : Nat} {Q : Int → z_M → Prop} (a0 : Int) {V : z_M}
    (h : z_MS d 133 true [.inl a0, .inl 0, .inl 1] V (fun z1 V1 => if z1 = 0 then (z_MS d 130 true [.inr (.inr 36), .inl (-1)] V1 (fun z5 V5 => Q z5 V5)) else (z_g (0 ≤ a0 ∧ a0 < 2) (if (V1 86 a0.toNat) = 0 then (z_MS d 130 true [.inr (.inr 36), .inl (-2)] V1 (fun z4 V4 => Q z4 V4)) else (z_g (0 ≤ a0 ∧ a0 < 2) (z_MS d 73 true [.inr (.inr 37), .inr (.inr (z_rr true V1 53 a0.toNat))] V1 (fun z2 V2 => z_MS d 131 true [.inr (.inr 36), .inl 0] V2 (fun z3 V3 => Q z3 V3)))))))) : z_MS (d + 1) 127 true [.inr (.inr 36), .inl a0] V Q := z_RC.ex (cut := []) 400 h
set_option maxRecDepth 100000 in
theorem zb128_36 {d : Nat} {Q : Int → z_M → Prop} (a0 : Int) {V : z_M}
    (h : if a0 = 0 then (Q (V 37 7) V) else (if a0 = 1 then (Q (V 37 8) V) else (if a0 = 2 then (Q (V 37 9) V) else (if a0 = 3 then (Q (V 37 11) V) else (if a0 = 4 then (z_MS d 84 true [.inr (.inr 37)] V (fun z1 V1 => Q z1 V1)) else (if a0 = 5 then (Q (V 37 12) V) else (if a0 = 6 then (Q (V 87 1) V) else (if a0 = 7 then (Q (V 140 1) V) else (if a0 = 8 then (Q (V 140 2) V) else (if a0 = 9 then (Q (V 140 3) V) else (if a0 = 10 then (Q (V 140 5) V) else (if a0 = 11 then (Q (V 140 6) V) else (if a0 = 12 then (Q (V 37 10) V) else (if a0 = 13 then (Q (V 46 0) V) else (if a0 = 14 then (Q (V 46 1) V) else (Q (-1) V)))))))))))))))) : z_MS (d + 1) 128 true [.inr (.inr 36), .inl a0] V Q := z_RC.ex (cut := []) 400 h
set_option maxRecDepth 100000 in
theorem zb129_36 {d : Nat} {Q : Int → z_M → Prop}  {V : z_M}
    (h : Q (V 36 15) V) : z_MS (d + 1) 129 true [.inr (.inr 36)] V Q := z_RC.ex (cut := []) 400 h
set_option maxRecDepth 100000 in
theorem zb130_36 {d : Nat} {Q : Int → z_M → Prop} (a0 : Int) {V : z_M}
    (h : let W1 := z_up V 36 15 a0; z_MS d 133 true [.inl (z_neg a0), .inl 0, .inl (z_sub 7 1)] W1 (fun z1 V1 => if z1 = 0 then (Q a0 V1) else (z_g (0 ≤ (z_neg a0) ∧ (z_neg a0) < 7) (z_g (0 ≤ (z_neg a0) ∧ (z_neg a0) < 7) (let W2 := z_up V1 140 (z_neg a0).toNat (z_add (V1 140 (z_neg a0).toNat) 1); Q a0 W2))))) : z_MS (d + 1) 130 true [.inr (.inr 36), .inl a0] V Q := z_RC.ex (cut := []) 400 h
set_option maxRecDepth 100000 in
theorem zb131_36 {d : Nat} {Q : Int → z_M → Prop} (a0 : Int) {V : z_M}
    (h : let W1 := z_up V 36 15 0; let W2 := z_up W1 119 1 0; let W3 := z_up W2 123 1 0; Q a0 W3) : z_MS (d + 1) 131 true [.inr (.inr 36), .inl a0] V Q := z_RC.ex (cut := []) 400 h
set_option maxRecDepth 100000 in
theorem zb132_36 {d : Nat} {Q : Int → z_M → Prop} (a0 : Int) {V : z_M}
    (h : if a0 = (-1) then (z_MS d 130 true [.inr (.inr 36), .inl (-5)] V (fun z2 V2 => Q z2 V2)) else (z_MS d 131 true [.inr (.inr 36), .inl a0] V (fun z1 V1 => Q z1 V1))) : z_MS (d + 1) 132 true [.inr (.inr 36), .inl a0] V Q := z_RC.ex (cut := []) 400 h
set_option maxRecDepth 100000 in
theorem zb133 {d : Nat} {Q : Int → z_M → Prop} (a0 : Int) (a1 : Int) (a2 : Int) {V : z_M}
    (h : if a0 < a1 then (Q 0 V) else (if a2 < a0 then (Q 0 V) else (Q 1 V))) : z_MS (d + 1) 133 true [.inl a0, .inl a1, .inl a2] V Q := z_RC.ex (cut := []) 400 h
set_option maxRecDepth 100000 in
theorem zb134 {d : Nat} {Q : Int → z_M → Prop} (a0 : Int) (a1 : Int) {V : z_M}
    (h : z_MS d 133 true [.inl a0, .inl 0, .inl 3] V (fun z1 V1 => if z1 = 0 then (Q 0 V1) else (z_g (0 ≤ a0 ∧ a0 < 4) (z_g (0 ≤ a0 ∧ a0 < 4) (z_MS d 133 true [.inl a1, .inl (V1 2 a0.toNat), .inl (V1 3 a0.toNat)] V1 (fun z2 V2 => if z2 = 0 then (Q 0 V2) else (Q 1 V2))))))) : z_MS (d + 1) 134 true [.inl a0, .inl a1] V Q := z_RC.ex (cut := []) 400 h
set_option maxRecDepth 100000 in
theorem zb135 {d : Nat} {Q : Int → z_M → Prop} (a0 : Int) (a1 : Int) {V : z_M}
    (h : z_MS d 133 true [.inl a0, .inl 0, .inl 1] V (fun z1 V1 => if z1 = 0 then (Q 0 V1) else (z_g (0 ≤ a0 ∧ a0 < 2) (z_MS d 133 true [.inl a1, .inl 1, .inl (V1 4 a0.toNat)] V1 (fun z2 V2 => if z2 = 0 then (Q 0 V2) else (Q 1 V2)))))) : z_MS (d + 1) 135 true [.inl a0, .inl a1] V Q := z_RC.ex (cut := []) 400 h
set_option maxRecDepth 100000 in
theorem zb136_46 {d : Nat} {Q : Int → z_M → Prop} (a1 : Int) (a2 : Int) {V : z_M}
    (h : z_g (0 ≤ a1 ∧ a1 < 2) (z_g (0 ≤ a1 ∧ a1 < 2) (let W1 := z_up V 46 a1.toNat a2; Q (V 46 a1.toNat) W1))) : z_MS (d + 1) 136 true [.inr (.inr 46), .inl a1, .inl a2] V Q := z_RC.ex (cut := []) 400 h
set_option maxRecDepth 100000 in
theorem zb136_v {d : Nat} {Q : Int → z_M → Prop} (a0 : Nat) (a1 : Int) (a2 : Int) {V : z_M}
    (h : z_g (z_kd a0 = 101) (z_g (0 ≤ a1 ∧ a1 < z_len' V a0) (z_g (z_kd a0 = 101 ∧ 36 ≤ a0) (z_g (0 ≤ a1 ∧ a1 < z_len' V a0) (let W1 := z_up V a0 a1.toNat a2; Q (V a0 a1.toNat) W1))))) : z_MS (d + 1) 136 true [.inr (.inr a0), .inl a1, .inl a2] V Q := z_RC.ex (cut := []) 400 h
set_option maxRecDepth 100000 in
theorem zb137_36 {d : Nat} {Q : Int → z_M → Prop} (a0 : Int) {V : z_M}
    (h : if (z_add a0 2) < (V 87 1) then (z_g (0 ≤ a0 ∧ a0 < 400) (z_g (0 ≤ (z_add a0 1) ∧ (z_add a0 1) < 400) (z_g (0 ≤ (z_add a0 2) ∧ (z_add a0 2) < 400) (z_MS d 134 true [.inl 0, .inl (V 88 a0.toNat)] V (fun z1 V1 => if z1 = 0 then (if 0 = 0 then (Q 0 V1) else (z_MS d 77 true [.inr (.inr 37), .inl (V 88 a0.toNat), .inl (V 88 (z_add a0 1).toNat), .inl (V 88 (z_add a0 2).toNat)] V1 (fun z2 V2 => if z2 = (-1) then (Q 0 V2) else (Q 1 V2)))) else (z_MS d 134 true [.inl 1, .inl (V 88 (z_add a0 1).toNat)] V1 (fun z3 V3 => if z3 = 0 then (if 0 = 0 then (Q 0 V3) else (z_MS d 77 true [.inr (.inr 37), .inl (V 88 a0.toNat), .inl (V 88 (z_add a0 1).toNat), .inl (V 88 (z_add a0 2).toNat)] V3 (fun z4 V4 => if z4 = (-1) then (Q 0 V4) else (Q 1 V4)))) else (z_MS d 134 true [.inl 2, .inl (V 88 (z_add a0 2).toNat)] V3 (fun z5 V5 => if z5 = 0 then (if 0 = 0 then (Q 0 V5) else (z_MS d 77 true [.inr (.inr 37), .inl (V 88 a0.toNat), .inl (V 88 (z_add a0 1).toNat), .inl (V 88 (z_add a0 2).toNat)] V5 (fun z6 V6 => if z6 = (-1) then (Q 0 V6) else (Q 1 V6)))) else (if 1 = 0 then (Q 0 V5) else (z_MS d 77 true [.inr (.inr 37), .inl (V 88 a0.toNat), .inl (V 88 (z_add a0 1).toNat), .inl (V 88 (z_add a0 2).toNat)] V5 (fun z7 V7 => if z7 = (-1) then (Q 0 V7) else (Q 1 V7))))))))))))) else (Q 0 V)) : z_MS (d + 1) 137 true [.inr (.inr 36), .inl a0] V Q := z_RC.ex (cut := []) 400 h
set_option maxRecDepth 100000 in
theorem zb138_36 {d : Nat} {Q : Int → z_M → Prop} (a0 : Int) {V : z_M}
    (h : z_MS d 48 true [.inr (.inr 97), .inr (.inr 37), .inr (.inr 6)] V (fun z1 V1 => z_MS d 49 true [.inr (.inr 97), .inr (.inr 37), .inr (.inr 94), .inl a0] V1 (fun z2 V2 => Q 0 V2))) : z_MS (d + 1) 138 true [.inr (.inr 36), .inl a0] V Q := z_RC.ex (cut := []) 400 h
set_option maxRecDepth 100000 in
theorem zb139_36 {d : Nat} {Q : Int → z_M → Prop}  {V : z_M}
    (h : z_MS d 48 true [.inr (.inr 97), .inr (.inr 37), .inr (.inr 6)] V (fun z1 V1 => z_Ex (z_MS d) 139 Q true 16 [some (.inr (.inr 36)), some (.inl 0)] [] 0 0 V1)) : z_MS (d + 1) 139 true [.inr (.inr 36)] V Q := z_RC.ex (cut := [16]) 400 h
set_option maxRecDepth 100000 in
theorem zb139_36_p16 {d : Nat} {Q : Int → z_M → Prop} (l1 : Int) {V : z_M}
    (h : if l1 < (V 37 8) then (z_MS d 49 true [.inr (.inr 97), .inr (.inr 37), .inr (.inr 94), .inl l1] V (fun z2 V2 => z_Ex (z_MS d) 139 Q true 16 [some (.inr (.inr 36)), some (.inl (z_add l1 1))] [] 0 0 V2)) else (Q 0 V)) : z_Ex (z_MS d) 139 Q true 16 [some (.inr (.inr 36)), some (.inl l1)] [] 0 0 V := z_RC.ex (cut := [16]) 400 h
set_option maxRecDepth 100000 in
theorem zb140_36 {d : Nat} {Q : Int → z_M → Prop}  {V : z_M}
    (h : z_MS d 139 true [.inr (.inr 36)] V (fun z1 V1 => z_MS d 61 true [.inr (.inr 97), .inr (.inr 37), .inr (.inr 6)] V1 (fun z2 V2 => Q z2 V2))) : z_MS (d + 1) 140 true [.inr (.inr 36)] V Q := z_RC.ex (cut := []) 400 h
set_option maxRecDepth 100000 in
theorem zb141_36 {d : Nat} {Q : Int → z_M → Prop} (a0 : Int) (a1 : Int) (a2 : Int) {V : z_M}
    (h : z_MS d 76 true [.inr (.inr 37), .inl a1] V (fun z1 V1 => if z1 = 0 then (Q (-1) V1) else (if (V1 37 7) = 0 then (Q (-1) V1) else (z_MS d 138 true [.inr (.inr 36), .inl a1] V1 (fun z2 V2 => z_MS d 8 true [.inr (.inr 117), .inr (.inr 97), .inl a1, .inl a0] V2 (fun z3 V3 => z_MS d 10 true [.inr (.inr 117), .inl a2] V3 (fun z4 V4 => Q z4 V4))))))) : z_MS (d + 1) 141 true [.inr (.inr 36), .inl a0, .inl a1, .inl a2] V Q := z_RC.ex (cut := []) 400 h
set_option maxRecDepth 100000 in
theorem zb142_36 {d : Nat} {Q : Int → z_M → Prop} (a0 : Int) {V : z_M}
    (h : z_Ex (z_MS d) 142 Q true 4 [some (.inr (.inr 36)), some (.inl a0), some (.inl 0), some (.inl 0), none] [] 0 0 V) : z_MS (d + 1) 142 true [.inr (.inr 36), .inl a0] V Q := z_RC.ex (cut := [4]) 400 h
set_option maxRecDepth 100000 in
theorem zb142_36_p4 {d : Nat} {Q : Int → z_M → Prop} (l1 : Int) (l2 : Int) (l3 : Int) {V : z_M}
    (h : if l3 < (V 37 8) then (if (z_and (z_shr l1 l3) 1) = 0 then (z_Ex (z_MS d) 142 Q true 4 [some (.inr (.inr 36)), some (.inl l1), some (.inl l2), some (.inl (z_add l3 1)), none] [] 0 0 V) else (z_MS d 58 true [.inr (.inr 97), .inl l3] V (fun z1 V1 => if z1 = (-1) then (Q (-1) V1) else (z_Ex (z_MS d) 142 Q true 4 [some (.inr (.inr 36)), some (.inl l1), some (.inl (z_or l2 z1)), some (.inl (z_add l3 1)), some (.inl z1)] [] 0 0 V1)))) else (Q l2 V)) : z_Ex (z_MS d) 142 Q true 4 [some (.inr (.inr 36)), some (.inl l1), some (.inl l2), some (.inl l3), none] [] 0 0 V := z_RC.ex (cut := [4]) 400 h
set_option maxRecDepth 100000 in
theorem zb143_36 {d : Nat} {Q : Int → z_M → Prop}  {V : z_M}
    (h : z_Ex (z_MS d) 143 Q true 12 [some (.inr (.inr 36)), some (.inl 0), some (.inl (z_sub (V 37 7) 1)), none, none] [] 0 0 V) : z_MS (d + 1) 143 true [.inr (.inr 36)] V Q := z_RC.ex (cut := [12, 23]) 400 h
set_option maxRecDepth 100000 in
theorem zb143_36_p12 {d : Nat} {Q : Int → z_M → Prop} (l1 : Int) (l2 : Int) {V : z_M}
    (h : if l2 < 0 then (Q l1 V) else (z_Ex (z_MS d) 143 Q true 23 [some (.inr (.inr 36)), some (.inl l1), some (.inl l2), some (.inl 0), some (.inl (z_add l2 1))] [] 0 0 V)) : z_Ex (z_MS d) 143 Q true 12 [some (.inr (.inr 36)), some (.inl l1), some (.inl l2), none, none] [] 0 0 V := z_RC.ex (cut := [12, 23]) 400 h
set_option maxRecDepth 100000 in
theorem zb143_36_p23 {d : Nat} {Q : Int → z_M → Prop} (l1 : Int) (l2 : Int) (l3 : Int) (l4 : Int) {V : z_M}
    (h : if l4 < (V 37 7) then (z_MS d 89 true [.inr (.inr 37), .inl l2, .inl l4] V (fun z1 V1 => if z1 = 0 then (z_Ex (z_MS d) 143 Q true 23 [some (.inr (.inr 36)), some (.inl l1), some (.inl l2), some (.inl l3), some (.inl (z_add l4 1))] [] 0 0 V1) else (z_g (0 ≤ l4 ∧ l4 < 12) (z_Ex (z_MS d) 143 Q true 23 [some (.inr (.inr 36)), some (.inl l1), some (.inl l2), some (.inl (z_max l3 (V1 139 l4.toNat))), some (.inl (z_add l4 1))] [] 0 0 V1)))) else (z_g (0 ≤ l2 ∧ l2 < 12) (let W1 := z_up V 139 l2.toNat (z_add l3 1); z_Ex (z_MS d) 143 Q true 12 [some (.inr (.inr 36)), some (.inl (z_max l1 (z_add l3 1))), some (.inl (z_add l2 (-1))), some (.inl l3), some (.inl l4)] [] 0 0 W1))) : z_Ex (z_MS d) 143 Q true 23 [some (.inr (.inr 36)), some (.inl l1), some (.inl l2), some (.inl l3), some (.inl l4)] [] 0 0 V := z_RC.ex (cut := [12, 23]) 400 h
