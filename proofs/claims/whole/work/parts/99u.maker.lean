/-! the makers, run by a program: what they write, as a list -/
abbrev xOp : Type := Nat × Nat × Nat × Int
def xMna (nx n k : Nat) (V : z_M) : z_M := fun b j =>
  if b = 0 then (if j = 0 then (nx : Int) + 1 + n else if j = nx then n else if nx < j ∧ j ≤ nx + n then k else V b j)
  else if b = nx then (if j < n then ((nx + 1 + j : Nat) : Int) else V b j) else V b j
def xU (V0 : z_M) : List xOp → z_M
  | [] => V0
  | (0, a, k, v) :: t => z_up (xU V0 t) a k v
  | (_ + 1, nx, n, v) :: t => xMna nx n v.toNat (xU V0 t)
def xrd : List xOp → Nat → Nat → Option Int
  | [], _, _ => none
  | (0, a, k, v) :: t, b, j => if b = a then (if j = k then some v else xrd t b j) else xrd t b j
  | (_ + 1, nx, n, v) :: t, b, j => if b = 0 then (if j = 0 then some ((nx : Int) + 1 + n) else if j = nx then some n else if nx < j ∧ j ≤ nx + n then some (v.toNat : Int) else xrd t b j) else if b = nx then (if j < n then some ((nx + 1 + j : Nat) : Int) else xrd t b j) else xrd t b j
theorem xU_rd {V0 : z_M} : ∀ {l : List xOp} {b j : Nat}, xU V0 l b j = (xrd l b j).getD (V0 b j)
  | [], _, _ => rfl
  | (0, a, k, v) :: t, b, j => by
    show (if b = a then (if j = k then v else xU V0 t b j) else xU V0 t b j) = (if b = a then (if j = k then some v else xrd t b j) else xrd t b j).getD _
    repeat' split
    all_goals first
      | rfl
      | exact xU_rd
  | (m + 1, nx, n, v) :: t, b, j => by
    show (if b = 0 then (if j = 0 then (nx : Int) + 1 + n else if j = nx then (n : Int) else if nx < j ∧ j ≤ nx + n then (v.toNat : Int) else xU V0 t b j) else if b = nx then (if j < n then ((nx + 1 + j : Nat) : Int) else xU V0 t b j) else xU V0 t b j) = (if b = 0 then (if j = 0 then some ((nx : Int) + 1 + n) else if j = nx then some (n : Int) else if nx < j ∧ j ≤ nx + n then some (v.toNat : Int) else xrd t b j) else if b = nx then (if j < n then some ((nx + 1 + j : Nat) : Int) else xrd t b j) else xrd t b j).getD _
    repeat' split
    all_goals first
      | rfl
      | exact xU_rd
def xrun : Nat → Nat → Nat → z_L → List z_V → Nat → Nat → Nat → List xOp → Option (Nat × Nat × Nat × List xOp)
  | 0, _, _, _, _, _, _, _, _ => none
  | n + 1, i, pc, ls, st, kc, ks, nx, l => match z_co i pc with
    | (.aload_n k, _, _, _, _) => (match z_at ls k with
      | some (.inr (.inr a)) => xrun n i (pc + 1) ls (.inr (.inr a) :: st) kc ks nx l
      | _ => none)
    | (.iconst z, _, _, _, _) => if -2147483648 ≤ z ∧ z < 2147483648 then xrun n i (pc + 1) ls (.inl z :: st) kc ks nx l else none
    | (.bipush z, _, _, _, _) => if -128 ≤ z ∧ z < 128 then xrun n i (pc + 2) ls (.inl z :: st) kc ks nx l else none
    | (.sipush z, _, _, _, _) => if -32768 ≤ z ∧ z < 32768 then xrun n i (pc + 3) ls (.inl z :: st) kc ks nx l else none
    | (.dup, _, _, _, _) => (match st with
      | .inr (.inr a) :: r => xrun n i (pc + 1) ls (.inr (.inr a) :: .inr (.inr a) :: r) kc ks nx l
      | _ => none)
    | (.ldc2_w _, _, x, y, _) => if x < 9223372036854775808 then xrun n i (pc + 3) ls (.inr (.inl (cond (Nat.beq y 0) (x : Int) (-(x : Int)))) :: st) kc ks nx l else none
    | (.new _, _, x, _, _) => if (z_kd nx = x + 1 ∧ x < 13) ∧ kc + 1 ≤ (z_al i).1 ∧ ks + z_nf x ≤ (z_al i).2 then xrun n i (pc + 3) ls (.inr (.inr nx) :: st) (kc + 1) (ks + z_nf x) (nx + 1) ((0, 0, 0, (nx : Int) + 1) :: l) else none
    | (.newarray t, _, _, _, _) => (match st with
      | .inl m :: r => if 36 ≤ nx ∧ z_kd nx = z_atk t ∧ (0 ≤ m ∧ m < 20000 ∧ (z_LN nx = 0 ∨ z_LN nx = m.toNat + 1)) ∧ kc + 1 ≤ (z_al i).1 ∧ ks + m.toNat ≤ (z_al i).2 then xrun n i (pc + 2) ls (.inr (.inr nx) :: r) (kc + 1) (ks + m.toNat) (nx + 1) ((0, 0, nx, m) :: (0, 0, 0, (nx : Int) + 1) :: l) else none
      | _ => none)
    | (.anewarray _, _, x, _, _) => (match st with
      | .inl m :: r => if 36 ≤ nx ∧ (z_kd nx = x ∧ (x = 106 ∨ x = 107)) ∧ (0 ≤ m ∧ m < 20000 ∧ (z_LN nx = 0 ∨ z_LN nx = m.toNat + 1)) ∧ kc + 1 ≤ (z_al i).1 ∧ ks + m.toNat ≤ (z_al i).2 then xrun n i (pc + 3) ls (.inr (.inr nx) :: r) (kc + 1) (ks + m.toNat) (nx + 1) ((0, 0, nx, m) :: (0, 0, 0, (nx : Int) + 1) :: l) else none
      | _ => none)
    | (.multianewarray _ dims, _, _, _, _) => (match st with
      | .inl k :: .inl m :: r => if (dims = 2 ∧ 0 ≤ m ∧ m < 20 ∧ 0 ≤ k ∧ k < 20000) ∧ (z_kd nx = 105 ∧ z_LN nx = m.toNat + 1 ∧ (List.range m.toNat).all (fun q => Nat.beq (z_kd (nx + 1 + q)) 101 && Nat.beq (z_LN (nx + 1 + q)) (k.toNat + 1)) = true) ∧ kc + (1 + m.toNat) ≤ (z_al i).1 ∧ ks + (m.toNat + m.toNat * k.toNat) ≤ (z_al i).2 then xrun n i (pc + 4) ls (.inr (.inr nx) :: r) (kc + (1 + m.toNat)) (ks + (m.toNat + m.toNat * k.toNat)) (nx + 1 + m.toNat) ((1, nx, m.toNat, k) :: l) else none
      | _ => none)
    | (.putfield _, _, x, y, _) => (match st with
      | v :: .inr (.inr a) :: r => if z_kd a = x + 1 ∧ 36 ≤ a then (match z_Y x y, v with
        | .object _, .inr (.inr c) => xrun n i (pc + 3) ls r kc ks nx ((0, a, y, (c : Int)) :: l)
        | .array _, .inr (.inr c) => xrun n i (pc + 3) ls r kc ks nx ((0, a, y, (c : Int)) :: l)
        | .int, .inl z => xrun n i (pc + 3) ls r kc ks nx ((0, a, y, z) :: l)
        | _, _ => none) else none
      | _ => none)
    | (.getfield _, _, x, y, _) => (match st with
      | .inr (.inr a) :: r => if z_kd a = x + 1 then (match z_Y x y with
        | .array _ => (match xrd l a y with
          | some v => xrun n i (pc + 3) ls (.inr (.inr v.toNat) :: r) kc ks nx l
          | none => none)
        | _ => none) else none
      | _ => none)
    | (.iastore, _, _, _, _) => (match st with
      | .inl v :: .inl j :: .inr (.inr a) :: r => if (z_kd a = 101 ∧ 36 ≤ a) ∧ ¬ z_LN a = 0 ∧ 0 ≤ j ∧ j < ((z_LN a - 1 : Nat) : Int) then xrun n i (pc + 1) ls r kc ks nx ((0, a, j.toNat, v) :: l) else none
      | _ => none)
    | (.lastore, _, _, _, _) => (match st with
      | .inr (.inl v) :: .inl j :: .inr (.inr a) :: r => if (z_kd a = 102 ∧ 36 ≤ a) ∧ ¬ z_LN a = 0 ∧ 0 ≤ j ∧ j < ((z_LN a - 1 : Nat) : Int) then xrun n i (pc + 1) ls r kc ks nx ((0, a, j.toNat, v) :: l) else none
      | _ => none)
    | (.aastore, _, _, _, _) => (match st with
      | .inr (.inr v) :: .inl j :: .inr (.inr a) :: r => if ((z_kd a = 106 ∨ z_kd a = 107) ∧ 36 ≤ a) ∧ (v = 0 ∨ (36 ≤ v ∧ z_kd v = cond (Nat.beq (z_kd a) 106) 5 11)) ∧ ¬ z_LN a = 0 ∧ 0 ≤ j ∧ j < ((z_LN a - 1 : Nat) : Int) then xrun n i (pc + 1) ls r kc ks nx ((0, a, j.toNat, (v : Int)) :: l) else none
      | _ => none)
    | (.invokespecial _, _, x, _, _) => (match st with
      | .inr (.inr a) :: r => if Nat.beq x 1000 then (if 0 < a ∧ ¬ a = 7 ∧ z_sum r ≤ 8 then xrun n i (pc + 3) ls r kc ks nx l else none)
        else (if (z_na x = 1 ∧ z_sum r ≤ 8 ∧ 0 < x ∧ x < 259 ∧ z_rcv x = 1 ∧ 1 ≤ z_ml x ∧ z_rk x = 0 ∧ 0 < a ∧ ¬ a = 7) ∧ kc + (z_al x).1 ≤ (z_al i).1 ∧ ks + (z_al x).2 ≤ (z_al i).2 then (match xrun n x 0 (z_ent [.inr (.inr a)] (z_ml x)) [] 0 0 nx l with
          | some (_, _, nx2, l2) => xrun n i (pc + 3) ls r (kc + (z_al x).1) (ks + (z_al x).2) nx2 l2
          | none => none) else none)
      | _ => none)
    | (.return_, _, _, _, _) => (match st with
      | [] => if z_rk i = 0 then some (kc, ks, nx, l) else none
      | _ => none)
    | _ => none
def xF : Option (Nat × Nat × Nat × List xOp) := match xrun 400 91 0 (z_ent [.inr (.inr 36)] (z_ml 91)) [] 0 0 37 [(0, 0, 0, 37)] with
  | some (_, _, nx, l) => xrun 400 144 0 (z_ent [.inr (.inr nx)] (z_ml 144)) [] 0 0 (nx + 1) ((0, 0, 0, (nx : Int) + 1) :: l)
  | none => none
theorem xF_1 : ((xrun 400 91 0 (z_ent [.inr (.inr 36)] (z_ml 91)) [] 0 0 37 [(0, 0, 0, 37)]).isSome && xF.isSome) = true := by decide +kernel
