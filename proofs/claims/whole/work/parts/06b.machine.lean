/-! the small machine: memory as numbers, a step as a rule over predicates, a run as the least fixed point -/
abbrev z_V : Type := Int ⊕ (Int ⊕ Nat)
abbrev z_M : Type := Nat → Nat → Int
abbrev z_L : Type := List (Option z_V)
abbrev z_P : Type := Bool → Nat → z_L → List z_V → Nat → Nat → z_M → Prop
abbrev z_C : Type := Nat → Bool → List z_V → z_M → (Int → z_M → Prop) → Prop
def z_up (V : z_M) (a k : Nat) (v : Int) : z_M := fun b j => if b = a then (if j = k then v else V b j) else V b j
-- the numbers' own rules, by the machine's words
def z_i32 (f : Int32 → Int32 → Int32) (a b : Int) : Int := (f (Int32.ofInt a) (Int32.ofInt b)).toInt
def z_i64 (f : Int64 → Int64 → Int64) (a b : Int) : Int := (f (Int64.ofInt a) (Int64.ofInt b)).toInt
def z_add (a b : Int) : Int := z_i32 (fun x y => x + y) a b
def z_sub (a b : Int) : Int := z_i32 (fun x y => x - y) a b
def z_mul (a b : Int) : Int := z_i32 (fun x y => x * y) a b
def z_and (a b : Int) : Int := z_i32 (fun x y => x &&& y) a b
def z_or (a b : Int) : Int := z_i32 (fun x y => x ||| y) a b
def z_xor (a b : Int) : Int := z_i32 (fun x y => x ^^^ y) a b
def z_shl (a b : Int) : Int := z_i32 (fun x y => x <<< (y &&& 31)) a b
def z_shr (a b : Int) : Int := z_i32 (fun x y => x >>> (y &&& 31)) a b
def z_ushr (a b : Int) : Int := z_i32 (fun x y => (x.toUInt32 >>> (y.toUInt32 &&& Int32.toUInt32 31)).toInt32) a b
def z_rem (a b : Int) : Int := z_i32 (fun x y => x - x / y * y) a b
def z_neg (a : Int) : Int := (-(Int32.ofInt a)).toInt
def z_i2c (a : Int) : Int := ((Int32.ofInt a).toUInt32 % 65536).toInt32.toInt
def z_abs (a : Int) : Int := if a < 0 then z_neg a else a
def z_max (a b : Int) : Int := if a < b then b else a
def z_min (a b : Int) : Int := if b < a then b else a
def z_ladd (a b : Int) : Int := z_i64 (fun x y => x + y) a b
def z_lsub (a b : Int) : Int := z_i64 (fun x y => x - y) a b
def z_lmul (a b : Int) : Int := z_i64 (fun x y => x * y) a b
def z_ldiv (a b : Int) : Int := z_i64 (fun x y => x / y) a b
def z_lrem (a b : Int) : Int := z_i64 (fun x y => x - x / y * y) a b
def z_l2i (a : Int) : Int := (Int64.ofInt a).toInt32.toInt
def z_lcmp (a b : Int) : Int := if b < a then 1 else if a = b then 0 else -1
-- small takers of the stack and the places
def z_g (c : Prop) [Decidable c] (q : Prop) : Prop := if c then q else False
def z_i1 (st : List z_V) (f : Int → List z_V → Prop) : Prop := match st with | .inl a :: r => f a r | _ => False
def z_i2 (st : List z_V) (f : Int → Int → List z_V → Prop) : Prop := match st with | .inl b :: .inl a :: r => f a b r | _ => False
def z_l1 (st : List z_V) (f : Int → List z_V → Prop) : Prop := match st with | .inr (.inl a) :: r => f a r | _ => False
def z_l2 (st : List z_V) (f : Int → Int → List z_V → Prop) : Prop := match st with | .inr (.inl b) :: .inr (.inl a) :: r => f a b r | _ => False
def z_r1 (st : List z_V) (f : Nat → List z_V → Prop) : Prop := match st with | .inr (.inr a) :: r => f a r | _ => False
def z_ai (st : List z_V) (f : Nat → Int → List z_V → Prop) : Prop := match st with | .inl j :: .inr (.inr a) :: r => f a j r | _ => False
def z_avi (st : List z_V) (f : Nat → Int → Int → List z_V → Prop) : Prop := match st with | .inl v :: .inl j :: .inr (.inr a) :: r => f a j v r | _ => False
def z_avl (st : List z_V) (f : Nat → Int → Int → List z_V → Prop) : Prop := match st with | .inr (.inl v) :: .inl j :: .inr (.inr a) :: r => f a j v r | _ => False
def z_avr (st : List z_V) (f : Nat → Int → Nat → List z_V → Prop) : Prop := match st with | .inr (.inr v) :: .inl j :: .inr (.inr a) :: r => f a j v r | _ => False
def z_fv (st : List z_V) (f : Nat → z_V → List z_V → Prop) : Prop := match st with | v :: .inr (.inr a) :: r => f a v r | _ => False
def z_is2 : z_V → Bool | .inr (.inl _) => true | _ => false
def z_k1 (st : List z_V) (f : z_V → List z_V → Prop) : Prop := match st with | v :: r => cond (z_is2 v) False (f v r) | _ => False
def z_k2 (st : List z_V) (f : z_V → z_V → List z_V → Prop) : Prop := match st with | v :: v2 :: r => cond (z_is2 v) False (cond (z_is2 v2) False (f v v2 r)) | _ => False
def z_at : z_L → Nat → Option z_V | [], _ => none | v :: _, 0 => v | _ :: t, k + 1 => z_at t k
def z_o2 : Option z_V → Bool | some v => z_is2 v | none => false
def z_s1 : z_L → Nat → z_V → z_L
  | [], _, _ => []
  | _ :: t, 0, v => some v :: t
  | u :: t, k + 1, v => (cond (Nat.beq k 0 && z_o2 u) none u) :: z_s1 t k v
def z_s2 : z_L → Nat → z_V → z_L
  | [], _, _ => []
  | _ :: t, 0, v => some v :: (match t with | [] => [] | _ :: t => none :: t)
  | u :: t, k + 1, v => (cond (Nat.beq k 0 && z_o2 u) none u) :: z_s2 t k v
def z_li (ls : z_L) (k : Nat) (f : Int → Prop) : Prop := match z_at ls k with | some (.inl a) => f a | _ => False
def z_ll (ls : z_L) (k : Nat) (f : Int → Prop) : Prop := match z_at ls k with | some (.inr (.inl a)) => f a | _ => False
def z_lr1 (ls : z_L) (k : Nat) (f : Nat → Prop) : Prop := match z_at ls k with | some (.inr (.inr a)) => f a | _ => False
def z_br (c : ClassFile.Cond) (a b : Int) (q r : Prop) : Prop := match c with
  | .eq => if a = b then q else r
  | .ne => if a = b then r else q
  | .lt => if a < b then q else r
  | .ge => if a < b then r else q
  | .gt => if b < a then q else r
  | .le => if b < a then r else q
def z_sw (a : Int) : Int → List Int → (Int → Prop) → Prop → Prop
  | _, [], _, d => d
  | lo, o :: t, f, d => if a = lo then f o else z_sw a (lo + 1) t f d
def z_to (pc : Nat) (off : Int) (f : Nat → Prop) : Prop := z_g (0 ≤ (pc : Int) + off) (f ((pc : Int) + off).toNat)
-- cells
def z_len' (V : z_M) (a : Nat) : Int := cond (Nat.beq (z_LN a) 0) (V 0 a) ((z_LN a - 1 : Nat) : Int)
def z_rr (md : Bool) (V : z_M) (a k : Nat) : Nat := cond md (cond (Nat.beq (z_rf a k) 0) (V a k).toNat (z_rf a k)) (V a k).toNat
def z_rd (md : Bool) (ty : FieldType) (V : z_M) (a k : Nat) : z_V := match ty with
  | .object _ => .inr (.inr (z_rr md V a k))
  | .array _ => .inr (.inr (z_rr md V a k))
  | .long => .inr (.inl (V a k))
  | _ => .inl (V a k)
def z_wr (md : Bool) (ty : FieldType) (a k : Nat) (v : z_V) (f : Int → Prop) : Prop := match ty, v with
  | .object _, .inr (.inr b) => z_g (md = true → z_rf a k = 0) (f b)
  | .array _, .inr (.inr b) => z_g (md = true → z_rf a k = 0) (f b)
  | .long, .inr (.inl z) => f z
  | .int, .inl z => f z
  | .boolean, .inl z => z_g (z = 0 ∨ z = 1) (f z)
  | _, _ => False
def z_nx (V : z_M) : Nat := (V 0 0).toNat
def z_atk : ArrayType → Nat | .int => 101 | .long => 102 | .boolean => 103 | .byte => 104 | _ => 0
def z_mk (V : z_M) (n : Int) : z_M := z_up (z_up V 0 0 (V 0 0 + 1)) 0 (z_nx V) n
def z_mna (V : z_M) (n k : Nat) : z_M := fun b j =>
  if b = 0 then (if j = 0 then V 0 0 + 1 + n else if j = z_nx V then n else if z_nx V < j ∧ j ≤ z_nx V + n then k else V b j)
  else if b = z_nx V then (if j < n then ((z_nx V + 1 + j : Nat) : Int) else V b j) else V b j
def z_cpy (V : z_M) (a sp b dp n : Nat) : z_M := fun x j => if x = b then (if dp ≤ j ∧ j < dp + n then V a (sp + (j - dp)) else V x j) else V x j
def z_cln (V : z_M) (a : Nat) : z_M := fun x j => if x = z_nx V then (if (j : Int) < z_len' V a then V a j else 0) else z_mk V (z_len' V a) x j
def z_sum (st : List z_V) : Nat := match st with | [] => 0 | v :: r => cond (z_is2 v) 2 1 + z_sum r
def z_push (rk : Nat) (z : Int) (st : List z_V) : List z_V := cond (Nat.beq rk 0) st (cond (Nat.beq rk 2) (.inr (.inl z) :: st) (cond (Nat.beq rk 3) (.inr (.inr z.toNat) :: st) (.inl z :: st)))
def z_ret (rk : Nat) (z : Int) (q : Prop) : Prop := cond (Nat.beq rk 1) q (cond (Nat.beq rk 4) (z_g (z = 0 ∨ z = 1) q) (cond (Nat.beq rk 5) (z_g (0 ≤ z ∧ z < 65536) q) (cond (Nat.beq rk 6) (z_g (-128 ≤ z ∧ z < 128) q) False)))
/-- the number of the receiver's class, one more, by the method -/
def z_rc (j : Nat) : Nat := cond (Nat.beq j 0) 0 (z_rc0 j)
def z_budget (i kc ks a b : Nat) (q : Prop) : Prop := z_g (kc + a ≤ (z_al i).1 ∧ ks + b ≤ (z_al i).2) q
def z_head (v : List z_V) (f : Nat → Prop) : Prop := match v with | .inr (.inr a) :: _ => f a | _ => False
def z_ea : List z_V → z_L
  | [] => []
  | v :: t => cond (z_is2 v) (some v :: none :: z_ea t) (some v :: z_ea t)
def z_call (C : z_C) (i j rv : Nat) (P : z_P) (md : Bool) (pc : Nat) (ls : z_L) (st : List z_V) (kc ks : Nat) (V : z_M) : Prop :=
  z_g (z_na j ≤ st.length ∧ z_sum (st.drop (z_na j)) ≤ 8 ∧ 0 < j ∧ j < 259 ∧ z_rcv j = rv ∧ (z_ea (st.take (z_na j)).reverse).length ≤ z_ml j) (z_budget i kc ks (z_al j).1 (z_al j).2
    (C j md (st.take (z_na j)).reverse V (fun z V' => P md (pc + 3) ls (z_push (z_rk j) z (st.drop (z_na j))) (kc + (z_al j).1) (ks + (z_al j).2) V')))
def z_Stp (C : z_C) (i : Nat) (Q : Int → z_M → Prop) (P : z_P) (md : Bool) (pc : Nat) (ls : z_L) (st : List z_V) (kc ks : Nat) (V : z_M) : Prop :=
  match (z_co i pc).1 with
  | .iconst n => z_g (-2147483648 ≤ n ∧ n < 2147483648) (P md (pc + 1) ls (.inl n :: st) kc ks V)
  | .bipush n => z_g (-128 ≤ n ∧ n < 128) (P md (pc + 2) ls (.inl n :: st) kc ks V)
  | .sipush n => z_g (-32768 ≤ n ∧ n < 32768) (P md (pc + 3) ls (.inl n :: st) kc ks V)
  | .lconst n => P md (pc + 1) ls (.inr (.inl ((n : Nat) : Int)) :: st) kc ks V
  | .aconst_null => P md (pc + 1) ls (.inr (.inr 0) :: st) kc ks V
  | .iload_n k => z_li ls k fun a => P md (pc + 1) ls (.inl a :: st) kc ks V
  | .iload k => z_li ls k fun a => P md (pc + 2) ls (.inl a :: st) kc ks V
  | .lload_n k => z_ll ls k fun a => P md (pc + 1) ls (.inr (.inl a) :: st) kc ks V
  | .lload k => z_ll ls k fun a => P md (pc + 2) ls (.inr (.inl a) :: st) kc ks V
  | .aload_n k => z_lr1 ls k fun a => P md (pc + 1) ls (.inr (.inr a) :: st) kc ks V
  | .aload k => z_lr1 ls k fun a => P md (pc + 2) ls (.inr (.inr a) :: st) kc ks V
  | .istore_n k => z_i1 st fun a r => z_g ((k : Nat) < ls.length) (P md (pc + 1) (z_s1 ls k (.inl a)) r kc ks V)
  | .istore k => z_i1 st fun a r => z_g (k < ls.length) (P md (pc + 2) (z_s1 ls k (.inl a)) r kc ks V)
  | .astore_n k => z_r1 st fun a r => z_g ((k : Nat) < ls.length) (P md (pc + 1) (z_s1 ls k (.inr (.inr a))) r kc ks V)
  | .astore k => z_r1 st fun a r => z_g (k < ls.length) (P md (pc + 2) (z_s1 ls k (.inr (.inr a))) r kc ks V)
  | .lstore_n k => z_l1 st fun a r => z_g ((k : Nat) + 1 < ls.length) (P md (pc + 1) (z_s2 ls k (.inr (.inl a))) r kc ks V)
  | .lstore k => z_l1 st fun a r => z_g (k + 1 < ls.length) (P md (pc + 2) (z_s2 ls k (.inr (.inl a))) r kc ks V)
  | .iinc k n => z_li ls k fun a => z_g (k < ls.length) (P md (pc + 3) (z_s1 ls k (.inl (z_add a n))) st kc ks V)
  | .iadd => z_i2 st fun a b r => P md (pc + 1) ls (.inl (z_add a b) :: r) kc ks V
  | .isub => z_i2 st fun a b r => P md (pc + 1) ls (.inl (z_sub a b) :: r) kc ks V
  | .imul => z_i2 st fun a b r => P md (pc + 1) ls (.inl (z_mul a b) :: r) kc ks V
  | .iand => z_i2 st fun a b r => P md (pc + 1) ls (.inl (z_and a b) :: r) kc ks V
  | .ior => z_i2 st fun a b r => P md (pc + 1) ls (.inl (z_or a b) :: r) kc ks V
  | .ixor => z_i2 st fun a b r => P md (pc + 1) ls (.inl (z_xor a b) :: r) kc ks V
  | .ishl => z_i2 st fun a b r => P md (pc + 1) ls (.inl (z_shl a b) :: r) kc ks V
  | .ishr => z_i2 st fun a b r => P md (pc + 1) ls (.inl (z_shr a b) :: r) kc ks V
  | .iushr => z_i2 st fun a b r => P md (pc + 1) ls (.inl (z_ushr a b) :: r) kc ks V
  | .irem => z_i2 st fun a b r => z_g (¬ b = 0) (P md (pc + 1) ls (.inl (z_rem a b) :: r) kc ks V)
  | .ineg => z_i1 st fun a r => P md (pc + 1) ls (.inl (z_neg a) :: r) kc ks V
  | .i2c => z_i1 st fun a r => P md (pc + 1) ls (.inl (z_i2c a) :: r) kc ks V
  | .i2l => z_i1 st fun a r => P md (pc + 1) ls (.inr (.inl a) :: r) kc ks V
  | .l2i => z_l1 st fun a r => P md (pc + 1) ls (.inl (z_l2i a) :: r) kc ks V
  | .ladd => z_l2 st fun a b r => P md (pc + 1) ls (.inr (.inl (z_ladd a b)) :: r) kc ks V
  | .lsub => z_l2 st fun a b r => P md (pc + 1) ls (.inr (.inl (z_lsub a b)) :: r) kc ks V
  | .lmul => z_l2 st fun a b r => P md (pc + 1) ls (.inr (.inl (z_lmul a b)) :: r) kc ks V
  | .ldiv => z_l2 st fun a b r => z_g (¬ b = 0) (P md (pc + 1) ls (.inr (.inl (z_ldiv a b)) :: r) kc ks V)
  | .lrem => z_l2 st fun a b r => z_g (¬ b = 0) (P md (pc + 1) ls (.inr (.inl (z_lrem a b)) :: r) kc ks V)
  | .lcmp => z_l2 st fun a b r => P md (pc + 1) ls (.inl (z_lcmp a b) :: r) kc ks V
  | .dup => z_k1 st fun v r => P md (pc + 1) ls (v :: v :: r) kc ks V
  | .pop => z_k1 st fun _ r => P md (pc + 1) ls r kc ks V
  | .dup2 => z_k2 st fun v v2 r => P md (pc + 1) ls (v :: v2 :: v :: v2 :: r) kc ks V
  | .goto off => z_to pc off fun t => P md t ls st kc ks V
  | .ifCond cd off => z_i1 st fun a r => z_to pc off fun t => z_br cd a 0 (P md t ls r kc ks V) (P md (pc + 3) ls r kc ks V)
  | .if_icmp cd off => z_i2 st fun a b r => z_to pc off fun t => z_br cd a b (P md t ls r kc ks V) (P md (pc + 3) ls r kc ks V)
  | .ifnull off => z_r1 st fun a r => z_g (¬ a = 7) <| z_to pc off fun t => z_br .eq (a : Int) 0 (P md t ls r kc ks V) (P md (pc + 3) ls r kc ks V)
  | .ifnonnull off => z_r1 st fun a r => z_g (¬ a = 7) <| z_to pc off fun t => z_br .eq (a : Int) 0 (P md (pc + 3) ls r kc ks V) (P md t ls r kc ks V)
  | .tableswitch d lo hi offs => z_i1 st fun a r => z_g (hi + 1 = lo + (offs.toList.length : Int)) (z_sw a lo offs.toList (fun o => z_to pc o fun t => P md t ls r kc ks V) (z_to pc d fun t => P md t ls r kc ks V))
  | .ldc _ => cond (Nat.beq (z_co i pc).2.2.2.1 2) (z_g (7 < (z_co i pc).2.2.1 ∧ (z_co i pc).2.2.1 < 22) (P md (pc + 2) ls (.inr (.inr (z_co i pc).2.2.1) :: st) kc ks V))
      (z_g ((z_co i pc).2.2.1 < 2147483648) (P md (pc + 2) ls (.inl (cond (Nat.beq (z_co i pc).2.2.2.1 0) (((z_co i pc).2.2.1 : Nat) : Int) (-(((z_co i pc).2.2.1 : Nat) : Int))) :: st) kc ks V))
  | .ldc_w _ => z_g ((z_co i pc).2.2.1 < 2147483648) (P md (pc + 3) ls (.inl (cond (Nat.beq (z_co i pc).2.2.2.1 0) (((z_co i pc).2.2.1 : Nat) : Int) (-(((z_co i pc).2.2.1 : Nat) : Int))) :: st) kc ks V)
  | .ldc2_w _ => z_g ((z_co i pc).2.2.1 < 9223372036854775808) (P md (pc + 3) ls (.inr (.inl (cond (Nat.beq (z_co i pc).2.2.2.1 0) (((z_co i pc).2.2.1 : Nat) : Int) (-(((z_co i pc).2.2.1 : Nat) : Int)))) :: st) kc ks V)
  | .getfield _ => z_r1 st fun a r => z_g (z_kd a = (z_co i pc).2.2.1 + 1) (P md (pc + 3) ls (z_rd md (z_Y (z_co i pc).2.2.1 (z_co i pc).2.2.2.1) V a (z_co i pc).2.2.2.1 :: r) kc ks V)
  | .putfield _ => z_fv st fun a v r => z_g (z_kd a = (z_co i pc).2.2.1 + 1 ∧ 36 ≤ a) (z_wr md (z_Y (z_co i pc).2.2.1 (z_co i pc).2.2.2.1) a (z_co i pc).2.2.2.1 v fun z => P md (pc + 3) ls r kc ks (z_up V a (z_co i pc).2.2.2.1 z))
  | .getstatic _ => cond (Nat.beq (z_co i pc).2.2.1 0) (P md (pc + 3) ls (.inl 1 :: st) kc ks V) (z_g (1 < (z_co i pc).2.2.1 ∧ (z_co i pc).2.2.1 < 8) (P md (pc + 3) ls (.inr (.inr (z_co i pc).2.2.1) :: st) kc ks V))
  | .iaload => z_ai st fun a j r => z_g (z_kd a = 101) (z_g (0 ≤ j ∧ j < z_len' V a) (P md (pc + 1) ls (.inl (V a j.toNat) :: r) kc ks V))
  | .laload => z_ai st fun a j r => z_g (z_kd a = 102) (z_g (0 ≤ j ∧ j < z_len' V a) (P md (pc + 1) ls (.inr (.inl (V a j.toNat)) :: r) kc ks V))
  | .baload => z_ai st fun a j r => z_g (z_kd a = 103 ∨ z_kd a = 104) (z_g (0 ≤ j ∧ j < z_len' V a) (P md (pc + 1) ls (.inl (V a j.toNat) :: r) kc ks V))
  | .aaload => z_ai st fun a j r => z_g (105 ≤ z_kd a ∧ z_kd a ≤ 107) (z_g (0 ≤ j ∧ j < z_len' V a) (P md (pc + 1) ls (.inr (.inr (z_rr md V a j.toNat)) :: r) kc ks V))
  | .iastore => z_avi st fun a j v r => z_g (z_kd a = 101 ∧ 36 ≤ a) (z_g (0 ≤ j ∧ j < z_len' V a) (P md (pc + 1) ls r kc ks (z_up V a j.toNat v)))
  | .lastore => z_avl st fun a j v r => z_g (z_kd a = 102 ∧ 36 ≤ a) (z_g (0 ≤ j ∧ j < z_len' V a) (P md (pc + 1) ls r kc ks (z_up V a j.toNat v)))
  | .bastore => z_avi st fun a j v r => z_g (z_kd a = 103 ∧ 36 ≤ a) (z_g (v = 0 ∨ v = 1) (z_g (0 ≤ j ∧ j < z_len' V a) (P md (pc + 1) ls r kc ks (z_up V a j.toNat v))))
  | .aastore => z_avr st fun a j v r => z_g ((z_kd a = 106 ∨ z_kd a = 107) ∧ 36 ≤ a) (z_g (v = 0 ∨ (36 ≤ v ∧ z_kd v = cond (Nat.beq (z_kd a) 106) 5 11)) (z_g (md = true → z_rf a j.toNat = 0) (z_g (0 ≤ j ∧ j < z_len' V a) (P md (pc + 1) ls r kc ks (z_up V a j.toNat v)))))
  | .arraylength => z_r1 st fun a r => z_g (101 ≤ z_kd a) (P md (pc + 1) ls (.inl (z_len' V a) :: r) kc ks V)
  | .checkcast _ => z_r1 st fun a r => z_g (z_kd a = 101 ∧ 36 ≤ a) (P md (pc + 3) ls (.inr (.inr a) :: r) kc ks V)
  | .new _ => z_g (z_kd (z_nx V) = (z_co i pc).2.2.1 + 1 ∧ (z_co i pc).2.2.1 < 13) (z_budget i kc ks 1 (z_nf (z_co i pc).2.2.1) (P md (pc + 3) ls (.inr (.inr (z_nx V)) :: st) (kc + 1) (ks + z_nf (z_co i pc).2.2.1) (z_up V 0 0 (V 0 0 + 1))))
  | .newarray t => z_i1 st fun n r => z_g (z_kd (z_nx V) = z_atk t) (z_g (0 ≤ n ∧ n < 20000 ∧ (z_LN (z_nx V) = 0 ∨ z_LN (z_nx V) = n.toNat + 1)) (z_budget i kc ks 1 n.toNat (P md (pc + 2) ls (.inr (.inr (z_nx V)) :: r) (kc + 1) (ks + n.toNat) (z_mk V n))))
  | .anewarray _ => z_i1 st fun n r => z_g (z_kd (z_nx V) = (z_co i pc).2.2.1 ∧ ((z_co i pc).2.2.1 = 106 ∨ (z_co i pc).2.2.1 = 107)) (z_g (0 ≤ n ∧ n < 20000 ∧ (z_LN (z_nx V) = 0 ∨ z_LN (z_nx V) = n.toNat + 1)) (z_budget i kc ks 1 n.toNat (P md (pc + 3) ls (.inr (.inr (z_nx V)) :: r) (kc + 1) (ks + n.toNat) (z_mk V n))))
  | .multianewarray _ dims => z_i2 st fun n k r => z_g (dims = 2 ∧ 0 ≤ n ∧ n < 20 ∧ 0 ≤ k ∧ k < 20000 ∧ md = false) (z_g (z_kd (z_nx V) = 105 ∧ z_LN (z_nx V) = n.toNat + 1 ∧ (List.range n.toNat).all (fun q => Nat.beq (z_kd (z_nx V + 1 + q)) 101 && Nat.beq (z_LN (z_nx V + 1 + q)) (k.toNat + 1)) = true)
      (z_budget i kc ks (1 + n.toNat) (n.toNat + n.toNat * k.toNat) (P md (pc + 4) ls (.inr (.inr (z_nx V)) :: r) (kc + (1 + n.toNat)) (ks + (n.toNat + n.toNat * k.toNat)) (z_mna V n.toNat k.toNat))))
  | .invokevirtual _ => cond (Nat.beq (z_co i pc).2.2.1 1002)
      (z_r1 st fun a r => z_g (z_kd a = 101 ∧ 36 ≤ a ∧ z_kd (z_nx V) = 101 ∧ z_LN (z_nx V) = 0 ∧ z_sum r ≤ 8 ∧ z_len' V a < 20000) (z_budget i kc ks 1 (z_len' V a).toNat (P md (pc + 3) ls (.inr (.inr (z_nx V)) :: r) (kc + 1) (ks + (z_len' V a).toNat) (z_cln V a))))
      (z_head (st.take (z_na (z_co i pc).2.2.1)).reverse fun a => z_g (z_kd a = z_rc (z_co i pc).2.2.1 ∧ 0 < z_rc (z_co i pc).2.2.1) (z_call C i (z_co i pc).2.2.1 1 P md pc ls st kc ks V))
  | .invokespecial _ => cond (Nat.beq (z_co i pc).2.2.1 1000) (z_r1 st fun a r => z_g (0 < a ∧ ¬ a = 7 ∧ z_sum r ≤ 8) (P md (pc + 3) ls r kc ks V))
      (z_head (st.take (z_na (z_co i pc).2.2.1)).reverse fun a => z_g (0 < a ∧ ¬ a = 7) (z_call C i (z_co i pc).2.2.1 1 P md pc ls st kc ks V))
  | .invokestatic _ => cond (Nat.beq (z_co i pc).2.2.1 1001)
      (match st with
        | .inl n :: .inl dp :: .inr (.inr b) :: .inl sp :: .inr (.inr a) :: r => z_g (z_kd a = 101 ∧ z_kd b = 101 ∧ 36 ≤ b ∧ z_sum r ≤ 8) (z_g (0 ≤ n ∧ 0 ≤ sp ∧ 0 ≤ dp ∧ sp + n ≤ z_len' V a ∧ dp + n ≤ z_len' V b) (P md (pc + 3) ls r kc ks (z_cpy V a sp.toNat b dp.toNat n.toNat)))
        | _ => False)
      (cond (Nat.beq (z_co i pc).2.2.1 259) (z_i1 st fun a r => z_g (z_sum r ≤ 8) (P md (pc + 3) ls (.inl (z_abs a) :: r) kc ks V))
      (cond (Nat.beq (z_co i pc).2.2.1 260) (z_i2 st fun a b r => z_g (z_sum r ≤ 8) (P md (pc + 3) ls (.inl (z_max a b) :: r) kc ks V))
      (cond (Nat.beq (z_co i pc).2.2.1 261) (z_i2 st fun a b r => z_g (z_sum r ≤ 8) (P md (pc + 3) ls (.inl (z_min a b) :: r) kc ks V))
      (z_call C i (z_co i pc).2.2.1 0 P md pc ls st kc ks V))))
  | .ireturn => match st with | [.inl z] => z_ret (z_rk i) z (Q z V) | _ => False
  | .lreturn => match st with | [.inr (.inl z)] => z_g (z_rk i = 2) (Q z V) | _ => False
  | .areturn => match st with | [.inr (.inr a)] => z_g (z_rk i = 3 ∧ ¬ a = 7) (Q a V) | _ => False
  | .return_ => match st with | [] => z_g (z_rk i = 0) (Q 0 V) | _ => False
  | _ => False
/-- the fixed references stand -/
def z_Gr (V : z_M) : Prop := ∀ a k, ¬ z_rf a k = 0 → V a k = z_rf a k
def z_Ex (C : z_C) (i : Nat) (Q : Int → z_M → Prop) : z_P := fun md pc ls st kc ks V => ∀ P : z_P,
  (∀ md pc ls st kc ks V, z_Stp C i Q P md pc ls st kc ks V → P md pc ls st kc ks V) → (∀ pc ls st kc ks V, z_Gr V → P true pc ls st kc ks V → P false pc ls st kc ks V) → P md pc ls st kc ks V
def z_ent (as : List z_V) (n : Nat) : z_L := z_ea as ++ List.replicate (n - (z_ea as).length) none
/-- a call of method i, at most d calls deep -/
def z_MS : Nat → z_C
  | 0 => fun _ _ _ _ _ => False
  | d + 1 => fun i md as V Q => z_Ex (z_MS d) i Q md 0 (z_ent as (z_ml i)) [] 0 0 V
