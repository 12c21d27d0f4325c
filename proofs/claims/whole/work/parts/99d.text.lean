/-! texts, purely: tokens, and what a text means (one reading for class and reference) -/
def zpRu (b : Nat → Int) (L : Nat) (lo hi : Int) : Nat → Nat → Nat
  | 0, f => f
  | n + 1, f => if f < L ∧ lo ≤ b f ∧ b f ≤ hi then zpRu b L lo hi n (f + 1) else f
def zpRe (b : Nat → Int) (L : Nat) (lo hi : Int) (f : Nat) : Nat := zpRu b L lo hi (L - f) f
theorem zpRe_1 {b : Nat → Int} {L : Nat} {lo hi : Int} {f : Nat} (h : f < L ∧ lo ≤ b f ∧ b f ≤ hi) : zpRe b L lo hi f = zpRe b L lo hi (f + 1) := by
  unfold zpRe
  obtain ⟨n, hn⟩ : ∃ n, L - f = n + 1 := ⟨L - f - 1, by omega⟩
  rw [hn, show L - (f + 1) = n by omega]
  show (if _ then _ else _) = _
  rw [if_pos h]
theorem zpRe_0 {b : Nat → Int} {L : Nat} {lo hi : Int} {f : Nat} (h : ¬ (f < L ∧ lo ≤ b f ∧ b f ≤ hi)) : zpRe b L lo hi f = f := by
  unfold zpRe
  cases L - f with
  | zero => rfl
  | succ n =>
    show (if _ then _ else _) = _
    rw [if_neg h]
theorem zpRe_p {b : Nat → Int} {L : Nat} {lo hi : Int} : ∀ (n f : Nat), L - f = n → f ≤ zpRe b L lo hi f ∧ (f ≤ L → zpRe b L lo hi f ≤ L) ∧ (∀ j, f ≤ j → j < zpRe b L lo hi f → j < L ∧ lo ≤ b j ∧ b j ≤ hi) ∧ ¬ (zpRe b L lo hi f < L ∧ lo ≤ b (zpRe b L lo hi f) ∧ b (zpRe b L lo hi f) ≤ hi)
  | 0, f, e => by
    rw [zpRe_0 (by omega)]
    exact ⟨Nat.le_refl f, id, fun j h1 h2 => absurd h1 (by omega), by omega⟩
  | n + 1, f, e => by
    by_cases h : f < L ∧ lo ≤ b f ∧ b f ≤ hi
    · rw [zpRe_1 h]
      obtain ⟨a1, a2, a3, a4⟩ := zpRe_p (b := b) (L := L) (lo := lo) (hi := hi) n (f + 1) (by omega)
      refine ⟨by omega, fun _ => a2 (by omega), fun j h1 h2 => ?_, a4⟩
      by_cases e2 : j = f
      · subst e2; exact h
      · exact a3 j (by omega) h2
    · rw [zpRe_0 h]
      exact ⟨Nat.le_refl f, id, fun j h1 h2 => absurd h1 (by omega), h⟩
theorem zpRe_le {b : Nat → Int} {L : Nat} {lo hi : Int} {f : Nat} : f ≤ zpRe b L lo hi f := (zpRe_p _ f rfl).1
theorem zpRe_L {b : Nat → Int} {L : Nat} {lo hi : Int} {f : Nat} (h : f ≤ L) : zpRe b L lo hi f ≤ L := (zpRe_p _ f rfl).2.1 h
def zpSk (b : Nat → Int) (L f : Nat) : Nat := zpRe b L 32 32 f
def zpTe (b : Nat → Int) (L f : Nat) : Nat := if f < L then (if 97 ≤ b f ∧ b f ≤ 122 then zpRe b L 97 122 f else if 48 ≤ b f ∧ b f ≤ 57 then zpRe b L 48 57 f else f + 1) else f
def zpNx (b : Nat → Int) (L f : Nat) : Nat := zpSk b L (zpTe b L f)
theorem zpTe_p {b : Nat → Int} {L f : Nat} (h : f ≤ L) : f ≤ zpTe b L f ∧ zpTe b L f ≤ L ∧ (f < L → f < zpTe b L f) := by
  unfold zpTe
  split
  · rename_i hf
    split
    · rename_i hb
      rw [zpRe_1 ⟨hf, hb⟩]
      have h1 := zpRe_le (b := b) (L := L) (lo := 97) (hi := 122) (f := f + 1)
      have h2 := zpRe_L (b := b) (L := L) (lo := 97) (hi := 122) (f := f + 1) (by omega)
      omega
    · split
      · rename_i hb
        rw [zpRe_1 ⟨hf, hb⟩]
        have h1 := zpRe_le (b := b) (L := L) (lo := 48) (hi := 57) (f := f + 1)
        have h2 := zpRe_L (b := b) (L := L) (lo := 48) (hi := 57) (f := f + 1) (by omega)
        omega
      · omega
  · omega
theorem zpNx_p {b : Nat → Int} {L f : Nat} (h : f ≤ L) : f ≤ zpNx b L f ∧ zpTe b L f ≤ zpNx b L f ∧ zpNx b L f ≤ L ∧ (f < L → f < zpNx b L f) := by
  have h1 := zpTe_p (b := b) h
  have h2 : zpTe b L f ≤ zpNx b L f := zpRe_le
  have h3 : zpNx b L f ≤ L := zpRe_L h1.2.1
  exact ⟨by omega, h2, h3, fun q => by have := h1.2.2 q; omega⟩
/-- the length of a token that is a word's: the first letter says that all are letters -/
theorem zpTe_w {b : Nat → Int} {L f : Nat} (hf : f < L) (h : 97 ≤ b f ∧ b f ≤ 122) : zpTe b L f = zpRe b L 97 122 f := by
  unfold zpTe
  rw [if_pos hf, if_pos h]
theorem zpTe_d {b : Nat → Int} {L f : Nat} (hf : f < L) (h : 48 ≤ b f ∧ b f ≤ 57) : zpTe b L f = zpRe b L 48 57 f := by
  unfold zpTe
  rw [if_pos hf, if_neg (by omega), if_pos h]
theorem zpTe_s {b : Nat → Int} {L f : Nat} (hf : f < L) (h : ¬ (97 ≤ b f ∧ b f ≤ 122)) (h2 : ¬ (48 ≤ b f ∧ b f ≤ 57)) : zpTe b L f = f + 1 := by
  unfold zpTe
  rw [if_pos hf, if_neg h, if_neg h2]
theorem zpTe_e {b : Nat → Int} {L f : Nat} (hf : ¬ f < L) : zpTe b L f = f := by
  unfold zpTe
  rw [if_neg hf]
def zpSg (b : Nat → Int) (L f : Nat) (c : Int) : Bool := decide (f < L ∧ b f = c)
/-- the letters of the String in the cell s -/
def zpWl (s : Nat) : Nat := if s = 10 ∨ s = 11 then 2 else if s = 12 ∨ s = 13 then 3 else if s = 9 ∨ s = 20 ∨ s = 21 then 4 else if s = 14 ∨ s = 18 ∨ s = 19 then 6 else 5
def zpWd (b : Nat → Int) (L f s : Nat) : Bool := decide (zpTe b L f - f = zpWl s ∧ ∀ i, i < zpWl s → b (f + i) = z_VS (s + 14) i)
def zpVa (b : Nat → Int) (f : Nat) : Nat → Int
  | 0 => 0
  | n + 1 => zpVa b f n * 10 + (b (f + n) - 48)
def zpNm (b : Nat → Int) (L f : Nat) : Int := if f < L ∧ 48 ≤ b f ∧ b f ≤ 57 ∧ zpVa b f (zpTe b L f - f) ≤ 1000 then zpVa b f (zpTe b L f - f) else -1
def zpFa (b : Nat → Int) (L f : Nat) : Int := if zpWd b L f 14 then 0 else if zpWd b L f 15 then 1 else if zpWd b L f 16 then 2 else if zpWd b L f 17 then 3 else if zpWd b L f 18 then 4 else if zpWd b L f 19 then 5 else if zpWd b L f 20 then 6 else if zpWd b L f 21 then 7 else if zpWd b L f 8 then 8 else -1
def zpCm (b : Nat → Int) (L f : Nat) : Int := if zpSg b L f 60 then 24 else if zpSg b L f 62 then 25 else if zpSg b L f 61 then 26 else -1
theorem zpVa_p {b : Nat → Int} {f : Nat} : ∀ {n : Nat}, (∀ i, i < n → 48 ≤ b (f + i) ∧ b (f + i) ≤ 57) → 0 ≤ zpVa b f n
  | 0, _ => Int.le_refl 0
  | n + 1, h => by
    have h1 := zpVa_p (b := b) (f := f) (n := n) (fun i hi => h i (by omega))
    have h2 := h n (by omega)
    show 0 ≤ zpVa b f n * 10 + (b (f + n) - 48)
    omega
theorem zpVa_m {b : Nat → Int} {f m : Nat} : ∀ {n : Nat}, (∀ i, i < m + n → 48 ≤ b (f + i) ∧ b (f + i) ≤ 57) → zpVa b f m ≤ zpVa b f (m + n)
  | 0, _ => Int.le_refl _
  | n + 1, h => by
    have h1 := zpVa_m (b := b) (f := f) (m := m) (n := n) (fun i hi => h i (by omega))
    have h2 := h (m + n) (by omega)
    have h3 := zpVa_p (b := b) (f := f) (n := m + n) (fun i hi => h i (by omega))
    show _ ≤ zpVa b f (m + n) * 10 + (b (f + (m + n)) - 48)
    omega
theorem zpNm_b {b : Nat → Int} {L f : Nat} : zpNm b L f = -1 ∨ (0 ≤ zpNm b L f ∧ zpNm b L f ≤ 1000 ∧ f < L) := by
  unfold zpNm
  split
  · rename_i h
    have e := zpTe_d h.1 ⟨h.2.1, h.2.2.1⟩
    have p := zpRe_p (b := b) (L := L) (lo := 48) (hi := 57) _ f rfl
    exact Or.inr ⟨zpVa_p (fun i hi => (p.2.2.1 (f + i) (by omega) (by omega)).2), h.2.2.2, h.1⟩
  · exact Or.inl rfl
theorem zpSg_e {b : Nat → Int} {L f : Nat} {c : Int} : (zpSg b L f c = true) = (f < L ∧ b f = c) := by
  unfold zpSg
  rw [decide_eq_true_eq]
theorem zpWl_p (s : Nat) : 2 ≤ zpWl s ∧ zpWl s ≤ 6 := by
  unfold zpWl
  repeat' split
  all_goals omega
theorem zpWd_f {b : Nat → Int} {L f s : Nat} (hf : f ≤ L) (h : zpWd b L f s = true) : f < L ∧ f + 2 ≤ zpTe b L f := by
  unfold zpWd at h
  rw [decide_eq_true_eq] at h
  have p := zpTe_p (b := b) hf
  have q := zpWl_p s
  omega
theorem zpFa_b {b : Nat → Int} {L f : Nat} : -1 ≤ zpFa b L f ∧ zpFa b L f ≤ 8 := by
  unfold zpFa
  repeat' split
  all_goals omega
theorem zpFa_f {b : Nat → Int} {L f : Nat} (hf : f ≤ L) (h : ¬ zpFa b L f = -1) : f < L := by
  unfold zpFa at h
  repeat' split at h
  all_goals first
    | exact (zpWd_f hf ‹_›).1
    | exact absurd rfl h
-- what a text means
abbrev zpF : Type := (Nat → Int) → Option Int
abbrev zpR : Type := Nat ⊕ (Nat × Nat × zpF)
def zpBi (op : Int) (F G : zpF) : zpF := fun f => (F f).bind fun a => (G f).bind fun b => zRk op a b
def zpLg (t : Int) (F G : zpF) : zpF := fun f => (F f).bind fun a => if a = t then some t else G f
def zpNg (F : zpF) : zpF := fun f => (F f).map fun a => 1 - a
def zpBd (r : Option zpR) (g : Nat → Nat → zpF → Option zpR) : Option zpR := match r with
  | none => none
  | some (.inl p) => some (.inl p)
  | some (.inr (f, k, F)) => g f k F
section
variable (b : Nat → Int) (L : Nat)
def zpLf (f : Nat) : zpF := if zpNm b L f = -1 then (fun x => some (x (zpFa b L f).toNat)) else fun _ => some (zpNm b L f)
/-- modes: 0 part, 1 term, 2 its loop, 3 sum, 4 its loop, 5 plain, 7 both, 8 its loop, 9 test, 10 its loop -/
def zpPa : Nat → Nat → Nat → Nat → Nat → zpF → Option zpR
  | 0, _, _, _, _, _ => none
  | n + 1, m, dd, f, k, F =>
    if m = 0 then
      (if zpSg b L f 91 then (if 8 ≤ dd then some (.inl f) else zpBd (zpPa n 3 (dd + 1) (zpNx b L f) k F) fun f2 k2 G => if zpSg b L f2 93 then some (.inr (zpNx b L f2, k2, G)) else some (.inl f2))
      else if 50 ≤ k ∨ (zpNm b L f = -1 ∧ zpFa b L f = -1) then some (.inl f) else some (.inr (zpNx b L f, k + 1, zpLf b L f)))
    else if m = 1 then zpBd (zpPa n 0 dd f k F) fun f2 k2 G => zpPa n 2 dd f2 k2 G
    else if m = 2 then
      (if zpSg b L f 42 then zpBd (zpPa n 0 dd (zpNx b L f) k F) fun f2 k2 G => zpPa n 2 dd f2 k2 (zpBi 22 F G)
      else if zpSg b L f 47 then zpBd (zpPa n 0 dd (zpNx b L f) k F) fun f2 k2 G => zpPa n 2 dd f2 k2 (zpBi 23 F G) else some (.inr (f, k, F)))
    else if m = 3 then zpBd (zpPa n 1 dd f k F) fun f2 k2 G => zpPa n 4 dd f2 k2 G
    else if m = 4 then
      (if zpSg b L f 43 then zpBd (zpPa n 1 dd (zpNx b L f) k F) fun f2 k2 G => zpPa n 4 dd f2 k2 (zpBi 20 F G)
      else if zpSg b L f 45 then zpBd (zpPa n 1 dd (zpNx b L f) k F) fun f2 k2 G => zpPa n 4 dd f2 k2 (zpBi 21 F G) else some (.inr (f, k, F)))
    else if m = 5 then
      (if zpWd b L f 13 then zpBd (zpPa n 5 dd (zpNx b L f) k F) fun f2 k2 G => some (.inr (f2, k2, zpNg G))
      else if zpSg b L f 40 then (if 8 ≤ dd then some (.inl f) else zpBd (zpPa n 9 (dd + 1) (zpNx b L f) k F) fun f2 k2 G => if zpSg b L f2 41 then some (.inr (zpNx b L f2, k2, G)) else some (.inl f2))
      else zpBd (zpPa n 3 dd f k F) fun f2 k2 G => if zpCm b L f2 = -1 then some (.inl f2) else zpBd (zpPa n 3 dd (zpNx b L f2) k2 F) fun f3 k3 H => some (.inr (f3, k3, zpBi (zpCm b L f2) G H)))
    else if m = 7 then zpBd (zpPa n 5 dd f k F) fun f2 k2 G => zpPa n 8 dd f2 k2 G
    else if m = 8 then
      (if zpWd b L f 12 then zpBd (zpPa n 5 dd (zpNx b L f) k F) fun f2 k2 G => zpPa n 8 dd f2 k2 (zpLg 0 F G) else some (.inr (f, k, F)))
    else if m = 9 then zpBd (zpPa n 7 dd f k F) fun f2 k2 G => zpPa n 10 dd f2 k2 G
    else
      (if zpWd b L f 11 then zpBd (zpPa n 7 dd (zpNx b L f) k F) fun f2 k2 G => zpPa n 10 dd f2 k2 (zpLg 1 F G) else some (.inr (f, k, F)))
end
section
variable {b : Nat → Int} {L : Nat}
theorem zpPa_0 {n dd f k : Nat} {F : zpF} : zpPa b L (n + 1) 0 dd f k F = (if zpSg b L f 91 then (if 8 ≤ dd then some (.inl f) else zpBd (zpPa b L n 3 (dd + 1) (zpNx b L f) k F) fun f2 k2 G => if zpSg b L f2 93 then some (.inr (zpNx b L f2, k2, G)) else some (.inl f2))
      else if 50 ≤ k ∨ (zpNm b L f = -1 ∧ zpFa b L f = -1) then some (.inl f) else some (.inr (zpNx b L f, k + 1, zpLf b L f))) := rfl
theorem zpPa_1 {n dd f k : Nat} {F : zpF} : zpPa b L (n + 1) 1 dd f k F = zpBd (zpPa b L n 0 dd f k F) fun f2 k2 G => zpPa b L n 2 dd f2 k2 G := rfl
theorem zpPa_2 {n dd f k : Nat} {F : zpF} : zpPa b L (n + 1) 2 dd f k F = (if zpSg b L f 42 then zpBd (zpPa b L n 0 dd (zpNx b L f) k F) fun f2 k2 G => zpPa b L n 2 dd f2 k2 (zpBi 22 F G)
      else if zpSg b L f 47 then zpBd (zpPa b L n 0 dd (zpNx b L f) k F) fun f2 k2 G => zpPa b L n 2 dd f2 k2 (zpBi 23 F G) else some (.inr (f, k, F))) := rfl
theorem zpPa_3 {n dd f k : Nat} {F : zpF} : zpPa b L (n + 1) 3 dd f k F = zpBd (zpPa b L n 1 dd f k F) fun f2 k2 G => zpPa b L n 4 dd f2 k2 G := rfl
theorem zpPa_4 {n dd f k : Nat} {F : zpF} : zpPa b L (n + 1) 4 dd f k F = (if zpSg b L f 43 then zpBd (zpPa b L n 1 dd (zpNx b L f) k F) fun f2 k2 G => zpPa b L n 4 dd f2 k2 (zpBi 20 F G)
      else if zpSg b L f 45 then zpBd (zpPa b L n 1 dd (zpNx b L f) k F) fun f2 k2 G => zpPa b L n 4 dd f2 k2 (zpBi 21 F G) else some (.inr (f, k, F))) := rfl
theorem zpPa_5 {n dd f k : Nat} {F : zpF} : zpPa b L (n + 1) 5 dd f k F = (if zpWd b L f 13 then zpBd (zpPa b L n 5 dd (zpNx b L f) k F) fun f2 k2 G => some (.inr (f2, k2, zpNg G))
      else if zpSg b L f 40 then (if 8 ≤ dd then some (.inl f) else zpBd (zpPa b L n 9 (dd + 1) (zpNx b L f) k F) fun f2 k2 G => if zpSg b L f2 41 then some (.inr (zpNx b L f2, k2, G)) else some (.inl f2))
      else zpBd (zpPa b L n 3 dd f k F) fun f2 k2 G => if zpCm b L f2 = -1 then some (.inl f2) else zpBd (zpPa b L n 3 dd (zpNx b L f2) k2 F) fun f3 k3 H => some (.inr (f3, k3, zpBi (zpCm b L f2) G H))) := rfl
theorem zpPa_7 {n dd f k : Nat} {F : zpF} : zpPa b L (n + 1) 7 dd f k F = zpBd (zpPa b L n 5 dd f k F) fun f2 k2 G => zpPa b L n 8 dd f2 k2 G := rfl
theorem zpPa_8 {n dd f k : Nat} {F : zpF} : zpPa b L (n + 1) 8 dd f k F = (if zpWd b L f 12 then zpBd (zpPa b L n 5 dd (zpNx b L f) k F) fun f2 k2 G => zpPa b L n 8 dd f2 k2 (zpLg 0 F G) else some (.inr (f, k, F))) := rfl
theorem zpPa_9 {n dd f k : Nat} {F : zpF} : zpPa b L (n + 1) 9 dd f k F = zpBd (zpPa b L n 7 dd f k F) fun f2 k2 G => zpPa b L n 10 dd f2 k2 G := rfl
theorem zpPa_10 {n dd f k : Nat} {F : zpF} : zpPa b L (n + 1) 10 dd f k F = (if zpWd b L f 11 then zpBd (zpPa b L n 7 dd (zpNx b L f) k F) fun f2 k2 G => zpPa b L n 10 dd f2 k2 (zpLg 1 F G) else some (.inr (f, k, F))) := rfl
theorem zpBd_r {r : Option zpR} {g : Nat → Nat → zpF → Option zpR} {x : zpR} (h : zpBd r g = some x) : (∃ p, r = some (.inl p) ∧ x = .inl p) ∨ ∃ f k F, r = some (.inr (f, k, F)) ∧ g f k F = some x := by
  unfold zpBd at h
  split at h
  · exact absurd h (by simp)
  · rename_i p
    injection h with h
    exact Or.inl ⟨p, rfl, h.symm⟩
  · rename_i f k F
    exact Or.inr ⟨f, k, F, rfl, h⟩
/-- 0 or 1 -/
def zp01 (F : zpF) : Prop := ∀ f v, F f = some v → v = 0 ∨ v = 1
theorem zp01_n {F : zpF} (h : zp01 F) : zp01 (zpNg F) := by
  intro f v hv
  unfold zpNg at hv
  cases hF : F f with
  | none => rw [hF] at hv; exact absurd hv (by simp)
  | some a =>
    rw [hF] at hv
    have := h f a hF
    have hv2 : some (1 - a) = some v := hv
    injection hv2 with hv2
    omega
theorem zp01_l {t : Int} {F G : zpF} (ht : t = 0 ∨ t = 1) (h2 : zp01 G) : zp01 (zpLg t F G) := by
  intro f v hv
  unfold zpLg at hv
  cases hF : F f with
  | none => rw [hF] at hv; exact absurd hv (by simp)
  | some a =>
    rw [hF] at hv
    have hv2 : (if a = t then some t else G f) = some v := hv
    split at hv2
    · injection hv2 with hv2; omega
    · exact h2 f v hv2
theorem zp01_b {op : Int} {F G : zpF} (ho : op = 24 ∨ op = 25 ∨ op = 26) : zp01 (zpBi op F G) := by
  intro f v hv
  unfold zpBi at hv
  cases hF : F f with
  | none => rw [hF] at hv; exact absurd hv (by simp)
  | some a =>
    cases hG : G f with
    | none => rw [hF, hG] at hv; exact absurd hv (by simp)
    | some c =>
      rw [hF, hG] at hv
      have hv2 : zRk op a c = some v := hv
      rcases ho with rfl | rfl | rfl
      · rw [zRk_24] at hv2; injection hv2 with hv2; subst hv2; split <;> omega
      · rw [zRk_25] at hv2; injection hv2 with hv2; subst hv2; split <;> omega
      · rw [zRk_26] at hv2; injection hv2 with hv2; subst hv2; split <;> omega
theorem zpNg_n {F : zpF} (h : zp01 F) : zpNg (zpNg F) = F := by
  funext f
  unfold zpNg
  cases hF : F f with
  | none => rfl
  | some a =>
    have := h f a hF
    show some (1 - (1 - a)) = some a
    rw [show 1 - (1 - a) = a by omega]
theorem zpCm_b {f : Nat} : zpCm b L f = -1 ∨ (f < L ∧ (zpCm b L f = 24 ∨ zpCm b L f = 25 ∨ zpCm b L f = 26)) := by
  unfold zpCm
  split
  · rename_i h; rw [zpSg_e] at h; exact Or.inr ⟨h.1, by omega⟩
  · split
    · rename_i h; rw [zpSg_e] at h; exact Or.inr ⟨h.1, by omega⟩
    · split
      · rename_i h; rw [zpSg_e] at h; exact Or.inr ⟨h.1, by omega⟩
      · exact Or.inl rfl
/-- how far a mode is from a token's end -/
def zpRk (m : Nat) : Nat := if m = 0 then 1 else if m = 1 then 2 else if m = 2 then 1 else if m = 3 then 3 else if m = 4 then 1 else if m = 5 then 4 else if m = 7 then 5 else if m = 8 then 1 else if m = 9 then 6 else 1
def zpM (m : Nat) : Prop := m = 0 ∨ m = 1 ∨ m = 2 ∨ m = 3 ∨ m = 4 ∨ m = 5 ∨ m = 7 ∨ m = 8 ∨ m = 9 ∨ m = 10
/-- what a reading leaves -/
def zpK (b : Nat → Int) (L m f : Nat) (x : zpR) : Prop := ∀ f2 k2 G, x = .inr (f2, k2, G) → f ≤ f2 ∧ f2 ≤ L ∧ (m = 0 ∨ m = 1 ∨ m = 3 ∨ m = 5 ∨ m = 7 ∨ m = 9 → f < f2) ∧
  (m = 1 ∨ m = 2 ∨ m = 3 ∨ m = 4 → zpSg b L f2 42 = false ∧ zpSg b L f2 47 = false) ∧ (m = 3 ∨ m = 4 → zpSg b L f2 43 = false ∧ zpSg b L f2 45 = false) ∧ (5 ≤ m → zp01 G) ∧
  (m = 7 ∨ m = 8 ∨ m = 9 ∨ m = 10 → zpWd b L f2 12 = false) ∧ (m = 9 ∨ m = 10 → zpWd b L f2 11 = false)
theorem zpK_l {m f p : Nat} : zpK b L m f (.inl p) := fun _ _ _ e => nomatch e
theorem zpK_r {m f f2 k2 : Nat} {G : zpF} (h1 : f ≤ f2) (h2 : f2 ≤ L) (h3 : m = 0 ∨ m = 1 ∨ m = 3 ∨ m = 5 ∨ m = 7 ∨ m = 9 → f < f2) (h4 : m = 1 ∨ m = 2 ∨ m = 3 ∨ m = 4 → zpSg b L f2 42 = false ∧ zpSg b L f2 47 = false) (h5 : m = 3 ∨ m = 4 → zpSg b L f2 43 = false ∧ zpSg b L f2 45 = false) (h6 : 5 ≤ m → zp01 G) (h7 : m = 7 ∨ m = 8 ∨ m = 9 ∨ m = 10 → zpWd b L f2 12 = false) (h8 : m = 9 ∨ m = 10 → zpWd b L f2 11 = false) : zpK b L m f (.inr (f2, k2, G)) := by
  intro f3 k3 H e
  cases e
  exact ⟨h1, h2, h3, h4, h5, h6, h7, h8⟩
theorem zpBd_c {K P : zpR → Prop} {r : Option zpR} {g : Nat → Nat → zpF → Option zpR} (h : ∃ x, r = some x ∧ K x) (hf : ∀ p, P (.inl p)) (hg : ∀ f k F, K (.inr (f, k, F)) → ∃ y, g f k F = some y ∧ P y) : ∃ y, zpBd r g = some y ∧ P y := by
  obtain ⟨x, rfl, hx⟩ := h
  rcases x with p | ⟨f, k, F⟩
  · exact ⟨_, rfl, hf p⟩
  · exact hg f k F hx
theorem zpK_up {m m2 f f2 : Nat} {x : zpR} (h : zpK b L m2 f2 x) (hf : f < f2 ∨ (f ≤ f2 ∧ ¬ (m = 0 ∨ m = 1 ∨ m = 3 ∨ m = 5 ∨ m = 7 ∨ m = 9)) ∨ (f ≤ f2 ∧ (m2 = 0 ∨ m2 = 1 ∨ m2 = 3 ∨ m2 = 5 ∨ m2 = 7 ∨ m2 = 9))) (h1 : (m = 1 ∨ m = 2 ∨ m = 3 ∨ m = 4) → (m2 = 1 ∨ m2 = 2 ∨ m2 = 3 ∨ m2 = 4)) (h2 : m = 3 ∨ m = 4 → m2 = 3 ∨ m2 = 4) (h3 : 5 ≤ m → 5 ≤ m2) (h4 : (m = 7 ∨ m = 8 ∨ m = 9 ∨ m = 10) → (m2 = 7 ∨ m2 = 8 ∨ m2 = 9 ∨ m2 = 10)) (h5 : m = 9 ∨ m = 10 → m2 = 9 ∨ m2 = 10) : zpK b L m f x := by
  intro f3 k3 H e
  obtain ⟨a1, a2, a3, a4, a5, a6, a7, a8⟩ := h f3 k3 H e
  refine ⟨by omega, a2, fun q => ?_, fun q => a4 (h1 q), fun q => a5 (h2 q), fun q => a6 (h3 q), fun q => a7 (h4 q), fun q => a8 (h5 q)⟩
  rcases hf with h | h | h
  · omega
  · exact absurd q h.2
  · have := a3 h.2; omega
theorem zpPa_t : ∀ (n m dd f k : Nat) (F : zpF), zpM m → f ≤ L → 20 * (L - f) + zpRk m < n → (m = 4 → zpSg b L f 42 = false ∧ zpSg b L f 47 = false) → (m = 8 ∨ m = 10 → zp01 F) → (m = 10 → zpWd b L f 12 = false) → ∃ x, zpPa b L n m dd f k F = some x ∧ zpK b L m f x
  | 0, _, _, _, _, _, _, _, h, _, _, _ => absurd h (by omega)
  | n + 1, m, dd, f, k, F, hm, hf, hn, p4, p8, p10 => by
    have ih := zpPa_t n
    have nx := zpNx_p (b := b) hf
    have r0 : zpRk 0 = 1 := rfl
    have r1 : zpRk 1 = 2 := rfl
    have r2 : zpRk 2 = 1 := rfl
    have r3 : zpRk 3 = 3 := rfl
    have r4 : zpRk 4 = 1 := rfl
    have r5 : zpRk 5 = 4 := rfl
    have r7 : zpRk 7 = 5 := rfl
    have r8 : zpRk 8 = 1 := rfl
    have r9 : zpRk 9 = 6 := rfl
    have r10 : zpRk 10 = 1 := rfl
    rcases hm with rfl | rfl | rfl | rfl | rfl | rfl | rfl | rfl | rfl | rfl
    · rw [zpPa_0]
      split
      · rename_i hs
        rw [zpSg_e] at hs
        have := nx.2.2.2 hs.1
        split
        · exact ⟨_, rfl, zpK_l⟩
        · refine zpBd_c (ih 3 (dd + 1) (zpNx b L f) k F (by unfold zpM; omega) nx.2.2.1 (by omega) (by omega) (by omega) (by omega)) (fun p => zpK_l) (fun f2 k2 G hK => ?_)
          have q := hK f2 k2 G rfl
          split
          · have n2 := zpNx_p (b := b) q.2.1
            exact ⟨_, rfl, zpK_r (by omega) n2.2.2.1 (by omega) (fun h => absurd h (by omega)) (fun h => absurd h (by omega)) (fun h => absurd h (by omega)) (fun h => absurd h (by omega)) (fun h => absurd h (by omega))⟩
          · exact ⟨_, rfl, zpK_l⟩
      · split
        · exact ⟨_, rfl, zpK_l⟩
        · rename_i hq
          have hfl : f < L := by
            have a1 := zpNm_b (b := b) (L := L) (f := f)
            by_cases h1 : zpFa b L f = -1
            · omega
            · exact zpFa_f hf h1
          have := nx.2.2.2 hfl
          exact ⟨_, rfl, zpK_r (by omega) nx.2.2.1 (by omega) (fun h => absurd h (by omega)) (fun h => absurd h (by omega)) (fun h => absurd h (by omega)) (fun h => absurd h (by omega)) (fun h => absurd h (by omega))⟩
    · rw [zpPa_1]
      refine zpBd_c (ih 0 dd f k F (by unfold zpM; omega) hf (by omega) (by omega) (by omega) (by omega)) (fun p => zpK_l) (fun f2 k2 G hK => ?_)
      have q := hK f2 k2 G rfl
      have q3 := q.2.2.1 (by omega)
      obtain ⟨x, e, hx⟩ := ih 2 dd f2 k2 G (by unfold zpM; omega) q.2.1 (by omega) (by omega) (by omega) (by omega)
      exact ⟨x, e, zpK_up hx (by omega) (by omega) (by omega) (by omega) (by omega) (by omega)⟩
    · rw [zpPa_2]
      have go : ∀ c op, zpSg b L f c = true → ∃ x, (zpBd (zpPa b L n 0 dd (zpNx b L f) k F) fun f2 k2 G => zpPa b L n 2 dd f2 k2 (zpBi op F G)) = some x ∧ zpK b L 2 f x := by
        intro c op hs
        rw [zpSg_e] at hs
        have := nx.2.2.2 hs.1
        refine zpBd_c (ih 0 dd (zpNx b L f) k F (by unfold zpM; omega) nx.2.2.1 (by omega) (by omega) (by omega) (by omega)) (fun p => zpK_l) (fun f2 k2 G hK => ?_)
        have q := hK f2 k2 G rfl
        obtain ⟨x, e, hx⟩ := ih 2 dd f2 k2 (zpBi op F G) (by unfold zpM; omega) q.2.1 (by omega) (by omega) (by omega) (by omega)
        exact ⟨x, e, zpK_up hx (by omega) (by omega) (by omega) (by omega) (by omega) (by omega)⟩
      split
      · rename_i hs; exact go _ _ hs
      · split
        · rename_i hs; exact go _ _ hs
        · rename_i h1 h2
          exact ⟨_, rfl, zpK_r (by omega) hf (fun h => absurd h (by omega)) (fun _ => ⟨Bool.eq_false_iff.mpr h1, Bool.eq_false_iff.mpr h2⟩) (fun h => absurd h (by omega)) (fun h => absurd h (by omega)) (fun h => absurd h (by omega)) (fun h => absurd h (by omega))⟩
    · rw [zpPa_3]
      refine zpBd_c (ih 1 dd f k F (by unfold zpM; omega) hf (by omega) (by omega) (by omega) (by omega)) (fun p => zpK_l) (fun f2 k2 G hK => ?_)
      have q := hK f2 k2 G rfl
      have q3 := q.2.2.1 (by omega)
      obtain ⟨x, e, hx⟩ := ih 4 dd f2 k2 G (by unfold zpM; omega) q.2.1 (by omega) (fun _ => q.2.2.2.1 (by omega)) (by omega) (by omega)
      exact ⟨x, e, zpK_up hx (by omega) (by omega) (by omega) (by omega) (by omega) (by omega)⟩
    · rw [zpPa_4]
      have go : ∀ c op, zpSg b L f c = true → ∃ x, (zpBd (zpPa b L n 1 dd (zpNx b L f) k F) fun f2 k2 G => zpPa b L n 4 dd f2 k2 (zpBi op F G)) = some x ∧ zpK b L 4 f x := by
        intro c op hs
        rw [zpSg_e] at hs
        have := nx.2.2.2 hs.1
        refine zpBd_c (ih 1 dd (zpNx b L f) k F (by unfold zpM; omega) nx.2.2.1 (by omega) (by omega) (by omega) (by omega)) (fun p => zpK_l) (fun f2 k2 G hK => ?_)
        have q := hK f2 k2 G rfl
        obtain ⟨x, e, hx⟩ := ih 4 dd f2 k2 (zpBi op F G) (by unfold zpM; omega) q.2.1 (by omega) (fun _ => q.2.2.2.1 (by omega)) (by omega) (by omega)
        exact ⟨x, e, zpK_up hx (by omega) (by omega) (by omega) (by omega) (by omega) (by omega)⟩
      split
      · rename_i hs; exact go _ _ hs
      · split
        · rename_i hs; exact go _ _ hs
        · rename_i h1 h2
          exact ⟨_, rfl, zpK_r (by omega) hf (fun h => absurd h (by omega)) (fun _ => p4 rfl) (fun _ => ⟨Bool.eq_false_iff.mpr h1, Bool.eq_false_iff.mpr h2⟩) (fun h => absurd h (by omega)) (fun h => absurd h (by omega)) (fun h => absurd h (by omega))⟩
    · rw [zpPa_5]
      split
      · rename_i hw
        have hw2 := zpWd_f hf hw
        have := nx.2.2.2 hw2.1
        refine zpBd_c (ih 5 dd (zpNx b L f) k F (by unfold zpM; omega) nx.2.2.1 (by omega) (by omega) (by omega) (by omega)) (fun p => zpK_l) (fun f2 k2 G hK => ?_)
        have q := hK f2 k2 G rfl
        exact ⟨_, rfl, zpK_r (by omega) q.2.1 (by omega) (fun h => absurd h (by omega)) (fun h => absurd h (by omega)) (fun _ => zp01_n (q.2.2.2.2.2.1 (by omega))) (fun h => absurd h (by omega)) (fun h => absurd h (by omega))⟩
      · split
        · rename_i hs
          rw [zpSg_e] at hs
          have := nx.2.2.2 hs.1
          split
          · exact ⟨_, rfl, zpK_l⟩
          · refine zpBd_c (ih 9 (dd + 1) (zpNx b L f) k F (by unfold zpM; omega) nx.2.2.1 (by omega) (by omega) (by omega) (by omega)) (fun p => zpK_l) (fun f2 k2 G hK => ?_)
            have q := hK f2 k2 G rfl
            split
            · have n2 := zpNx_p (b := b) q.2.1
              exact ⟨_, rfl, zpK_r (by omega) n2.2.2.1 (by omega) (fun h => absurd h (by omega)) (fun h => absurd h (by omega)) (fun _ => q.2.2.2.2.2.1 (by omega)) (fun h => absurd h (by omega)) (fun h => absurd h (by omega))⟩
            · exact ⟨_, rfl, zpK_l⟩
        · refine zpBd_c (ih 3 dd f k F (by unfold zpM; omega) hf (by omega) (by omega) (by omega) (by omega)) (fun p => zpK_l) (fun f2 k2 G hK => ?_)
          have q := hK f2 k2 G rfl
          have q3 := q.2.2.1 (by omega)
          split
          · exact ⟨_, rfl, zpK_l⟩
          · rename_i hc
            have n2 := zpNx_p (b := b) q.2.1
            have c2 := (zpCm_b (b := b) (L := L) (f := f2)).resolve_left hc
            refine zpBd_c (ih 3 dd (zpNx b L f2) k2 F (by unfold zpM; omega) n2.2.2.1 (by omega) (by omega) (by omega) (by omega)) (fun p => zpK_l) (fun f3 k3 H hK2 => ?_)
            have q2 := hK2 f3 k3 H rfl
            exact ⟨_, rfl, zpK_r (by omega) q2.2.1 (by omega) (fun h => absurd h (by omega)) (fun h => absurd h (by omega)) (fun _ => zp01_b c2.2) (fun h => absurd h (by omega)) (fun h => absurd h (by omega))⟩
    · rw [zpPa_7]
      refine zpBd_c (ih 5 dd f k F (by unfold zpM; omega) hf (by omega) (by omega) (by omega) (by omega)) (fun p => zpK_l) (fun f2 k2 G hK => ?_)
      have q := hK f2 k2 G rfl
      have q3 := q.2.2.1 (by omega)
      obtain ⟨x, e, hx⟩ := ih 8 dd f2 k2 G (by unfold zpM; omega) q.2.1 (by omega) (by omega) (fun _ => q.2.2.2.2.2.1 (by omega)) (by omega)
      exact ⟨x, e, zpK_up hx (by omega) (by omega) (by omega) (by omega) (by omega) (by omega)⟩
    · rw [zpPa_8]
      split
      · rename_i hw
        have hw2 := zpWd_f hf hw
        have := nx.2.2.2 hw2.1
        refine zpBd_c (ih 5 dd (zpNx b L f) k F (by unfold zpM; omega) nx.2.2.1 (by omega) (by omega) (by omega) (by omega)) (fun p => zpK_l) (fun f2 k2 G hK => ?_)
        have q := hK f2 k2 G rfl
        obtain ⟨x, e, hx⟩ := ih 8 dd f2 k2 (zpLg 0 F G) (by unfold zpM; omega) q.2.1 (by omega) (by omega) (fun _ => zp01_l (Or.inl rfl) (q.2.2.2.2.2.1 (by omega))) (by omega)
        exact ⟨x, e, zpK_up hx (by omega) (by omega) (by omega) (by omega) (by omega) (by omega)⟩
      · rename_i hw
        exact ⟨_, rfl, zpK_r (by omega) hf (fun h => absurd h (by omega)) (fun h => absurd h (by omega)) (fun h => absurd h (by omega)) (fun _ => p8 (by omega)) (fun _ => Bool.eq_false_iff.mpr hw) (fun h => absurd h (by omega))⟩
    · rw [zpPa_9]
      refine zpBd_c (ih 7 dd f k F (by unfold zpM; omega) hf (by omega) (by omega) (by omega) (by omega)) (fun p => zpK_l) (fun f2 k2 G hK => ?_)
      have q := hK f2 k2 G rfl
      have q3 := q.2.2.1 (by omega)
      obtain ⟨x, e, hx⟩ := ih 10 dd f2 k2 G (by unfold zpM; omega) q.2.1 (by omega) (by omega) (fun _ => q.2.2.2.2.2.1 (by omega)) (fun _ => q.2.2.2.2.2.2.1 (by omega))
      exact ⟨x, e, zpK_up hx (by omega) (by omega) (by omega) (by omega) (by omega) (by omega)⟩
    · rw [zpPa_10]
      split
      · rename_i hw
        have hw2 := zpWd_f hf hw
        have := nx.2.2.2 hw2.1
        refine zpBd_c (ih 7 dd (zpNx b L f) k F (by unfold zpM; omega) nx.2.2.1 (by omega) (by omega) (by omega) (by omega)) (fun p => zpK_l) (fun f2 k2 G hK => ?_)
        have q := hK f2 k2 G rfl
        obtain ⟨x, e, hx⟩ := ih 10 dd f2 k2 (zpLg 1 F G) (by unfold zpM; omega) q.2.1 (by omega) (by omega) (fun _ => zp01_l (Or.inr rfl) (q.2.2.2.2.2.1 (by omega))) (fun _ => q.2.2.2.2.2.2.1 (by omega))
        exact ⟨x, e, zpK_up hx (by omega) (by omega) (by omega) (by omega) (by omega) (by omega)⟩
      · rename_i hw
        exact ⟨_, rfl, zpK_r (by omega) hf (fun h => absurd h (by omega)) (fun h => absurd h (by omega)) (fun h => absurd h (by omega)) (fun _ => p8 (by omega)) (fun _ => p10 rfl) (fun _ => Bool.eq_false_iff.mpr hw)⟩
end
