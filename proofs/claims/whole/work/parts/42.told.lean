/-! the laws, the told state, the relation of class and reference -/
/-- whether a clause holds: t its test's answer (none: broken), u its sum's -/
def zHo (ts : Bool) (t : Option Int) (hd : Int) (u : Option Int) : Bool :=
  (match ts, t with | false, _ => true | true, some v => !(v == 0) | true, none => false) && (!(hd == 0) || u.isSome)
/-- what a law tells after c clauses: none, it bars -/
def zFo (hd : Nat → Int) (Fs Ft : Nat → (Nat → Int) → Option Int) (ts : Nat → Bool) (f : Nat → Int) : Nat → Option Int
  | 0 => some (f 8)
  | c + 1 => match zFo hd Fs Ft ts f c with
    | none => none
    | some w => cond (zHo (ts c) (Ft c f) (hd c) (Fs c f)) (if hd c = 0 then Fs c f else none) (some w)
/-- the reference's law l in a row of cells -/
def zLm (ρ : Nat → Int) (l : Nat) (F : (Nat → Int) → Int) : Prop := ∃ (n : Nat) (hd : Nat → Int) (Fs Ft : Nat → (Nat → Int) → Option Int) (ts : Nat → Bool),
  1 ≤ n ∧ n ≤ 12 ∧ (∀ f, zFb f → F f = (zFo hd Fs Ft ts f n).getD (-1)) ∧ ρ (91 + 900 * l) = n ∧ ∀ c, c < n →
    ρ (92 + 900 * l + 8 * c) = hd c ∧ (hd c = 0 ∨ hd c = 1) ∧
    (hd c = 0 → ∃ s e : Nat, ρ (95 + 900 * l + 8 * c) = s ∧ ρ (96 + 900 * l + 8 * c) = e ∧ e ≤ 400 ∧ zSeg (fun k => ρ (188 + 900 * l + 2 * k)) (fun k => ρ (189 + 900 * l + 2 * k)) 390 s e (Fs c)) ∧
    (ts c = true → ∃ s e : Nat, ρ (97 + 900 * l + 8 * c) = s ∧ ρ (98 + 900 * l + 8 * c) = e ∧ e ≤ 400 ∧ zSeg (fun k => ρ (188 + 900 * l + 2 * k)) (fun k => ρ (189 + 900 * l + 2 * k)) 390 s e (Ft c)) ∧
    (ts c = false → ρ (97 + 900 * l + 8 * c) = ρ (98 + 900 * l + 8 * c))
/-- the class's steps as the reference's -/
def zTr (step num : Int) : Int :=
  if step = 0 then 0 else if step = 1 then (if 0 ≤ num ∧ num ≤ 8 then num + 1 else 40) else if 2 ≤ step ∧ step ≤ 8 then step + 18 else if step = 9 then 27 else if step = 10 then 29 else if step = 11 then 28 else 40
/-- the class's law in the cells from c on -/
def zLx (V : z_M) (c : Nat) (F : (Nat → Int) → Int) : Prop := ∃ (n : Nat) (hd : Nat → Int) (Fs Ft : Nat → (Nat → Int) → Option Int) (ts : Nat → Bool) (S : Nat → Nat) (Z : Nat),
  1 ≤ n ∧ n ≤ 12 ∧ (∀ f, zFb f → F f = (zFo hd Fs Ft ts f n).getD (-1)) ∧ V c 0 = (c : Int) + 1 ∧ V c 1 = (c : Int) + 2 ∧ V c 2 = (c : Int) + 3 ∧
  V 0 (c + 1) = Z ∧ V 0 (c + 2) = Z ∧ V 0 (c + 3) = (n : Int) + 1 ∧ Z ≤ 400 ∧ (∀ k, k ≤ n → V (c + 3) k = S k ∧ S k ≤ Z) ∧
  ∀ k, k < n → (hd k = 0 ∨ hd k = 1) ∧ ∃ a b : Nat, S k ≤ a ∧ a ≤ b ∧ b + 1 = S (k + 1) ∧ V (c + 1) b = (if hd k = 0 then 13 else 14) ∧
    (if hd k = 0 then zSeg (fun j => zTr (V (c + 1) j) (V (c + 2) j)) (fun j => V (c + 2) j) 20 (S k) a (Fs k) else a = S k) ∧
    (if ts k = true then (a < b ∧ V (c + 1) (b - 1) = 12 ∧ zSeg (fun j => zTr (V (c + 1) j) (V (c + 2) j)) (fun j => V (c + 2) j) 20 a (b - 1) (Ft k)) else a = b)
/-- what is told: the class's cells from b on, the reference's row ρ, the laws' meanings -/
def zT (b : Nat) (ρ : Nat → Int) (V : z_M) (Λ : Nat → (Nat → Int) → Int) : Prop :=
  (V b 7 = ρ 0 ∧ 0 ≤ ρ 0 ∧ ρ 0 ≤ 12) ∧ (V b 8 = ρ 1 ∧ 0 ≤ ρ 1 ∧ ρ 1 ≤ 6) ∧ (V b 9 = ρ 2 ∧ 0 ≤ ρ 2 ∧ ρ 2 ≤ 6) ∧ (V b 10 = ρ 3 ∧ -1 ≤ ρ 3 ∧ ρ 3 < ρ 2) ∧
  (V b 11 = ρ 4 ∧ 0 ≤ ρ 4 ∧ ρ 4 ≤ 7) ∧ (V b 12 = ρ 5 ∧ 0 ≤ ρ 5 ∧ ρ 5 ≤ 8) ∧ (V (b + 9) 0 = ρ 6 ∧ 0 ≤ ρ 6 ∧ ρ 6 ≤ 23) ∧ (V (b + 9) 1 = ρ 7 ∧ 0 ≤ ρ 7 ∧ ρ 7 ≤ 9) ∧
  (∀ t : Nat, (t : Int) < ρ 0 → V (b + 2) t = ρ (8 + 4 * t) ∧ V (b + 3) t = ρ (9 + 4 * t) ∧ V (b + 4) t = ρ (10 + 4 * t) ∧ V (b + 5) t = ρ (11 + 4 * t) ∧ 1 ≤ ρ (8 + 4 * t) ∧ ρ (8 + 4 * t) ≤ 9 ∧ 1 ≤ ρ (9 + 4 * t) ∧ ρ (9 + 4 * t) ≤ 99 ∧ 0 ≤ ρ (10 + 4 * t) ∧ ρ (10 + 4 * t) ≤ 9 ∧ 0 ≤ ρ (11 + 4 * t) ∧ ρ (11 + 4 * t) ≤ 1) ∧
  (∀ r : Nat, (r : Int) < ρ 1 → V (b + 7) r = ρ (56 + 2 * r) ∧ V (b + 8) r = ρ (57 + 2 * r) ∧ 1 ≤ ρ (56 + 2 * r) ∧ ρ (56 + 2 * r) ≤ 40 ∧ 1 ≤ ρ (57 + 2 * r) ∧ ρ (57 + 2 * r) ≤ 99) ∧
  (∀ a : Nat, (a : Int) < ρ 4 → V (b + 12) a = ρ (68 + 2 * a) ∧ V (b + 13) a = ρ (69 + 2 * a) ∧ 0 ≤ ρ (68 + 2 * a) ∧ ρ (68 + 2 * a) < ρ 1 ∧ 0 ≤ ρ (69 + 2 * a) ∧ ρ (69 + 2 * a) < ρ 0) ∧
  (∀ k : Nat, (k : Int) < ρ 5 → V (b + 14) k = ρ (82 + k) ∧ 1 ≤ ρ (82 + k) ∧ ρ (82 + k) ≤ 9) ∧
  (∀ l : Nat, l < 6 → V (b + 10) l = 0 ∨ ∃ q : Nat, V (b + 10) l = 169 + 4 * (q : Int)) ∧
  (∀ l : Nat, (l : Int) < ρ 2 → ∃ q : Nat, V (b + 10) l = 169 + 4 * (q : Int) ∧ 169 + 4 * (q : Int) + 4 ≤ V 0 0 ∧ zLx V (169 + 4 * q) (Λ l) ∧ zLm ρ l (Λ l))
section
variable {b : Nat} {ρ : Nat → Int} {V : z_M} {Λ : Nat → (Nat → Int) → Int}
theorem zT_0 (h : zT b ρ V Λ) : V b 7 = ρ 0 ∧ 0 ≤ ρ 0 ∧ ρ 0 ≤ 12 := h.1
theorem zT_1 (h : zT b ρ V Λ) : V b 8 = ρ 1 ∧ 0 ≤ ρ 1 ∧ ρ 1 ≤ 6 := h.2.1
theorem zT_2 (h : zT b ρ V Λ) : V b 9 = ρ 2 ∧ 0 ≤ ρ 2 ∧ ρ 2 ≤ 6 := h.2.2.1
theorem zT_3 (h : zT b ρ V Λ) : V b 10 = ρ 3 ∧ -1 ≤ ρ 3 ∧ ρ 3 < ρ 2 := h.2.2.2.1
theorem zT_4 (h : zT b ρ V Λ) : V b 11 = ρ 4 ∧ 0 ≤ ρ 4 ∧ ρ 4 ≤ 7 := h.2.2.2.2.1
theorem zT_5 (h : zT b ρ V Λ) : V b 12 = ρ 5 ∧ 0 ≤ ρ 5 ∧ ρ 5 ≤ 8 := h.2.2.2.2.2.1
theorem zT_6 (h : zT b ρ V Λ) : V (b + 9) 0 = ρ 6 ∧ 0 ≤ ρ 6 ∧ ρ 6 ≤ 23 := h.2.2.2.2.2.2.1
theorem zT_7 (h : zT b ρ V Λ) : V (b + 9) 1 = ρ 7 ∧ 0 ≤ ρ 7 ∧ ρ 7 ≤ 9 := h.2.2.2.2.2.2.2.1
theorem zT_t (h : zT b ρ V Λ) {t : Nat} (ht : (t : Int) < ρ 0) : V (b + 2) t = ρ (8 + 4 * t) ∧ V (b + 3) t = ρ (9 + 4 * t) ∧ V (b + 4) t = ρ (10 + 4 * t) ∧ V (b + 5) t = ρ (11 + 4 * t) ∧ 1 ≤ ρ (8 + 4 * t) ∧ ρ (8 + 4 * t) ≤ 9 ∧ 1 ≤ ρ (9 + 4 * t) ∧ ρ (9 + 4 * t) ≤ 99 ∧ 0 ≤ ρ (10 + 4 * t) ∧ ρ (10 + 4 * t) ≤ 9 ∧ 0 ≤ ρ (11 + 4 * t) ∧ ρ (11 + 4 * t) ≤ 1 := h.2.2.2.2.2.2.2.2.1 t ht
theorem zT_r (h : zT b ρ V Λ) {r : Nat} (hr : (r : Int) < ρ 1) : V (b + 7) r = ρ (56 + 2 * r) ∧ V (b + 8) r = ρ (57 + 2 * r) ∧ 1 ≤ ρ (56 + 2 * r) ∧ ρ (56 + 2 * r) ≤ 40 ∧ 1 ≤ ρ (57 + 2 * r) ∧ ρ (57 + 2 * r) ≤ 99 := h.2.2.2.2.2.2.2.2.2.1 r hr
theorem zT_a (h : zT b ρ V Λ) {a : Nat} (ha : (a : Int) < ρ 4) : V (b + 12) a = ρ (68 + 2 * a) ∧ V (b + 13) a = ρ (69 + 2 * a) ∧ 0 ≤ ρ (68 + 2 * a) ∧ ρ (68 + 2 * a) < ρ 1 ∧ 0 ≤ ρ (69 + 2 * a) ∧ ρ (69 + 2 * a) < ρ 0 := h.2.2.2.2.2.2.2.2.2.2.1 a ha
theorem zT_o (h : zT b ρ V Λ) {k : Nat} (hk : (k : Int) < ρ 5) : V (b + 14) k = ρ (82 + k) ∧ 1 ≤ ρ (82 + k) ∧ ρ (82 + k) ≤ 9 := h.2.2.2.2.2.2.2.2.2.2.2.1 k hk
theorem zT_l (h : zT b ρ V Λ) {l : Nat} (hl : (l : Int) < ρ 2) : ∃ q : Nat, V (b + 10) l = 169 + 4 * (q : Int) ∧ 169 + 4 * (q : Int) + 4 ≤ V 0 0 ∧ zLx V (169 + 4 * q) (Λ l) ∧ zLm ρ l (Λ l) := h.2.2.2.2.2.2.2.2.2.2.2.2.2 l hl
theorem zT_ls (h : zT b ρ V Λ) : ∀ l : Nat, l < 6 → V (b + 10) l = 0 ∨ ∃ q : Nat, V (b + 10) l = 169 + 4 * (q : Int) := h.2.2.2.2.2.2.2.2.2.2.2.2.1
end
theorem zLx_c {V W : z_M} {c : Nat} {F : (Nat → Int) → Int} (h : zLx V c F) (h0 : ∀ k, c ≤ k → W 0 k = V 0 k) (hc : W c = V c) (h1 : W (c + 1) = V (c + 1)) (h2 : W (c + 2) = V (c + 2)) (h3 : W (c + 3) = V (c + 3)) : zLx W c F := by
  unfold zLx at h ⊢
  rw [hc, h1, h2, h3, h0 (c + 1) (by omega), h0 (c + 2) (by omega), h0 (c + 3) (by omega)]
  exact h
/-- what is told hangs upon its own cells and the laws' -/
theorem zT_c {b : Nat} {ρ : Nat → Int} {V W : z_M} {Λ : Nat → (Nat → Int) → Int} (h : zT b ρ V Λ) (h0 : W 0 = V 0) (hb : ∀ a, b ≤ a → a ≤ b + 14 → W a = V a) (hl : ∀ a, 169 ≤ a → W a = V a) : zT b ρ W Λ := by
  unfold zT at h ⊢
  rw [hb b (by omega) (by omega), hb (b + 2) (by omega) (by omega), hb (b + 3) (by omega) (by omega), hb (b + 4) (by omega) (by omega), hb (b + 5) (by omega) (by omega), hb (b + 7) (by omega) (by omega), hb (b + 8) (by omega) (by omega), hb (b + 9) (by omega) (by omega), hb (b + 10) (by omega) (by omega), hb (b + 12) (by omega) (by omega), hb (b + 13) (by omega) (by omega), hb (b + 14) (by omega) (by omega), h0]
  obtain ⟨a1, a2, a3, a4, a5, a6, a7, a8, a9, b1, b2, b3, b4⟩ := h
  refine ⟨a1, a2, a3, a4, a5, a6, a7, a8, a9, b1, b2, b3, b4.1, fun l hlt => ?_⟩
  obtain ⟨q, q1, q2, q3, q4⟩ := b4.2 l hlt
  exact ⟨q, q1, q2, zLx_c q3 (fun k _ => by rw [h0]) (hl _ (by omega)) (hl _ (by omega)) (hl _ (by omega)) (hl _ (by omega)), q4⟩
theorem zT_off {b lo hi : Nat} {ρ : Nat → Int} {V W : z_M} {Λ : Nat → (Nat → Int) → Int} (h : zT b ρ V Λ) (ho : zOff lo hi V W) (h1 : 0 < lo) (h2 : hi < 169) (h3 : b + 14 < lo ∨ hi < b) : zT b ρ W Λ :=
  zT_c h (ho 0 (Or.inl h1)) (fun a ha hb => ho a (by omega)) (fun a ha => ho a (by omega))
