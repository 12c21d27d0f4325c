/-! orders, purely: the reference's next order, and all orders as rows in their order -/
def zNk (p : Nat → Nat) : Nat → Nat
  | 0 => 0
  | k + 1 => if p (k + 1) < p k then zNk p k else k + 1
def zNm (p : Nat → Nat) (v : Nat) : Nat → Nat
  | 0 => 0
  | m + 1 => if p (m + 1) < v then zNm p v m else m + 1
def zSw (p : Nat → Nat) (a b : Nat) : Nat → Nat := fun i => if i = a then p b else if i = b then p a else p i
def zRv (p : Nat → Nat) : Nat → Nat → Nat → (Nat → Nat)
  | 0, _, _ => p
  | f + 1, a, b => if a < b then zRv (zSw p a b) f (a + 1) (b - 1) else p
def zNp (n : Nat) (p : Nat → Nat) : Option (Nat → Nat) :=
  if zNk p (n - 1) = 0 then none else
    some (zRv (zSw p (zNk p (n - 1) - 1) (zNm p (p (zNk p (n - 1) - 1)) (n - 1))) n (zNk p (n - 1)) (n - 1))
def zFl (n : Nat) (p : Nat → Nat) : List Nat := (List.range n).map p
def zLf (l : List Nat) : Nat → Nat := fun i => l.getD i 0
def zNl (n : Nat) (l : List Nat) : Option (List Nat) := (zNp n (zLf l)).map (zFl n)
/-- all rows of l more of n numbers behind a row of them, each once -/
def zPm (n : Nat) : Nat → List Nat → List (List Nat)
  | 0, pre => [pre]
  | l + 1, pre => (List.range n).flatMap (fun a => if pre.contains a then [] else zPm n l (pre ++ [a]))
/-- from x on each is the next of the one before it, through the row, up to y -/
def zCb (n : Nat) : List Nat → List (List Nat) → List Nat → Bool
  | x, [], y => x == y
  | x, b :: t, y => (zNl n x == some b) && zCb n b t y
theorem zCb_app {n : Nat} {y z : List Nat} {B : List (List Nat)} (h2 : zCb n y B z = true) : ∀ {A : List (List Nat)} {x : List Nat}, zCb n x A y = true → zCb n x (A ++ B) z = true
  | [], x, h => by
    have : x = y := by simpa [zCb] using h
    subst this; exact h2
  | a :: t, x, h => by
    rw [zCb, Bool.and_eq_true] at h
    rw [List.cons_append, zCb, h.1, zCb_app h2 h.2]
    rfl
theorem zCb_s : ∀ n : Fin 7, zCb n.val (List.range n.val) (zPm n.val n.val []).tail (List.range n.val).reverse = true := by decide +kernel
theorem zCb_h : ∀ n : Fin 8, (zPm n.val n.val []).head? = some (List.range n.val) := by decide +kernel
theorem zCb_e : ∀ n : Fin 8, zNl n.val (List.range n.val).reverse = none := by decide +kernel
theorem zCb_0 : zCb 7 [0, 1, 2, 3, 4, 5, 6] (zPm 7 6 [0]).tail [0, 6, 5, 4, 3, 2, 1] = true := by decide +kernel
theorem zCb_1 : zCb 7 [0, 6, 5, 4, 3, 2, 1] (zPm 7 6 [1]) [1, 6, 5, 4, 3, 2, 0] = true := by decide +kernel
theorem zCb_2 : zCb 7 [1, 6, 5, 4, 3, 2, 0] (zPm 7 6 [2]) [2, 6, 5, 4, 3, 1, 0] = true := by decide +kernel
theorem zCb_3 : zCb 7 [2, 6, 5, 4, 3, 1, 0] (zPm 7 6 [3]) [3, 6, 5, 4, 2, 1, 0] = true := by decide +kernel
theorem zCb_4 : zCb 7 [3, 6, 5, 4, 2, 1, 0] (zPm 7 6 [4]) [4, 6, 5, 3, 2, 1, 0] = true := by decide +kernel
theorem zCb_5 : zCb 7 [4, 6, 5, 3, 2, 1, 0] (zPm 7 6 [5]) [5, 6, 4, 3, 2, 1, 0] = true := by decide +kernel
theorem zCb_6 : zCb 7 [5, 6, 4, 3, 2, 1, 0] (zPm 7 6 [6]) [6, 5, 4, 3, 2, 1, 0] = true := by decide +kernel
theorem zPm_7 : zPm 7 7 [] = zPm 7 6 [0] ++ (zPm 7 6 [1] ++ (zPm 7 6 [2] ++ (zPm 7 6 [3] ++ (zPm 7 6 [4] ++ (zPm 7 6 [5] ++ zPm 7 6 [6]))))) := by
  have e : List.range 7 = [0, 1, 2, 3, 4, 5, 6] := rfl
  show (List.range 7).flatMap (fun a => if ([] : List Nat).contains a then [] else zPm 7 6 ([] ++ [a])) = _
  rw [e]
  simp only [List.flatMap_cons, List.flatMap_nil, List.contains_nil, List.nil_append, List.append_nil, Bool.false_eq_true, if_false]
theorem zPm_7h : ∃ t, zPm 7 6 [0] = [0, 1, 2, 3, 4, 5, 6] :: t := by
  have h : (zPm 7 6 [0]).head? = some [0, 1, 2, 3, 4, 5, 6] := by decide +kernel
  cases hl : zPm 7 6 [0] with
  | nil => rw [hl] at h; exact absurd h (by simp)
  | cons a t => rw [hl] at h; injection h with h; subst h; exact ⟨t, rfl⟩
/-- the reference's orders are the rows in their order -/
theorem zCb_all {n : Nat} (hn : n ≤ 7) : ∃ t, zPm n n [] = List.range n :: t ∧ zCb n (List.range n) t (List.range n).reverse = true := by
  by_cases h : n < 7
  · have h1 := zCb_s ⟨n, h⟩
    have h2 := zCb_h ⟨n, by omega⟩
    dsimp only at h1 h2
    cases hl : zPm n n [] with
    | nil => rw [hl] at h2; exact absurd h2 (by simp)
    | cons a t =>
      rw [hl] at h1 h2
      injection h2 with h2
      subst h2
      exact ⟨t, rfl, h1⟩
  · have : n = 7 := by omega
    subst this
    obtain ⟨t, ht⟩ := zPm_7h
    have h0 := zCb_0
    rw [ht] at h0
    refine ⟨t ++ (zPm 7 6 [1] ++ (zPm 7 6 [2] ++ (zPm 7 6 [3] ++ (zPm 7 6 [4] ++ (zPm 7 6 [5] ++ zPm 7 6 [6]))))), by rw [zPm_7, ht]; rfl, ?_⟩
    exact zCb_app (zCb_app (zCb_app (zCb_app (zCb_app (zCb_app zCb_6 zCb_5) zCb_4) zCb_3) zCb_2) zCb_1) h0
-- congruence
theorem zNk_c {p q : Nat → Nat} : ∀ k, (∀ i, i ≤ k → p i = q i) → zNk p k = zNk q k ∧ zNk p k ≤ k
  | 0, _ => ⟨rfl, Nat.le_refl 0⟩
  | k + 1, h => by
    have h1 := zNk_c k (fun i hi => h i (by omega))
    unfold zNk
    rw [h (k + 1) (by omega), h k (by omega)]
    split
    · exact ⟨h1.1, by omega⟩
    · exact ⟨rfl, by omega⟩
theorem zNm_c {p q : Nat → Nat} {v : Nat} : ∀ k, (∀ i, i ≤ k → p i = q i) → zNm p v k = zNm q v k ∧ zNm p v k ≤ k
  | 0, _ => ⟨rfl, Nat.le_refl 0⟩
  | k + 1, h => by
    have h1 := zNm_c (v := v) k (fun i hi => h i (by omega))
    unfold zNm
    rw [h (k + 1) (by omega)]
    split
    · exact ⟨h1.1, by omega⟩
    · exact ⟨rfl, by omega⟩
theorem zSw_c {p q : Nat → Nat} {n a b : Nat} (h : ∀ i, i < n → p i = q i) (ha : a < n) (hb : b < n) : ∀ i, i < n → zSw p a b i = zSw q a b i := by
  intro i hi
  unfold zSw
  rw [h a ha, h b hb, h i hi]
theorem zRv_c {n : Nat} : ∀ (f : Nat) {p q : Nat → Nat} {a b : Nat}, (∀ i, i < n → p i = q i) → b < n → ∀ i, i < n → zRv p f a b i = zRv q f a b i
  | 0, _, _, _, _, h, _, i, hi => h i hi
  | f + 1, p, q, a, b, h, hb, i, hi => by
    unfold zRv
    split
    · exact zRv_c f (zSw_c h (by omega) hb) (by omega) i hi
    · exact h i hi
theorem zFl_c {n : Nat} {p q : Nat → Nat} (h : ∀ i, i < n → p i = q i) : zFl n p = zFl n q := by
  unfold zFl
  refine List.map_congr_left fun i hi => h i ?_
  exact List.mem_range.mp hi
theorem zLf_fl {n : Nat} {p : Nat → Nat} {i : Nat} (hi : i < n) : zLf (zFl n p) i = p i := by
  unfold zLf zFl
  rw [List.getD_eq_getElem?_getD, List.getElem?_map, List.getElem?_range hi]
  rfl
theorem zNp_c {n : Nat} {p q : Nat → Nat} (hn : 0 < n) (h : ∀ i, i < n → p i = q i) : (zNp n p).map (zFl n) = (zNp n q).map (zFl n) := by
  unfold zNp
  have h1 := zNk_c (p := p) (q := q) (n - 1) (fun i hi => h i (by omega))
  rw [← h1.1]
  by_cases hk : zNk p (n - 1) = 0
  · rw [if_pos hk, if_pos hk]
  · rw [if_neg hk, if_neg hk]
    have hkk : zNk p (n - 1) - 1 < n := by omega
    have h2 := zNm_c (p := p) (q := q) (v := p (zNk p (n - 1) - 1)) (n - 1) (fun i hi => h i (by omega))
    rw [← h _ hkk, ← h2.1]
    exact congrArg some (zFl_c (zRv_c n (zSw_c h hkk (by omega)) (by omega)))
theorem zNl_fl {n : Nat} {p : Nat → Nat} (hn : 0 < n) : zNl n (zFl n p) = (zNp n p).map (zFl n) := zNp_c hn (fun _ hi => zLf_fl hi)
