/-! laws, purely: the code of a sum or of a test, and what it computes -/
def zFb (f : Nat → Int) : Prop := ∀ i, i < 9 → -1000000000 ≤ f i ∧ f i ≤ 1000000000
def zRg (v : Int) : Option Int := if -1000000000 ≤ v ∧ v ≤ 1000000000 then some v else none
def zRk (op a b : Int) : Option Int :=
  if op = 20 then zRg (a + b) else if op = 21 then zRg (a - b) else if op = 22 then zRg (a * b)
  else if op = 23 then (if b = 0 then none else zRg (a.tdiv b)) else if op = 24 then some (if a < b then 1 else 0)
  else if op = 25 then some (if b < a then 1 else 0) else some (if a = b then 1 else 0)
def zKs (op arg f : Nat → Int) (k : Nat) (st : List Int) (k1 : Nat) (st1 : List Int) : Prop :=
  (op k = 0 ∧ (0 ≤ arg k ∧ arg k ≤ 1000) ∧ k1 = k + 1 ∧ st1 = arg k :: st) ∨
  (1 ≤ op k ∧ op k ≤ 9 ∧ k1 = k + 1 ∧ st1 = f ((op k).toNat - 1) :: st) ∨
  (20 ≤ op k ∧ op k ≤ 26 ∧ ∃ b a r v, st = b :: a :: r ∧ zRk (op k) a b = some v ∧ k1 = k + 1 ∧ st1 = v :: r) ∨
  (op k = 27 ∧ ∃ a r, st = a :: r ∧ (a = 0 ∨ a = 1) ∧ k1 = k + 1 ∧ st1 = (1 - a) :: r) ∨
  ((op k = 28 ∨ op k = 29) ∧ ∃ a r, st = a :: r ∧ ((a = (if op k = 28 then 0 else 1) ∧ arg k = (k1 : Int) ∧ st1 = st) ∨ (¬ a = (if op k = 28 then 0 else 1) ∧ k1 = k + 1 ∧ st1 = r)))
def zKb (op : Nat → Int) (k : Nat) (st : List Int) : Prop := 20 ≤ op k ∧ op k ≤ 26 ∧ ∃ b a r, st = b :: a :: r ∧ zRk (op k) a b = none
def zGo (op arg f : Nat → Int) (s e H : Nat) : Nat → Nat → List Int → Nat → List Int → Prop
  | 0, k, st, k2, st2 => k = k2 ∧ st = st2
  | n + 1, k, st, k2, st2 => s ≤ k ∧ k < e ∧ ∃ k1 st1, zKs op arg f k st k1 st1 ∧ k < k1 ∧ k1 ≤ e ∧ st1.length ≤ H ∧ zGo op arg f s e H n k1 st1 k2 st2
theorem zGo_trans {op arg f : Nat → Int} {s e H m : Nat} {k1 k2 : Nat} {st1 st2 : List Int} (h2 : zGo op arg f s e H m k1 st1 k2 st2) : ∀ {n : Nat} {k : Nat} {st : List Int}, zGo op arg f s e H n k st k1 st1 → zGo op arg f s e H (n + m) k st k2 st2
  | 0, k, st, h => by
    obtain ⟨rfl, rfl⟩ := h
    rw [Nat.zero_add]; exact h2
  | n + 1, k, st, h => by
    obtain ⟨a1, a2, k3, st3, a3, a4, a5, a6, a7⟩ := h
    rw [Nat.succ_add]
    exact ⟨a1, a2, k3, st3, a3, a4, a5, a6, zGo_trans h2 a7⟩
theorem zKs_congr {op arg op2 arg2 f : Nat → Int} {k k1 : Nat} {st st1 : List Int} (h1 : op k = op2 k) (h2 : arg k = arg2 k) (h : zKs op arg f k st k1 st1) : zKs op2 arg2 f k st k1 st1 := by
  unfold zKs at h ⊢
  rw [← h1, ← h2]
  exact h
theorem zGo_mono {op arg op2 arg2 f : Nat → Int} {s e H s2 e2 H2 : Nat} (hc : ∀ k, s ≤ k → k < e → op k = op2 k ∧ arg k = arg2 k) (hs : s2 ≤ s) (he : e ≤ e2) (hH : H ≤ H2) : ∀ {n k : Nat} {st : List Int} {k2 : Nat} {st2 : List Int}, zGo op arg f s e H n k st k2 st2 → zGo op2 arg2 f s2 e2 H2 n k st k2 st2
  | 0, _, _, _, _, h => h
  | n + 1, k, st, k2, st2, h => by
    obtain ⟨a1, a2, k3, st3, a3, a4, a5, a6, a7⟩ := h
    have hh := hc k a1 a2
    exact ⟨by omega, by omega, k3, st3, zKs_congr hh.1 hh.2 a3, a4, by omega, by omega, zGo_mono hc hs he hH a7⟩
/-- the code from s to e computes F, D deep -/
def zSeg (op arg : Nat → Int) (D s e : Nat) (F : (Nat → Int) → Option Int) : Prop :=
  s < e ∧ 1 ≤ D ∧ ∀ f, zFb f → (∀ v, F f = some v → -1000000000 ≤ v ∧ v ≤ 1000000000) ∧ ∀ st : List Int,
    (∀ v, F f = some v → ∃ n, zGo op arg f s e (st.length + D) n s st e (v :: st)) ∧
    (F f = none → ∃ n k st2, zGo op arg f s e (st.length + D) n s st k st2 ∧ s ≤ k ∧ k < e ∧ zKb op k st2)
theorem zSeg_congr {op arg op2 arg2 : Nat → Int} {D D2 s e : Nat} {F : (Nat → Int) → Option Int} (hc : ∀ k, s ≤ k → k < e → op k = op2 k ∧ arg k = arg2 k) (hD : D ≤ D2) (h : zSeg op arg D s e F) : zSeg op2 arg2 D2 s e F := by
  obtain ⟨h1, h2, h3⟩ := h
  refine ⟨h1, by omega, fun f hf => ⟨(h3 f hf).1, fun st => ⟨fun v hv => ?_, fun hv => ?_⟩⟩⟩
  · obtain ⟨n, hn⟩ := ((h3 f hf).2 st).1 v hv
    exact ⟨n, zGo_mono hc (Nat.le_refl s) (Nat.le_refl e) (by omega) hn⟩
  · obtain ⟨n, k, st2, hn, a1, a2, a3⟩ := ((h3 f hf).2 st).2 hv
    refine ⟨n, k, st2, zGo_mono hc (Nat.le_refl s) (Nat.le_refl e) (by omega) hn, a1, a2, ?_⟩
    unfold zKb at a3 ⊢
    rw [← (hc k a1 a2).1]
    exact a3
theorem zSeg_num {op arg : Nat → Int} {s : Nat} (h : op s = 0) (h2 : 0 ≤ arg s ∧ arg s ≤ 1000) : zSeg op arg 1 s (s + 1) (fun _ => some (arg s)) := by
  refine ⟨by omega, by omega, fun f hf => ⟨fun v hv => ?_, fun st => ⟨fun v hv => ?_, fun hv => ?_⟩⟩⟩
  · injection hv with hv; subst hv; omega
  · injection hv with hv; subst hv
    exact ⟨1, Nat.le_refl s, by omega, s + 1, _, Or.inl ⟨h, h2, rfl, rfl⟩, by omega, by omega, by simp, rfl, rfl⟩
  · exact absurd hv (by simp)
theorem zSeg_fact {op arg : Nat → Int} {s i : Nat} (h : op s = (i : Int) + 1) (h2 : i < 9) : zSeg op arg 1 s (s + 1) (fun f => some (f i)) := by
  have e : (op s).toNat - 1 = i := by omega
  refine ⟨by omega, by omega, fun f hf => ⟨fun v hv => ?_, fun st => ⟨fun v hv => ?_, fun hv => ?_⟩⟩⟩
  · injection hv with hv; subst hv; exact hf i h2
  · injection hv with hv; subst hv
    exact ⟨1, Nat.le_refl s, by omega, s + 1, _, Or.inr (Or.inl ⟨by omega, by omega, rfl, by rw [e]⟩), by omega, by omega, by simp, rfl, rfl⟩
  · exact absurd hv (by simp)
theorem zRg_b {v w : Int} (h : zRg v = some w) : v = w ∧ -1000000000 ≤ w ∧ w ≤ 1000000000 := by
  unfold zRg at h
  split at h
  · injection h with h; subst h; exact ⟨rfl, by assumption⟩
  · exact absurd h (by simp)
theorem zRk_b {op a b v : Int} (h : zRk op a b = some v) : -1000000000 ≤ v ∧ v ≤ 1000000000 := by
  unfold zRk at h
  repeat' split at h
  all_goals first
    | exact (zRg_b h).2
    | (injection h with h; subst h; constructor <;> decide)
    | (simp at h)
theorem zSeg_bin {op arg : Nat → Int} {D1 D2 s m e : Nat} {F G : (Nat → Int) → Option Int} (h1 : zSeg op arg D1 s m F) (h2 : zSeg op arg D2 m e G) (ho : 20 ≤ op e ∧ op e ≤ 26) :
    zSeg op arg (max D1 (D2 + 1)) s (e + 1) (fun f => (F f).bind fun a => (G f).bind fun b => zRk (op e) a b) := by
  obtain ⟨a1, a2, a3⟩ := h1
  obtain ⟨b1, b2, b3⟩ := h2
  have m1 : D1 ≤ max D1 (D2 + 1) := Nat.le_max_left _ _
  have m2 : D2 + 1 ≤ max D1 (D2 + 1) := Nat.le_max_right _ _
  refine ⟨by omega, by omega, fun f hf => ⟨fun v hv => ?_, fun st => ?_⟩⟩
  · dsimp only at hv
    cases hF : F f with
    | none => rw [hF] at hv; exact absurd hv (by simp)
    | some a =>
      cases hG : G f with
      | none => rw [hF, hG] at hv; exact absurd hv (by simp)
      | some b => rw [hF, hG] at hv; exact zRk_b hv
  · dsimp only
    cases hF : F f with
    | none =>
      refine ⟨fun v hv => absurd hv (by simp), fun _ => ?_⟩
      obtain ⟨n, k, st2, hn, c1, c2, c3⟩ := ((a3 f hf).2 st).2 hF
      exact ⟨n, k, st2, zGo_mono (fun _ _ _ => ⟨rfl, rfl⟩) (Nat.le_refl s) (by omega) (by omega) hn, c1, by omega, c3⟩
    | some a =>
      obtain ⟨n, hn⟩ := ((a3 f hf).2 st).1 a hF
      have hn2 := zGo_mono (op2 := op) (arg2 := arg) (s2 := s) (e2 := e + 1) (H2 := st.length + max D1 (D2 + 1)) (fun _ _ _ => ⟨rfl, rfl⟩) (Nat.le_refl s) (by omega) (by omega) hn
      cases hG : G f with
      | none =>
        refine ⟨fun v hv => absurd hv (by simp), fun _ => ?_⟩
        obtain ⟨n3, k, st2, hn3, c1, c2, c3⟩ := ((b3 f hf).2 (a :: st)).2 hG
        have hn4 := zGo_mono (op2 := op) (arg2 := arg) (s2 := s) (e2 := e + 1) (H2 := st.length + max D1 (D2 + 1)) (fun _ _ _ => ⟨rfl, rfl⟩) (by omega) (by omega) (by simp only [List.length_cons]; omega) hn3
        exact ⟨_, k, st2, zGo_trans hn4 hn2, by omega, by omega, c3⟩
      | some b =>
        obtain ⟨n3, hn3⟩ := ((b3 f hf).2 (a :: st)).1 b hG
        have hn4 := zGo_mono (op2 := op) (arg2 := arg) (s2 := s) (e2 := e + 1) (H2 := st.length + max D1 (D2 + 1)) (fun _ _ _ => ⟨rfl, rfl⟩) (by omega) (by omega) (by simp only [List.length_cons]; omega) hn3
        refine ⟨fun v hv => ?_, fun hv => ?_⟩
        · have hv2 : zRk (op e) a b = some v := hv
          refine ⟨_, zGo_trans (zGo_trans (m := 1) ?_ hn4) hn2⟩
          exact ⟨by omega, by omega, e + 1, v :: st, Or.inr (Or.inr (Or.inl ⟨ho.1, ho.2, b, a, st, v, rfl, hv2, rfl, rfl⟩)), by omega, by omega, by simp only [List.length_cons]; omega, rfl, rfl⟩
        · have hv2 : zRk (op e) a b = none := hv
          exact ⟨_, e, b :: a :: st, zGo_trans hn4 hn2, by omega, by omega, ho.1, ho.2, b, a, st, rfl, hv2⟩
theorem zSeg_not {op arg : Nat → Int} {D s e : Nat} {F : (Nat → Int) → Option Int} (h1 : zSeg op arg D s e F) (hb : ∀ f v, F f = some v → v = 0 ∨ v = 1) (ho : op e = 27) :
    zSeg op arg D s (e + 1) (fun f => (F f).map fun a => 1 - a) := by
  obtain ⟨a1, a2, a3⟩ := h1
  refine ⟨by omega, by omega, fun f hf => ⟨fun v hv => ?_, fun st => ?_⟩⟩
  · dsimp only at hv
    cases hF : F f with
    | none => rw [hF] at hv; exact absurd hv (by simp)
    | some a =>
      rw [hF] at hv
      have := hb f a hF
      have hv2 : some (1 - a) = some v := hv
      injection hv2 with hv2
      omega
  · dsimp only
    cases hF : F f with
    | none =>
      refine ⟨fun v hv => absurd hv (by simp), fun _ => ?_⟩
      obtain ⟨n, k, st2, hn, c1, c2, c3⟩ := ((a3 f hf).2 st).2 hF
      exact ⟨n, k, st2, zGo_mono (fun _ _ _ => ⟨rfl, rfl⟩) (Nat.le_refl s) (by omega) (by omega) hn, c1, by omega, c3⟩
    | some a =>
      obtain ⟨n, hn⟩ := ((a3 f hf).2 st).1 a hF
      have hn2 := zGo_mono (op2 := op) (arg2 := arg) (s2 := s) (e2 := e + 1) (H2 := st.length + D) (fun _ _ _ => ⟨rfl, rfl⟩) (Nat.le_refl s) (by omega) (by omega) hn
      refine ⟨fun v hv => ?_, fun hv => absurd hv (by simp)⟩
      have hv2 : some (1 - a) = some v := hv
      injection hv2 with hv2
      subst hv2
      refine ⟨_, zGo_trans (m := 1) ?_ hn2⟩
      exact ⟨by omega, by omega, e + 1, (1 - a) :: st, Or.inr (Or.inr (Or.inr (Or.inl ⟨ho, a, st, rfl, hb f a hF, rfl, rfl⟩))), by omega, by omega, by simp only [List.length_cons]; omega, rfl, rfl⟩
/-- "and" (t 0), "or" (t 1): what stands behind only if it can still matter -/
theorem zSeg_log {op arg : Nat → Int} {D1 D2 s m e : Nat} {t : Int} {F G : (Nat → Int) → Option Int} (h1 : zSeg op arg D1 s m F) (h2 : zSeg op arg D2 (m + 1) e G) (ho : (op m = 28 ∧ t = 0) ∨ (op m = 29 ∧ t = 1)) (ha : arg m = (e : Int)) :
    zSeg op arg (max D1 D2) s e (fun f => (F f).bind fun a => if a = t then some t else G f) := by
  obtain ⟨a1, a2, a3⟩ := h1
  obtain ⟨b1, b2, b3⟩ := h2
  have m1 : D1 ≤ max D1 D2 := Nat.le_max_left _ _
  have m2 : D2 ≤ max D1 D2 := Nat.le_max_right _ _
  have ht : (if op m = 28 then (0 : Int) else 1) = t := by
    rcases ho with ⟨h, h'⟩ | ⟨h, h'⟩
    · rw [if_pos h, h']
    · rw [if_neg (by omega), h']
  have ho2 : op m = 28 ∨ op m = 29 := by omega
  refine ⟨by omega, by omega, fun f hf => ⟨fun v hv => ?_, fun st => ?_⟩⟩
  · dsimp only at hv
    cases hF : F f with
    | none => rw [hF] at hv; exact absurd hv (by simp)
    | some a =>
      rw [hF] at hv
      have hv2 : (if a = t then some t else G f) = some v := hv
      split at hv2
      · injection hv2 with hv2; omega
      · exact (b3 f hf).1 v hv2
  · dsimp only
    cases hF : F f with
    | none =>
      refine ⟨fun v hv => absurd hv (by simp), fun _ => ?_⟩
      obtain ⟨n, k, st2, hn, c1, c2, c3⟩ := ((a3 f hf).2 st).2 hF
      exact ⟨n, k, st2, zGo_mono (fun _ _ _ => ⟨rfl, rfl⟩) (Nat.le_refl s) (by omega) (by omega) hn, c1, by omega, c3⟩
    | some a =>
      obtain ⟨n, hn⟩ := ((a3 f hf).2 st).1 a hF
      have hn2 := zGo_mono (op2 := op) (arg2 := arg) (s2 := s) (e2 := e) (H2 := st.length + max D1 D2) (fun _ _ _ => ⟨rfl, rfl⟩) (Nat.le_refl s) (by omega) (by omega) hn
      by_cases hat : a = t
      · subst hat
        refine ⟨fun v hv => ?_, fun hv => ?_⟩
        · have hv2 : (if a = a then some a else G f) = some v := hv
          rw [if_pos rfl] at hv2
          injection hv2 with hv2
          subst hv2
          refine ⟨_, zGo_trans (m := 1) ?_ hn2⟩
          exact ⟨by omega, by omega, e, a :: st, Or.inr (Or.inr (Or.inr (Or.inr ⟨ho2, a, st, rfl, Or.inl ⟨ht.symm, ha, rfl⟩⟩))), by omega, by omega, by simp only [List.length_cons]; omega, rfl, rfl⟩
        · have hv2 : (if a = a then some a else G f) = none := hv
          rw [if_pos rfl] at hv2
          exact absurd hv2 (by simp)
      · have hst : zGo op arg f s e (st.length + max D1 D2) 1 m (a :: st) (m + 1) st :=
          ⟨by omega, by omega, m + 1, st, Or.inr (Or.inr (Or.inr (Or.inr ⟨ho2, a, st, rfl, Or.inr ⟨by rw [ht]; exact hat, rfl, rfl⟩⟩))), by omega, by omega, by omega, rfl, rfl⟩
        refine ⟨fun v hv => ?_, fun hv => ?_⟩
        · have hv2 : (if a = t then some t else G f) = some v := hv
          rw [if_neg hat] at hv2
          obtain ⟨n3, hn3⟩ := ((b3 f hf).2 st).1 v hv2
          have hn4 := zGo_mono (op2 := op) (arg2 := arg) (s2 := s) (e2 := e) (H2 := st.length + max D1 D2) (fun _ _ _ => ⟨rfl, rfl⟩) (by omega) (by omega) (by omega) hn3
          exact ⟨_, zGo_trans hn4 (zGo_trans hst hn2)⟩
        · have hv2 : (if a = t then some t else G f) = none := hv
          rw [if_neg hat] at hv2
          obtain ⟨n3, k, st2, hn3, c1, c2, c3⟩ := ((b3 f hf).2 st).2 hv2
          have hn4 := zGo_mono (op2 := op) (arg2 := arg) (s2 := s) (e2 := e) (H2 := st.length + max D1 D2) (fun _ _ _ => ⟨rfl, rfl⟩) (by omega) (by omega) (by omega) hn3
          exact ⟨_, k, st2, zGo_trans hn4 (zGo_trans hst hn2), by omega, c2, c3⟩
theorem zGo_len {op arg f : Nat → Int} {s e H : Nat} {k2 : Nat} {st2 : List Int} : ∀ {n k : Nat} {st : List Int}, zGo op arg f s e H n k st k2 st2 → ¬ n = 0 → st2.length ≤ H
  | 0, _, _, _, h => absurd rfl h
  | 1, k, st, h, _ => by
    obtain ⟨_, _, k3, st3, _, _, _, a6, a7⟩ := h
    obtain ⟨_, rfl⟩ := a7
    exact a6
  | n + 2, k, st, h, _ => by
    obtain ⟨_, _, k3, st3, _, _, _, _, a7⟩ := h
    exact zGo_len (n := n + 1) a7 (by omega)
theorem zRk_20 (a b : Int) : zRk 20 a b = zRg (a + b) := by unfold zRk; rw [if_pos rfl]
theorem zRk_21 (a b : Int) : zRk 21 a b = zRg (a - b) := by unfold zRk; rw [if_neg (by decide), if_pos rfl]
theorem zRk_22 (a b : Int) : zRk 22 a b = zRg (a * b) := by unfold zRk; rw [if_neg (by decide), if_neg (by decide), if_pos rfl]
theorem zRk_23 (a b : Int) : zRk 23 a b = if b = 0 then none else zRg (a.tdiv b) := by unfold zRk; rw [if_neg (by decide), if_neg (by decide), if_neg (by decide), if_pos rfl]
theorem zRk_24 (a b : Int) : zRk 24 a b = some (if a < b then 1 else 0) := by unfold zRk; rw [if_neg (by decide), if_neg (by decide), if_neg (by decide), if_neg (by decide), if_pos rfl]
theorem zRk_25 (a b : Int) : zRk 25 a b = some (if b < a then 1 else 0) := by unfold zRk; rw [if_neg (by decide), if_neg (by decide), if_neg (by decide), if_neg (by decide), if_neg (by decide), if_pos rfl]
theorem zRk_26 (a b : Int) : zRk 26 a b = some (if a = b then 1 else 0) := by unfold zRk; rw [if_neg (by decide), if_neg (by decide), if_neg (by decide), if_neg (by decide), if_neg (by decide), if_neg (by decide)]
theorem zRg_01 {c : Prop} [Decidable c] : (if -1000000000 ≤ (if c then (1 : Int) else 0) ∧ (if c then (1 : Int) else 0) ≤ 1000000000 then some (if c then (1 : Int) else 0) else none) = some (if c then (1 : Int) else 0) := by
  refine if_pos ?_
  split <;> omega
