/-! THE STORE as a thing of mathematics: how many numbers are in use, each node's kind (-1: none), value, leader, fields -/
abbrev AS : Type := Nat × (Nat → Int32) × (Nat → Int32) × (Nat → Nat) × (Nat → List (Int32 × Nat))
abbrev a_t (z : AS) : Nat := z.1
abbrev a_kd (z : AS) : Nat → Int32 := z.2.1
abbrev a_vl (z : AS) : Nat → Int32 := z.2.2.1
abbrev a_ld (z : AS) : Nat → Nat := z.2.2.2.1
abbrev a_fl (z : AS) : Nat → List (Int32 × Nat) := z.2.2.2.2
def al (z : AS) (i : Nat) : Prop := a_kd z i ≠ -1
/-- how many of the first t have f -/
def cnt (f : Nat → Bool) : Nat → Nat
  | 0 => 0
  | t + 1 => cnt f t + (if f t then 1 else 0)
theorem cnt_s (f : Nat → Bool) (t : Nat) : cnt f (t + 1) = cnt f t + (if f t then 1 else 0) := rfl
theorem cnt_le (f : Nat → Bool) (t : Nat) : cnt f t ≤ t := by
  induction t with
  | zero => exact Nat.le_refl 0
  | succ t ih => unfold cnt; split <;> omega
theorem cnt_congr {f g : Nat → Bool} {t : Nat} (h : ∀ i, i < t → f i = g i) : cnt f t = cnt g t := by
  induction t with
  | zero => rfl
  | succ t ih =>
    unfold cnt
    rw [ih (fun i hi => h i (Nat.lt_succ_of_lt hi)), h t (Nat.lt_succ_self t)]
theorem cnt_set {f g : Nat → Bool} {t x : Nat} (hx : x < t) (hf : f x = false) (hg : g x = true) (h : ∀ i, i ≠ x → f i = g i) : cnt g t = cnt f t + 1 := by
  induction t with
  | zero => omega
  | succ t ih =>
    unfold cnt
    by_cases e : x = t
    · subst e
      rw [cnt_congr (f := f) (g := g) (fun i hi => h i (by omega)), hf, hg]
      simp
    · rw [ih (by omega), h t (by omega)]
      omega
theorem cnt_ext {f : Nat → Bool} {t u : Nat} (h : t ≤ u) (hf : ∀ i, t ≤ i → i < u → f i = false) : cnt f u = cnt f t := by
  induction u with
  | zero => have : t = 0 := by omega
            subst this; rfl
  | succ u ih =>
    by_cases e : t = u + 1
    · subst e; rfl
    · rw [cnt_s, ih (by omega) (fun i h1 h2 => hf i h1 (by omega)), hf u (by omega) (by omega)]
      simp
def a_go (z : AS) (i j : Nat) : Prop := a_kd z i = a_kd z j ∧ a_vl z i = a_vl z j ∧ (a_fl z i).map Prod.fst = (a_fl z j).map Prod.fst ∧ (a_kd z i = 4 → i = j)
/-- what a store always keeps to -/
def a_wf (z : AS) : Prop :=
  (∀ i, a_t z ≤ i → a_kd z i = -1) ∧
  (∀ i, al z i → a_kd z i = 0 ∨ a_kd z i = 1 ∨ a_kd z i = 2 ∨ a_kd z i = 3 ∨ a_kd z i = 4) ∧
  (∀ i, al z i → a_ld z i ≤ i ∧ al z (a_ld z i) ∧ a_ld z (a_ld z i) = a_ld z i) ∧
  (∀ i, ¬ al z i → a_ld z i = i ∧ a_fl z i = []) ∧
  (∀ i, al z i → (a_kd z i = 0 ∨ a_kd z i = 1 ∨ a_kd z i = 2 → a_fl z i = []) ∧ ((a_fl z i).map Prod.fst).Nodup ∧ ∀ q ∈ a_fl z i, al z q.2) ∧
  (∀ i, al z i → a_kd z i = 0 → a_vl z i = 0) ∧
  (∀ i j, al z i → al z j → a_kd z i ≠ 0 → a_kd z j ≠ 0 → a_ld z i = a_ld z j → a_go z i j ∧ (a_fl z i).map (fun q => a_ld z q.2) = (a_fl z j).map (fun q => a_ld z q.2)) ∧
  (0 < a_t z → al z (a_t z - 1))
theorem al_lt {z : AS} (h : a_wf z) {i : Nat} (hi : al z i) : i < a_t z := Nat.lt_of_not_le (fun q => hi (h.1 i q))
/-- a row's length is in its bounds -/
def ArOk (a : Ar) (t : Nat) : Prop := 16 ≤ a.1 ∧ a.1 ≤ 4096 ∧ t ≤ a.1
/-- the class's nodes hold the store z: st, where a node's fields begin; bd, a body of each class; u fields in use; all below lw are taken -/
def CN (s : S_No) (z : AS) (st bd : Nat → Nat) (u lw : Nat) : Prop :=
  (ArOk (No_kinds s) (a_t z) ∧ ArOk (No_values s) (a_t z) ∧ ArOk (No_starts s) (a_t z) ∧ ArOk (No_sizes s) (a_t z) ∧ ArOk (No_lead s) (a_t z) ∧ ArOk (No_bodies s) (a_t z) ∧ ArOk (No_needed s) (a_t z) ∧ ArOk (No_marked s) (a_t z)) ∧
  (ArOk (Fi_features (No_fields s)) u ∧ ArOk (Fi_parts (No_fields s)) u ∧ ArOk (Fi_nextFeatures (No_fields s)) 0 ∧ ArOk (Fi_nextParts (No_fields s)) 0 ∧ ArOk (Ld_row (No_reached s)) 0) ∧
  (No_top s = nI (a_t z) ∧ No_lowest s = nI lw ∧ No_alive s = nI (cnt (fun i => decide (a_kd z i ≠ -1)) (a_t z)) ∧ Fi_used (No_fields s) = nI u) ∧
  (∀ i, i < a_t z → (No_kinds s).2 i = a_kd z i) ∧
  (∀ i, al z i → (No_values s).2 i = a_vl z i) ∧
  (∀ i, i < a_t z → (No_sizes s).2 i = nI (a_fl z i).length) ∧
  (∀ i, al z i → (No_starts s).2 i = nI (st i)) ∧
  (∀ i, i < a_t z → (No_lead s).2 i = nI (a_ld z i)) ∧
  (∀ i, i < a_t z → (No_bodies s).2 i = nI (bd i) ∧ bd i < a_t z) ∧
  (∀ r, al z r → a_ld z r = r → al z (bd r) ∧ a_ld z (bd r) = r ∧ (a_kd z (bd r) = 0 → ∀ j, al z j → a_ld z j = r → a_kd z j = 0)) ∧
  (∀ i, al z i → st i + (a_fl z i).length ≤ u) ∧
  (∀ i k, al z i → ∀ q, (a_fl z i)[k]? = some q → (Fi_features (No_fields s)).2 (st i + k) = q.1 ∧ (Fi_parts (No_fields s)).2 (st i + k) = nI q.2) ∧
  (∀ i j, al z i → al z j → i ≠ j → st i + (a_fl z i).length ≤ st j ∨ st j + (a_fl z j).length ≤ st i) ∧
  (∀ i, i < lw → al z i) ∧
  (a_t z ≤ 512 ∧ u ≤ 512)
