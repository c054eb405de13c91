/-! PURE: what models answer. xo x P: the model answers, makes cells of sixteen slots or more each, and its answer and slots have P -/
def xo {α : Type} (x : MO α) (P : α → Nat → Prop) : Prop := ∃ (a : α) (k : KC), x = some (a, k) ∧ 16 * k.1 ≤ k.2 ∧ P a k.2
theorem xo_p {α : Type} {a : α} {P : α → Nat → Prop} (h : P a 0) : xo (xm_p a) P := ⟨a, (0, 0), rfl, Nat.le_refl _, h⟩
theorem xo_b {α β : Type} {x : MO α} {f : α → MO β} {P : β → Nat → Prop} (Q : α → Nat → Prop) (hx : xo x Q) (hf : ∀ a c, Q a c → xo (f a) (fun b c2 => P b (c + c2))) : xo (xm_b x f) P := by
  obtain ⟨a, k, h1, h2, h3⟩ := hx
  obtain ⟨b, k2, g1, g2, g3⟩ := hf a k.2 h3
  exact ⟨b, _, xm_b_of h1 g1, by show 16 * (k.1 + k2.1) ≤ k.2 + k2.2; omega, g3⟩
theorem xo_m {α : Type} {x : MO α} {P Q : α → Nat → Prop} (hx : xo x P) (h : ∀ a c, P a c → Q a c) : xo x Q := by
  obtain ⟨a, k, h1, h2, h3⟩ := hx
  exact ⟨a, k, h1, h2, h a k.2 h3⟩
theorem xo_al {β : Type} {c n : Nat} {x : MO β} {P : β → Nat → Prop} (h : 16 * c ≤ n) (hx : xo x (fun b c2 => P b (n + c2))) : xo (xm_al c n x) P := by
  obtain ⟨a, k, h1, h2, h3⟩ := hx
  exact ⟨a, (c + k.1, n + k.2), by rw [h1]; rfl, by show 16 * (c + k.1) ≤ n + k.2; omega, h3⟩
theorem xo_rd {β : Type} {a : Ar} {i : Int32} {f : Int32 → MO β} {P : β → Nat → Prop} (j : Nat) (hi : i = nI j) (hj : j < a.1) (hb : j < 2 ^ 31) (h : xo (f (a.2 j)) P) : xo (xm_rd a i f) P := by
  subst hi
  unfold xm_rd
  rw [nI_clamp hb, if_neg (fun q => q.elim (fun q => nI_pos hb q) (fun q => absurd hj (Nat.not_lt.mpr q)))]
  exact h
theorem xo_wr {β : Type} {a : Ar} {i v : Int32} {f : Ar → MO β} {P : β → Nat → Prop} (j : Nat) (hi : i = nI j) (hj : j < a.1) (hb : j < 2 ^ 31) (h : xo (f (a.1, upd a.2 j v)) P) : xo (xm_wr a i v f) P := by
  subst hi
  unfold xm_wr
  rw [nI_clamp hb, if_neg (fun q => q.elim (fun q => nI_pos hb q) (fun q => absurd hj (Nat.not_lt.mpr q)))]
  exact h
theorem xo_na {β : Type} {i : Int32} {f : Ar → MO β} {P : β → Nat → Prop} (N : Nat) (hi : i = nI N) (h1 : 16 ≤ N) (h2 : N ≤ 67108864) (h : xo (f (N, fun _ => 0)) (fun b c => P b (N + c))) : xo (xm_na i f) P := by
  subst hi
  unfold xm_na
  have hb : N < 2 ^ 31 := by omega
  rw [nI_clamp hb, if_neg (fun q => q.elim (fun q => nI_pos hb q) (fun q => by omega))]
  exact xo_al (by omega) h
theorem xo_cp {β : Type} {x y : Ar} {sp dp n : Int32} {f : Ar → MO β} {P : β → Nat → Prop} (a b m : Nat) (ha : sp = nI a) (hb : dp = nI b) (hm : n = nI m) (h1 : a + m ≤ x.1) (h2 : b + m ≤ y.1) (h3 : a + m < 2 ^ 31) (h4 : b + m < 2 ^ 31) (h : xo (f (y.1, va_cpy x.2 y.2 a b m)) P) : xo (xm_cp x y sp dp n f) P := by
  subst ha; subst hb; subst hm
  unfold xm_cp
  have e1 : a < 2 ^ 31 := by omega
  have e2 : b < 2 ^ 31 := by omega
  have e3 : m < 2 ^ 31 := by omega
  rw [nI_clamp e1, nI_clamp e2, nI_clamp e3, if_neg (fun q => q.elim (fun q => q.elim (nI_pos e1) (fun q => q.elim (nI_pos e2) (nI_pos e3))) (fun q => by omega))]
  exact h
theorem xo_if {α : Type} {c : Prop} [Decidable c] {x y : MO α} {P : α → Nat → Prop} (h1 : c → xo x P) (h2 : ¬ c → xo y P) : xo (if c then x else y) P := by
  by_cases h : c
  · rw [if_pos h]; exact h1 h
  · rw [if_neg h]; exact h2 h
theorem xo_le {α : Type} {i j : Int32} {x y : MO α} {P : α → Nat → Prop} (a b : Nat) (hi : i = nI a) (hj : j = nI b) (ha : a < 2 ^ 31) (hb : b < 2 ^ 31) (h1 : a ≤ b → xo x P) (h2 : b < a → xo y P) : xo (if i ≤ j then x else y) P := by
  subst hi; subst hj
  exact xo_if (fun h => h1 ((nI_leI ha hb).mp h)) (fun h => h2 (Nat.lt_of_not_le (fun q => h ((nI_leI ha hb).mpr q))))
theorem xo_lt {α : Type} {i j : Int32} {x y : MO α} {P : α → Nat → Prop} (a b : Nat) (hi : i = nI a) (hj : j = nI b) (ha : a < 2 ^ 31) (hb : b < 2 ^ 31) (h1 : a < b → xo x P) (h2 : b ≤ a → xo y P) : xo (if i < j then x else y) P := by
  subst hi; subst hj
  exact xo_if (fun h => h1 ((nI_ltI ha hb).mp h)) (fun h => h2 (Nat.le_of_not_lt (fun q => h ((nI_ltI ha hb).mpr q))))
theorem xo_eq {α : Type} {i j : Int32} {x y : MO α} {P : α → Nat → Prop} (a b : Nat) (hi : i = nI a) (hj : j = nI b) (ha : a < 2 ^ 31) (hb : b < 2 ^ 31) (h1 : a = b → xo x P) (h2 : a ≠ b → xo y P) : xo (if i = j then x else y) P := by
  subst hi; subst hj
  exact xo_if (fun h => h1 ((nI_eq ha hb).mp h)) (fun h => h2 (fun q => h ((nI_eq ha hb).mpr q)))
theorem xo_z {α : Type} {v : Int32} {x : MO α} {P : α → Nat → Prop} (h : v = 0 ∨ v = 1) (hx : xo x P) : xo (xm_z v x) P := by
  unfold xm_z
  rw [if_pos h]
  exact hx
theorem xo_elim {α β γ : Type} {f : α → MO γ} {g : β → MO γ} {o : α ⊕ β} {P : γ → Nat → Prop} (h1 : ∀ a, o = .inl a → xo (f a) P) (h2 : ∀ b, o = .inr b → xo (g b) P) : xo (Sum.elim f g o) P := by
  cases o with
  | inl a => exact h1 a rfl
  | inr b => exact h2 b rfl
theorem nI2 : (2 : Int32) = nI 2 := by decide +kernel
theorem nI1 : (1 : Int32) = nI 1 := by decide +kernel
theorem nI0 : (0 : Int32) = nI 0 := by decide +kernel
theorem nI_max (a b : Nat) (ha : a < 2 ^ 31) (hb : b < 2 ^ 31) : (if nI a < nI b then nI b else nI a) = nI (max a b) := by
  by_cases h : a < b
  · rw [if_pos ((nI_ltI ha hb).mpr h), Nat.max_eq_right (Nat.le_of_lt h)]
  · rw [if_neg (fun q => h ((nI_ltI ha hb).mp q)), Nat.max_eq_left (Nat.le_of_not_lt h)]
theorem nI_min (a b : Nat) (ha : a < 2 ^ 31) (hb : b < 2 ^ 31) : (if nI b < nI a then nI b else nI a) = nI (min a b) := by
  by_cases h : b < a
  · rw [if_pos ((nI_ltI hb ha).mpr h), Nat.min_eq_right (Nat.le_of_lt h)]
  · rw [if_neg (fun q => h ((nI_ltI hb ha).mp q)), Nat.min_eq_left (Nat.le_of_not_lt h)]
theorem o_copyOf {n : Nat} {x : Ar} {m : Nat} (hx : x.1 < m) (h16 : 16 ≤ m) (hm : m ≤ 67108864) : xo (m_Ja_copyOf n x (nI m)) (fun a c => a.1 = m ∧ c = m ∧ ∀ i, i < x.1 → a.2 i = x.2 i) := by
  unfold m_Ja_copyOf
  refine xo_eq m x.1 rfl rfl (by omega) (by omega) (fun h => absurd h (by omega)) (fun _ => ?_)
  refine xo_na m rfl h16 hm ?_
  refine xo_cp 0 0 x.1 nI0 nI0 ?_ (by omega) (by show 0 + x.1 ≤ m; omega) (by omega) (by omega) ?_
  · rw [if_neg (fun q => absurd ((nI_ltI (by omega) (by omega)).mp q) (by omega))]
  · refine xo_p ⟨rfl, rfl, fun i hi => ?_⟩
    show va_cpy x.2 _ 0 0 x.1 i = x.2 i
    rw [pk_cpy_in (Nat.zero_le _) (by omega), Nat.zero_add, Nat.sub_zero]
theorem o_room {n : Nat} {x : Ar} {m : Nat} (M : Nat) (hx : 16 ≤ x.1) (hxM : x.1 ≤ 2 * M) (hmM : m ≤ M) (hM : M ≤ 1048576) : xo (m_Ts_withRoom n x (nI m)) (fun a c => m ≤ a.1 ∧ x.1 ≤ a.1 ∧ a.1 ≤ 2 * M ∧ (∀ i, i < x.1 → a.2 i = x.2 i) ∧ c + 2 * x.1 ≤ 2 * a.1) := by
  unfold m_Ts_withRoom
  refine xo_lt x.1 m rfl rfl (by omega) (by omega) (fun h => ?_) (fun h => ?_)
  · have e : (if nI m < ((2 : Int32) * (nI x.1)) then ((2 : Int32) * (nI x.1)) else nI m) = nI (max m (2 * x.1)) := by
      rw [nI2, pk_mul]
      exact nI_max m (2 * x.1) (by omega) (by omega)
    rw [e]
    refine xo_b _ (o_copyOf (by omega) (by omega) (by omega)) (fun a c h2 => ?_)
    obtain ⟨h3, h4, h5⟩ := h2
    exact xo_p ⟨by omega, by omega, by omega, h5, by omega⟩
  · exact xo_p ⟨h, Nat.le_refl _, hxM, fun _ _ => rfl, by omega⟩
