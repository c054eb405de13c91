/-! a forest in which no entry points up; R: each number's root -/
def UF (f R : Nat → Nat) (t : Nat) : Prop := ∀ i, i < t → f i ≤ i ∧ R (f i) = R i ∧ (f i = i → R i = i)
theorem UF_le {f R : Nat → Nat} {t : Nat} (h : UF f R t) : ∀ i, i < t → R i ≤ i ∧ R (R i) = R i := by
  intro i
  induction i using Nat.strongRecOn with
  | ind i ih =>
    intro hi
    obtain ⟨h1, h2, h3⟩ := h i hi
    by_cases e : f i = i
    · rw [h3 e]; exact ⟨Nat.le_refl _, h3 e⟩
    · obtain ⟨g1, g2⟩ := ih (f i) (by omega) (by omega)
      rw [h2] at g1 g2
      exact ⟨by omega, g2⟩
theorem UF_fix {f R : Nat → Nat} {t : Nat} (h : UF f R t) {i : Nat} (hi : i < t) (e : R i = i) : f i = i := by
  obtain ⟨h1, h2, h3⟩ := h i hi
  have := (UF_le h (f i) (by omega)).1
  omega
theorem o_rootL {n t : Nat} {R : Nat → Nat} (ht : t ≤ 4096) {x : Nat} (hx : x < t) : ∀ (fuel a k : Nat) (r : Ar) (f : Nat → Nat), a < fuel → a + k ≤ x → t ≤ r.1 → UF f R t → (∀ i, i < t → r.2 i = nI (f i)) → R a = R x → xo (L_Ts_rootOf_4 (nI x) n fuel (nI a) (nI k) r) (fun o c => c = 0 ∧ o.1 = nI (R x) ∧ o.2.2.1 = r.1 ∧ ∃ f2, UF f2 R t ∧ ∀ i, i < t → o.2.2.2 i = nI (f2 i)) := by
  intro fuel
  induction fuel with
  | zero => intro a k r f h; omega
  | succ fuel ih =>
    intro a k r f h1 h2 h3 hU h4 h5
    rw [L_Ts_rootOf_4_s]
    refine xo_le _ _ rfl rfl (by omega) (by omega) (fun q => ?_) (fun q => ?_)
    · have ha : a = 0 := by omega
      subst ha
      have := (UF_le hU 0 (by omega)).1
      refine xo_p ⟨rfl, ?_, rfl, f, hU, h4⟩
      rw [← h5, show R 0 = 0 by omega]
    · obtain ⟨u1, u2, u3⟩ := hU a (by omega)
      refine xo_rd a rfl (by omega) (by omega) ?_
      rw [h4 a (by omega)]
      refine xo_eq _ _ rfl rfl (by omega) (by omega) (fun e => ?_) (fun e => ?_)
      · refine xo_p ⟨rfl, ?_, rfl, f, hU, h4⟩
        rw [← h5, u3 e]
      · obtain ⟨v1, v2, v3⟩ := hU (f a) (by omega)
        refine xo_rd a rfl (by omega) (by omega) ?_
        rw [h4 a (by omega)]
        refine xo_rd (f a) rfl (by omega) (by omega) ?_
        rw [h4 (f a) (by omega)]
        refine xo_wr a rfl (by omega) (by omega) ?_
        refine xo_rd a rfl (by show a < r.1; omega) (by omega) ?_
        show xo (L_Ts_rootOf_4 (nI x) n fuel (upd r.2 a (nI (f (f a))) a) (nI k + 1) _) _
        rw [upd_at, if_pos rfl, nI_1]
        refine ih (f (f a)) (k + 1) _ (fun i => if i = a then f (f a) else f i) (by omega) (by omega) h3 (fun i hi => ?_) (fun i hi => ?_) (by rw [v2, u2, h5])
        · show (if i = a then f (f a) else f i) ≤ i ∧ R (if i = a then f (f a) else f i) = R i ∧ ((if i = a then f (f a) else f i) = i → R i = i)
          by_cases e2 : i = a
          · rw [if_pos e2, e2]
            exact ⟨by omega, by rw [v2, u2], fun w => by omega⟩
          · rw [if_neg e2]; exact hU i hi
        · show upd r.2 a (nI (f (f a))) i = nI (if i = a then f (f a) else f i)
          rw [upd_at]
          by_cases e2 : i = a
          · rw [if_pos e2, if_pos e2]
          · rw [if_neg e2, if_neg e2]; exact h4 i hi
theorem o_root {n t : Nat} (hn : 100000 ≤ n) {R f : Nat → Nat} (ht : t ≤ 4096) {x : Nat} (hx : x < t) {r : Ar} (h3 : t ≤ r.1) (hU : UF f R t) (h4 : ∀ i, i < t → r.2 i = nI (f i)) : xo (m_Ts_rootOf n r (nI x)) (fun o c => c = 0 ∧ o.1 = nI (R x) ∧ o.2.1 = r.1 ∧ ∃ f2, UF f2 R t ∧ ∀ i, i < t → o.2.2 i = nI (f2 i)) := by
  unfold m_Ts_rootOf
  have hh := o_rootL (n := n) ht hx n x 0 r f (by omega) (by omega) h3 hU h4 rfl
  rw [← nI0] at hh
  refine xo_b _ hh (fun o c g => ?_)
  obtain ⟨rfl, g1, g2, g3⟩ := g
  exact xo_p ⟨rfl, g1, g2, g3⟩
/-- two roots are joined -/
def jR (R : Nat → Nat) (a b : Nat) : Nat → Nat := fun i => if R i = a ∨ R i = b then min a b else R i
theorem jR_uf {f R : Nat → Nat} {t a b : Nat} (h : UF f R t) (ha : a < t) (hb : b < t) (ea : R a = a) (eb : R b = b) (hab : a ≠ b) : UF (fun i => if i = max a b then min a b else f i) (jR R a b) t := by
  intro i hi
  obtain ⟨h1, h2, h3⟩ := h i hi
  show (if i = max a b then min a b else f i) ≤ i ∧ jR R a b (if i = max a b then min a b else f i) = jR R a b i ∧ ((if i = max a b then min a b else f i) = i → jR R a b i = i)
  have emin : R (min a b) = min a b := by
    by_cases e : a ≤ b
    · rw [Nat.min_eq_left e]; exact ea
    · rw [Nat.min_eq_right (by omega)]; exact eb
  have emax : R (max a b) = max a b := by
    by_cases e : a ≤ b
    · rw [Nat.max_eq_right e]; exact eb
    · rw [Nat.max_eq_left (by omega)]; exact ea
  by_cases e : i = max a b
  · rw [if_pos e]
    refine ⟨by omega, ?_, fun w => by omega⟩
    unfold jR
    rw [emin, e, emax, if_pos (by omega), if_pos (by omega)]
  · rw [if_neg e]
    refine ⟨h1, ?_, fun w => ?_⟩
    · unfold jR; rw [h2]
    · have := h3 w
      unfold jR
      rw [this]
      by_cases e2 : i = a ∨ i = b
      · rw [if_pos e2]; omega
      · rw [if_neg e2]
theorem jR_root {R : Nat → Nat} {a b r : Nat} (ea : R a = a) (eb : R b = b) (h : jR R a b r = r) : R r = r ∧ (r = a ∨ r = b → r = min a b) := by
  unfold jR at h
  by_cases e : R r = a ∨ R r = b
  · rw [if_pos e] at h
    have hr : r = a ∨ r = b := by omega
    refine ⟨?_, fun _ => h.symm⟩
    rcases hr with w | w
    · rw [w]; exact ea
    · rw [w]; exact eb
  · rw [if_neg e] at h
    refine ⟨h, fun w => ?_⟩
    rw [h] at e
    exact absurd w e
theorem jR_old {R : Nat → Nat} {a b i j : Nat} (h : R i = R j) : jR R a b i = jR R a b j := by
  unfold jR
  rw [h]
theorem jR_cases {R : Nat → Nat} {a b i j : Nat} (ea : R a = a) (eb : R b = b) (hR : ∀ i, R (R i) = R i) (h : jR R a b i = jR R a b j) : R i = R j ∨ (R i = a ∧ R j = b) ∨ (R i = b ∧ R j = a) := by
  unfold jR at h
  by_cases e1 : R i = a ∨ R i = b <;> by_cases e2 : R j = a ∨ R j = b
  · rcases e1 with w1 | w1 <;> rcases e2 with w2 | w2
    · exact Or.inl (w1.trans w2.symm)
    · exact Or.inr (Or.inl ⟨w1, w2⟩)
    · exact Or.inr (Or.inr ⟨w1, w2⟩)
    · exact Or.inl (w1.trans w2.symm)
  · rw [if_pos e1, if_neg e2] at h
    exfalso
    by_cases e : a ≤ b
    · rw [Nat.min_eq_left e] at h; exact e2 (Or.inl h.symm)
    · rw [Nat.min_eq_right (by omega)] at h; exact e2 (Or.inr h.symm)
  · rw [if_neg e1, if_pos e2] at h
    exfalso
    by_cases e : a ≤ b
    · rw [Nat.min_eq_left e] at h; exact e1 (Or.inl h)
    · rw [Nat.min_eq_right (by omega)] at h; exact e1 (Or.inr h)
  · rw [if_neg e1, if_neg e2] at h
    exact Or.inl h
theorem sumf_two {g g' : Nat → Nat} {t a b : Nat} (hab : a ≠ b) (ha : a < t) (hb : b < t) (h : ∀ r, r ≠ a → r ≠ b → g r = g' r) : sumf g t + g' a + g' b = sumf g' t + g a + g b := by
  have e1 : sumf (fun r => if r = a then 0 else if r = b then 0 else g r) t + g a = sumf (fun r => if r = b then 0 else g r) t := by
    refine (sumf_set (x := a) ha ?_ ?_ (fun i hi => ?_)).symm
    · show (if a = a then 0 else _) = 0
      rw [if_pos rfl]
    · show (if a = b then 0 else g a) = g a
      rw [if_neg hab]
    · show (if i = a then 0 else if i = b then 0 else g i) = (if i = b then 0 else g i)
      rw [if_neg hi]
  have e2 : sumf (fun r => if r = b then 0 else g r) t + g b = sumf g t := by
    refine (sumf_set (x := b) hb ?_ rfl (fun i hi => ?_)).symm
    · show (if b = b then 0 else _) = 0
      rw [if_pos rfl]
    · show (if i = b then 0 else g i) = g i
      rw [if_neg hi]
  have e3 : sumf (fun r => if r = a then 0 else if r = b then 0 else g' r) t + g' a = sumf (fun r => if r = b then 0 else g' r) t := by
    refine (sumf_set (x := a) ha ?_ ?_ (fun i hi => ?_)).symm
    · show (if a = a then 0 else _) = 0
      rw [if_pos rfl]
    · show (if a = b then 0 else g' a) = g' a
      rw [if_neg hab]
    · show (if i = a then 0 else if i = b then 0 else g' i) = (if i = b then 0 else g' i)
      rw [if_neg hi]
  have e4 : sumf (fun r => if r = b then 0 else g' r) t + g' b = sumf g' t := by
    refine (sumf_set (x := b) hb ?_ rfl (fun i hi => ?_)).symm
    · show (if b = b then 0 else _) = 0
      rw [if_pos rfl]
    · show (if i = b then 0 else g' i) = g' i
      rw [if_neg hi]
  have e5 : sumf (fun r => if r = a then 0 else if r = b then 0 else g r) t = sumf (fun r => if r = a then 0 else if r = b then 0 else g' r) t := sumf_congr (fun r _ => by
    show (if r = a then 0 else if r = b then 0 else g r) = (if r = a then 0 else if r = b then 0 else g' r)
    by_cases w1 : r = a
    · rw [if_pos w1, if_pos w1]
    · rw [if_neg w1, if_neg w1]
      by_cases w2 : r = b
      · rw [if_pos w2, if_pos w2]
      · rw [if_neg w2, if_neg w2, h r w1 w2])
  omega
