/-! what becomes the same when x and y do -/
def eqv (S : Nat → Nat → Prop) : Prop := (∀ i, S i i) ∧ (∀ i j, S i j → S j i) ∧ (∀ i j k, S i j → S j k → S i k)
def e_cl (z : AS) (x y : Nat) (S : Nat → Nat → Prop) : Prop := eqv S ∧ (∀ i, al z i → S i (a_ld z i)) ∧ S x y ∧ ∀ (i j k : Nat) (q q2 : Int32 × Nat), al z i → al z j → a_kd z i = 3 → S i j → a_go z i j → (a_fl z i)[k]? = some q → (a_fl z j)[k]? = some q2 → S q.2 q2.2
def e_eq (z : AS) (x y i j : Nat) : Prop := ∀ S, e_cl z x y S → S i j
theorem e_self {z : AS} {x y : Nat} : e_cl z x y (e_eq z x y) := by
  refine ⟨⟨fun i S h => h.1.1 i, fun i j g S h => h.1.2.1 i j (g S h), fun i j k g1 g2 S h => h.1.2.2 i j k (g1 S h) (g2 S h)⟩, fun i hi S h => h.2.1 i hi, fun S h => h.2.2.1, fun i j k q q2 hi hj h3 g hg hq hq2 S h => h.2.2.2 i j k q q2 hi hj h3 (g S h) hg hq hq2⟩
theorem e_al {z : AS} (hw : a_wf z) {x y : Nat} (hx : al z x) (hy : al z y) {i j : Nat} (h : e_eq z x y i j) : i = j ∨ (al z i ∧ al z j) := by
  refine h (fun i j => i = j ∨ (al z i ∧ al z j)) ⟨⟨fun i => Or.inl rfl, fun i j g => ?_, fun i j k g1 g2 => ?_⟩, fun i hi => Or.inr ⟨hi, (hw.2.2.1 i hi).2.1⟩, Or.inr ⟨hx, hy⟩, fun i j k q q2 hi hj _ _ _ hq hq2 => Or.inr ⟨(hw.2.2.2.2.1 i hi).2.2 q (List.mem_of_getElem? hq), (hw.2.2.2.2.1 j hj).2.2 q2 (List.mem_of_getElem? hq2)⟩⟩
  · rcases g with rfl | g
    · exact Or.inl rfl
    · exact Or.inr ⟨g.2, g.1⟩
  · rcases g1 with rfl | g1
    · exact g2
    · rcases g2 with rfl | g2
      · exact Or.inr g1
      · exact Or.inr ⟨g1.1, g2.2⟩
def e_bad (z : AS) (x y : Nat) : Prop := ∃ i j, al z i ∧ al z j ∧ a_kd z i ≠ 0 ∧ a_kd z j ≠ 0 ∧ e_eq z x y i j ∧ ¬ a_go z i j
def e_min (z : AS) (x y : Nat) (L : Nat → Nat) : Prop := ∀ i, e_eq z x y i (L i) ∧ ∀ j, e_eq z x y i j → L i ≤ j
theorem e_min_inj {z : AS} {x y : Nat} {L L2 : Nat → Nat} (h1 : e_min z x y L) (h2 : e_min z x y L2) : L = L2 := by
  funext i
  exact Nat.le_antisymm ((h1 i).2 _ (h2 i).1) ((h2 i).2 _ (h1 i).1)
theorem e_min_iff {z : AS} {x y : Nat} {L : Nat → Nat} (h : e_min z x y L) {i j : Nat} : e_eq z x y i j ↔ L i = L j := by
  have e := (e_self (z := z) (x := x) (y := y)).1
  constructor
  · intro g
    exact Nat.le_antisymm ((h i).2 _ (e.2.2 _ _ _ g (h j).1)) ((h j).2 _ (e.2.2 _ _ _ (e.2.1 _ _ g) (h i).1))
  · intro g
    exact e.2.2 _ _ _ (h i).1 (g ▸ e.2.1 _ _ (h j).1)
def a_hit (z : AS) (x y k : Nat) : Prop := al z k ∧ a_ld z k = k ∧ a_var z k ∧ ∃ j, al z j ∧ a_ld z j ≠ k ∧ e_eq z x y j k
noncomputable def e_hitb (z : AS) (x y : Nat) : Nat → Bool := fun k => pb (a_hit z x y k)
noncomputable def e_hits (z : AS) (x y : Nat) : List Nat := (List.range (a_t z)).filter (e_hitb z x y)
theorem e_hits_len {z : AS} {x y : Nat} : (e_hits z x y).length ≤ a_t z := by
  unfold e_hits
  exact Nat.le_trans (List.length_filter_le _ _) (by rw [List.length_range]; exact Nat.le_refl _)
theorem e_hits_lt {z : AS} {x y k : Nat} (h : k ∈ e_hits z x y) : k < a_t z := by
  unfold e_hits at h
  exact List.mem_range.mp (List.mem_filter.mp h).1
def z_eq (z : AS) (L : Nat → Nat) : AS := (a_t z, a_kd z, a_vl z, L, a_fl z)
theorem a_go_refl (z : AS) (i : Nat) : a_go z i i := ⟨rfl, rfl, rfl, fun _ => rfl⟩
theorem a_go_symm {z : AS} {i j : Nat} (h : a_go z i j) : a_go z j i := ⟨h.1.symm, h.2.1.symm, h.2.2.1.symm, fun q => (h.2.2.2 (h.1.trans q)).symm⟩
theorem a_go_trans {z : AS} {i j k : Nat} (h1 : a_go z i j) (h2 : a_go z j k) : a_go z i k := ⟨h1.1.trans h2.1, h1.2.1.trans h2.2.1, h1.2.2.1.trans h2.2.2.1, fun q => (h1.2.2.2 q).trans (h2.2.2.2 (h1.1.symm.trans q))⟩
theorem a_go_len {z : AS} {i j : Nat} (h : a_go z i j) : (a_fl z i).length = (a_fl z j).length := by
  have := congrArg List.length h.2.2.1
  rwa [List.length_map, List.length_map] at this
theorem a_go_at {z : AS} {i j k : Nat} (h : a_go z i j) {q : Int32 × Nat} (hq : (a_fl z i)[k]? = some q) : ∃ q2, (a_fl z j)[k]? = some q2 ∧ q2.1 = q.1 := by
  have hl := a_go_len h
  have hk := (List.getElem?_eq_some_iff.mp hq).1
  have e : (a_fl z j)[k]? = some (a_fl z j)[k] := List.getElem?_eq_getElem (by omega)
  refine ⟨_, e, ?_⟩
  have := congrArg (fun l => l[k]?) h.2.2.1
  simp only [List.getElem?_map, hq, e, Option.map_some] at this
  exact (Option.some.inj this).symm
theorem z_eq_wf {z : AS} (hw : a_wf z) {x y : Nat} (hx : al z x) (hy : al z y) (hb : ¬ e_bad z x y) {L : Nat → Nat} (hL : e_min z x y L) : a_wf (z_eq z L) := by
  have e := e_self (z := z) (x := x) (y := y)
  have hdead : ∀ i, ¬ al z i → L i = i := fun i hi => by
    rcases e_al hw hx hy (hL i).1 with w | w
    · exact w.symm
    · exact absurd w.1 hi
  refine ⟨hw.1, hw.2.1, fun i hi => ⟨(hL i).2 i (e.1.1 i), ?_, ?_⟩, fun i hi => ⟨hdead i hi, (hw.2.2.2.1 i hi).2⟩, hw.2.2.2.2.1, hw.2.2.2.2.2.1, fun i j hi hj hi0 hj0 hij => ?_, hw.2.2.2.2.2.2.2⟩
  · rcases e_al hw hx hy (hL i).1 with w | w
    · show al z (L i)
      rw [← w]; exact hi
    · exact w.2
  · exact (e_min_iff hL).mp (e.1.2.1 _ _ (hL i).1)
  · have hi' : al z i := hi
    have hj' : al z j := hj
    have hE := (e_min_iff hL).mpr (show L i = L j from hij)
    have hg : a_go z i j := Classical.byContradiction (fun w => hb ⟨i, j, hi, hj, hi0, hj0, hE, w⟩)
    refine ⟨hg, ?_⟩
    show (a_fl z i).map (fun q => L q.2) = (a_fl z j).map (fun q => L q.2)
    rcases hw.2.1 i hi' with w | w | w | w | w
    · exact absurd w hi0
    · rw [(hw.2.2.2.2.1 i hi').1 (Or.inr (Or.inl w)), (hw.2.2.2.2.1 j hj').1 (Or.inr (Or.inl (hg.1.symm.trans w)))]
    · rw [(hw.2.2.2.2.1 i hi').1 (Or.inr (Or.inr w)), (hw.2.2.2.2.1 j hj').1 (Or.inr (Or.inr (hg.1.symm.trans w)))]
    · apply List.ext_getElem?
      intro k
      rw [List.getElem?_map, List.getElem?_map]
      cases h : (a_fl z i)[k]? with
      | none =>
        have hl := a_go_len hg
        have : (a_fl z j)[k]? = none := by
          rw [List.getElem?_eq_none_iff] at h ⊢
          omega
        rw [this]
      | some q =>
        obtain ⟨q2, g1, g2⟩ := a_go_at hg h
        rw [g1]
        show some (L q.2) = some (L q2.2)
        rw [(e_min_iff hL).mp (e.2.2.2 i j k q q2 hi' hj' w hE hg h g1)]
    · rw [hg.2.2.2 w]
/-- a map that is sound, goes down and is closed is the least one -/
theorem e_found {z : AS} {x y : Nat} {R : Nat → Nat} (h1 : ∀ i, e_eq z x y i (R i)) (h2 : ∀ i, R i ≤ i) (h3 : ∀ i, al z i → R (a_ld z i) = R i) (h4 : R x = R y) (h5 : ∀ (i j k : Nat) (q q2 : Int32 × Nat), al z i → al z j → a_kd z i = 3 → R i = R j → a_go z i j → (a_fl z i)[k]? = some q → (a_fl z j)[k]? = some q2 → R q.2 = R q2.2) : e_min z x y R := by
  intro i
  refine ⟨h1 i, fun j hj => ?_⟩
  have := hj (fun i j => R i = R j) ⟨⟨fun _ => rfl, fun _ _ g => g.symm, fun _ _ _ g1 g2 => g1.trans g2⟩, fun i hi => (h3 i hi).symm, h4, h5⟩
  rw [this]
  exact h2 j
def f_ndeq (F : FS) (L : Nat → Nat) : Nat → Prop := fun r => ∃ j, al (f_z F) j ∧ L j = r ∧ f_nd F (a_ld (f_z F) j)
noncomputable def F_eq (F : FS) (x y : Nat) (L : Nat → Nat) : FS := (z_eq (f_z F) L, f_ndeq F L, fun _ => false, f_pu F, e_hits (f_z F) x y)
def sp_tell (F : FS) (p v r : Int32) (F' : FS) : Prop :=
  (∃ x y L, a_is (f_z F) p x ∧ a_is (f_z F) v y ∧ ¬ e_bad (f_z F) x y ∧ e_min (f_z F) x y L ∧ r = 1 ∧ F' = F_eq F x y L) ∨
  (¬ (∃ x y, a_is (f_z F) p x ∧ a_is (f_z F) v y ∧ ¬ e_bad (f_z F) x y) ∧ sp_same F 0 r F')
def spi_ask (F : FS) (p v r : Int32) : Prop :=
  ((¬ ∃ x y, a_is (f_z F) p x ∧ a_is (f_z F) v y) ∧ r = -2) ∨
  ∃ x y, a_is (f_z F) p x ∧ a_is (f_z F) v y ∧ ((e_bad (f_z F) x y ∧ r = 0) ∨ (¬ e_bad (f_z F) x y ∧ ((e_hits (f_z F) x y = [] ∧ r = 1) ∨ (e_hits (f_z F) x y ≠ [] ∧ r = -1))))
def spi_hangs (F : FS) (p v i r : Int32) : Prop :=
  ((¬ ∃ x y, a_is (f_z F) p x ∧ a_is (f_z F) v y ∧ ¬ e_bad (f_z F) x y) ∧ r = -1) ∨
  ∃ x y, a_is (f_z F) p x ∧ a_is (f_z F) v y ∧ ¬ e_bad (f_z F) x y ∧ ((∃ k h : Nat, k < 2 ^ 31 ∧ i = nI k ∧ (e_hits (f_z F) x y)[k]? = some h ∧ r = nI h) ∨ ((¬ ∃ k h : Nat, k < 2 ^ 31 ∧ i = nI k ∧ (e_hits (f_z F) x y)[k]? = some h) ∧ r = -1))
theorem ok_tell {F : FS} {c : Nat} (h : FI F c) (hc : c < 512) {p v : Int32} : spOk F c (sp_tell F p v) := by
  have hb := h.2.2.2.2.1
  have hw := h.1
  refine ⟨fun r r2 F1 F2 g1 g2 => ?_, fun r F1 g => ?_⟩
  · rcases g1 with ⟨x, y, L, a1, a2, a3, a4, a5, a6⟩ | ⟨a, a2, a3⟩ <;> rcases g2 with ⟨x', y', L', b1, b2, b3, b4, b5, b6⟩ | ⟨nb, b2, b3⟩
    · have e1 := a_is_inj hw (by omega) a1 b1
      have e2 := a_is_inj hw (by omega) a2 b2
      subst e1; subst e2
      have := e_min_inj a4 b4
      subst this
      exact ⟨a5.trans b5.symm, a6.trans b6.symm⟩
    · exact absurd ⟨x, y, a1, a2, a3⟩ nb
    · exact absurd ⟨x', y', b1, b2, b3⟩ a
    · exact ⟨a2.trans b2.symm, a3.trans b3.symm⟩
  · rcases g with ⟨x, y, L, a1, a2, a3, a4, -, rfl⟩ | ⟨-, g⟩
    · obtain ⟨h1, h2, h3, h4, h5, h6, h7, h8⟩ := h
      have hl := e_hits_len (z := f_z F) (x := x) (y := y)
      exact ⟨z_eq_wf h1 a1.2 a2.2 a3 a4, h2, h3, h4, ⟨by show a_t (f_z F) ≤ c + 1; omega, by show a_sum (f_z F) + (f_pu F).length ≤ c + 1; omega, by show (e_hits (f_z F) x y).length ≤ c + 1; omega, by omega⟩, fun i hi => absurd (show false = true from hi) Bool.false_ne_true, fun i j hi => absurd (show false = true from hi) Bool.false_ne_true, fun i q hi => absurd (show false = true from hi) Bool.false_ne_true⟩
    · rw [g.2]; exact FI_up h hc
theorem ok_ask {F : FS} {c : Nat} (h : FI F c) {p v r r2 : Int32} (h1 : spi_ask F p v r) (h2 : spi_ask F p v r2) : r = r2 := by
  have hw := h.1
  have hb := h.2.2.2.2.1
  rcases h1 with ⟨a, e1⟩ | ⟨x, y, a1, a2, g1⟩ <;> rcases h2 with ⟨a', e2⟩ | ⟨x', y', b1, b2, g2⟩
  · rw [e1, e2]
  · exact absurd ⟨x', y', b1, b2⟩ a
  · exact absurd ⟨x, y, a1, a2⟩ a'
  · have e1 := a_is_inj hw (by omega) a1 b1
    have e2 := a_is_inj hw (by omega) a2 b2
    subst e1; subst e2
    rcases g1 with ⟨k, e1⟩ | ⟨k, g1⟩ <;> rcases g2 with ⟨k', e2⟩ | ⟨k', g2⟩
    · rw [e1, e2]
    · exact absurd k k'
    · exact absurd k' k
    · rcases g1 with ⟨k, e1⟩ | ⟨k, e1⟩ <;> rcases g2 with ⟨k', e2⟩ | ⟨k', e2⟩
      · rw [e1, e2]
      · exact absurd k k'
      · exact absurd k' k
      · rw [e1, e2]
theorem ok_hangs {F : FS} {c : Nat} (h : FI F c) {p v i r r2 : Int32} (h1 : spi_hangs F p v i r) (h2 : spi_hangs F p v i r2) : r = r2 := by
  have hw := h.1
  have hb := h.2.2.2.2.1
  rcases h1 with ⟨a, e1⟩ | ⟨x, y, a1, a2, a3, g1⟩ <;> rcases h2 with ⟨a', e2⟩ | ⟨x', y', b1, b2, b3, g2⟩
  · rw [e1, e2]
  · exact absurd ⟨x', y', b1, b2, b3⟩ a
  · exact absurd ⟨x, y, a1, a2, a3⟩ a'
  · have e1 := a_is_inj hw (by omega) a1 b1
    have e2 := a_is_inj hw (by omega) a2 b2
    subst e1; subst e2
    rcases g1 with ⟨k, l, k1, k2, k3, e1⟩ | ⟨k, e1⟩ <;> rcases g2 with ⟨k', l', m1, m2, m3, e2⟩ | ⟨k', e2⟩
    · have := (nI_eq k1 m1).mp (k2.symm.trans m2)
      subst this
      rw [k3] at m3
      cases m3
      rw [e1, e2]
    · exact absurd ⟨k, l, k1, k2, k3⟩ k'
    · exact absurd ⟨k', l', m1, m2, m3⟩ k
    · rw [e1, e2]
