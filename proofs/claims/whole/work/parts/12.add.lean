/-! a node is added -/
def z_add (z : AS) (x : Nat) (k v : Int32) (f : List (Int32 × Nat)) : AS := (max (a_t z) (x + 1), fun i => if i = x then k else a_kd z i, fun i => if i = x then v else a_vl z i, fun i => if i = x then x else a_ld z i, fun i => if i = x then f else a_fl z i)
/-- x is the least number that no node has -/
def z_least (z : AS) (x : Nat) : Prop := ¬ al z x ∧ ∀ i, i < x → al z i
theorem z_least_le {z : AS} (h : a_wf z) {x : Nat} (hx : z_least z x) : x ≤ a_t z := Nat.le_of_not_lt (fun q => hx.2 (a_t z) q (h.1 _ (Nat.le_refl _)))
theorem z_add_al {z : AS} {x : Nat} {k v : Int32} {f : List (Int32 × Nat)} (hk : k ≠ -1) (i : Nat) : al (z_add z x k v f) i ↔ i = x ∨ al z i := by
  unfold al
  show (if i = x then k else a_kd z i) ≠ -1 ↔ _
  by_cases e : i = x
  · rw [if_pos e]; exact ⟨fun _ => Or.inl e, fun _ => hk⟩
  · rw [if_neg e]; exact ⟨Or.inr, fun h => h.resolve_left e⟩
theorem z_add_wf {z : AS} (h : a_wf z) {x : Nat} {k v : Int32} {f : List (Int32 × Nat)} (hx : z_least z x) (hk : k = 0 ∨ k = 1 ∨ k = 2 ∨ k = 3 ∨ k = 4) (hf : k = 0 ∨ k = 1 ∨ k = 2 → f = []) (hn : (f.map Prod.fst).Nodup) (hp : ∀ q ∈ f, al z q.2) (hv : k = 0 → v = 0) : a_wf (z_add z x k v f) := by
  have hk1 : k ≠ -1 := by rcases hk with rfl | rfl | rfl | rfl | rfl <;> decide
  have hal := fun i => z_add_al (z := z) (x := x) (v := v) (f := f) hk1 i
  have hxt := z_least_le h hx
  have hld : ∀ i, al z i → a_ld z i ≠ x := fun i hi e => hx.1 (e ▸ (h.2.2.1 i hi).2.1)
  have hne : ∀ i, al z i → i ≠ x := fun i hi e => hx.1 (e ▸ hi)
  have ekd : ∀ i, a_kd (z_add z x k v f) i = if i = x then k else a_kd z i := fun _ => rfl
  have eld : ∀ i, a_ld (z_add z x k v f) i = if i = x then x else a_ld z i := fun _ => rfl
  have evl : ∀ i, a_vl (z_add z x k v f) i = if i = x then v else a_vl z i := fun _ => rfl
  have efl : ∀ i, a_fl (z_add z x k v f) i = if i = x then f else a_fl z i := fun _ => rfl
  refine ⟨?_, ?_, ?_, ?_, ?_, ?_, ?_, ?_⟩
  · intro i hi
    have hi' : max (a_t z) (x + 1) ≤ i := hi
    rw [ekd, if_neg (by omega)]
    exact h.1 i (by omega)
  · intro i hi
    rw [ekd]
    by_cases e : i = x
    · rw [if_pos e]; exact hk
    · rw [if_neg e]; exact h.2.1 i (((hal i).mp hi).resolve_left e)
  · intro i hi
    rw [eld]
    by_cases e : i = x
    · rw [if_pos e]
      exact ⟨by omega, (hal x).mpr (Or.inl rfl), by rw [eld, if_pos rfl]⟩
    · rw [if_neg e]
      have ha := ((hal i).mp hi).resolve_left e
      obtain ⟨h1, h2, h3⟩ := h.2.2.1 i ha
      exact ⟨h1, (hal _).mpr (Or.inr h2), by rw [eld, if_neg (hld i ha)]; exact h3⟩
  · intro i hi
    have e : i ≠ x := fun e => hi ((hal i).mpr (Or.inl e))
    rw [eld, efl, if_neg e, if_neg e]
    exact h.2.2.2.1 i (fun q => hi ((hal i).mpr (Or.inr q)))
  · intro i hi
    rw [ekd, efl]
    by_cases e : i = x
    · rw [if_pos e, if_pos e]
      exact ⟨hf, hn, fun q hq => (hal _).mpr (Or.inr (hp q hq))⟩
    · rw [if_neg e, if_neg e]
      obtain ⟨h1, h2, h3⟩ := h.2.2.2.2.1 i (((hal i).mp hi).resolve_left e)
      exact ⟨h1, h2, fun q hq => (hal _).mpr (Or.inr (h3 q hq))⟩
  · intro i hi
    rw [ekd, evl]
    by_cases e : i = x
    · rw [if_pos e, if_pos e]; exact hv
    · rw [if_neg e, if_neg e]; exact h.2.2.2.2.2.1 i (((hal i).mp hi).resolve_left e)
  · intro i j hi hj hi0 hj0 hij
    by_cases e : i = x
    · by_cases e2 : j = x
      · subst e; subst e2
        exact ⟨⟨rfl, rfl, rfl, fun _ => rfl⟩, rfl⟩
      · have hja := ((hal j).mp hj).resolve_left e2
        rw [eld, eld, if_pos e, if_neg e2] at hij
        exact absurd hij.symm (hld j hja)
    · have hia := ((hal i).mp hi).resolve_left e
      by_cases e2 : j = x
      · rw [eld, eld, if_neg e, if_pos e2] at hij
        exact absurd hij (hld i hia)
      · have hja := ((hal j).mp hj).resolve_left e2
        rw [ekd, if_neg e] at hi0
        rw [ekd, if_neg e2] at hj0
        rw [eld, eld, if_neg e, if_neg e2] at hij
        obtain ⟨⟨g1, g2, g3, g4⟩, g5⟩ := h.2.2.2.2.2.2.1 i j hia hja hi0 hj0 hij
        have ep : ∀ (m : Nat), al z m → (a_fl z m).map (fun q => a_ld (z_add z x k v f) q.2) = (a_fl z m).map (fun q => a_ld z q.2) := by
          intro m hm
          refine List.map_congr_left (fun q hq => ?_)
          rw [eld, if_neg (hne _ ((h.2.2.2.2.1 m hm).2.2 q hq))]
        refine ⟨⟨?_, ?_, ?_, ?_⟩, ?_⟩
        · rw [ekd, ekd, if_neg e, if_neg e2]; exact g1
        · rw [evl, evl, if_neg e, if_neg e2]; exact g2
        · rw [efl, efl, if_neg e, if_neg e2]; exact g3
        · rw [ekd, if_neg e]; exact g4
        · rw [efl, efl, if_neg e, if_neg e2, ep i hia, ep j hja]; exact g5
  · intro _
    show al (z_add z x k v f) (max (a_t z) (x + 1) - 1)
    by_cases e : a_t z ≤ x
    · have : max (a_t z) (x + 1) - 1 = x := by omega
      rw [this]
      exact (hal x).mpr (Or.inl rfl)
    · have : max (a_t z) (x + 1) - 1 = a_t z - 1 := by omega
      rw [this]
      exact (hal _).mpr (Or.inr (h.2.2.2.2.2.2.2 (by omega)))
