/-! THE REFERENCE -/
abbrev Md_set_kinds (m : S_Md) (a : Ar) : S_Md := (a, Md_values m, Md_firsts m, Md_manies m, Md_said m, Md_marked m, Md_leaders m, Md_trial m, Md_shown m, Md_end m, Md_nodes m, Md_features m, Md_parts m, Md_fields m, Md_pushedFeatures m, Md_pushedParts m, Md_pushed m, Md_touched m, Md_touches m, Md_reached m, Md_blocks m, Md_newBlocks m, Md_places m, Md_written m, Md_other m, Md_length m)
abbrev Md_set_values (m : S_Md) (a : Ar) : S_Md := (Md_kinds m, a, Md_firsts m, Md_manies m, Md_said m, Md_marked m, Md_leaders m, Md_trial m, Md_shown m, Md_end m, Md_nodes m, Md_features m, Md_parts m, Md_fields m, Md_pushedFeatures m, Md_pushedParts m, Md_pushed m, Md_touched m, Md_touches m, Md_reached m, Md_blocks m, Md_newBlocks m, Md_places m, Md_written m, Md_other m, Md_length m)
abbrev Md_set_firsts (m : S_Md) (a : Ar) : S_Md := (Md_kinds m, Md_values m, a, Md_manies m, Md_said m, Md_marked m, Md_leaders m, Md_trial m, Md_shown m, Md_end m, Md_nodes m, Md_features m, Md_parts m, Md_fields m, Md_pushedFeatures m, Md_pushedParts m, Md_pushed m, Md_touched m, Md_touches m, Md_reached m, Md_blocks m, Md_newBlocks m, Md_places m, Md_written m, Md_other m, Md_length m)
abbrev Md_set_manies (m : S_Md) (a : Ar) : S_Md := (Md_kinds m, Md_values m, Md_firsts m, a, Md_said m, Md_marked m, Md_leaders m, Md_trial m, Md_shown m, Md_end m, Md_nodes m, Md_features m, Md_parts m, Md_fields m, Md_pushedFeatures m, Md_pushedParts m, Md_pushed m, Md_touched m, Md_touches m, Md_reached m, Md_blocks m, Md_newBlocks m, Md_places m, Md_written m, Md_other m, Md_length m)
abbrev Md_set_said (m : S_Md) (a : Ar) : S_Md := (Md_kinds m, Md_values m, Md_firsts m, Md_manies m, a, Md_marked m, Md_leaders m, Md_trial m, Md_shown m, Md_end m, Md_nodes m, Md_features m, Md_parts m, Md_fields m, Md_pushedFeatures m, Md_pushedParts m, Md_pushed m, Md_touched m, Md_touches m, Md_reached m, Md_blocks m, Md_newBlocks m, Md_places m, Md_written m, Md_other m, Md_length m)
abbrev Md_set_marked (m : S_Md) (a : Ar) : S_Md := (Md_kinds m, Md_values m, Md_firsts m, Md_manies m, Md_said m, a, Md_leaders m, Md_trial m, Md_shown m, Md_end m, Md_nodes m, Md_features m, Md_parts m, Md_fields m, Md_pushedFeatures m, Md_pushedParts m, Md_pushed m, Md_touched m, Md_touches m, Md_reached m, Md_blocks m, Md_newBlocks m, Md_places m, Md_written m, Md_other m, Md_length m)
abbrev Md_set_leaders (m : S_Md) (a : Ar) : S_Md := (Md_kinds m, Md_values m, Md_firsts m, Md_manies m, Md_said m, Md_marked m, a, Md_trial m, Md_shown m, Md_end m, Md_nodes m, Md_features m, Md_parts m, Md_fields m, Md_pushedFeatures m, Md_pushedParts m, Md_pushed m, Md_touched m, Md_touches m, Md_reached m, Md_blocks m, Md_newBlocks m, Md_places m, Md_written m, Md_other m, Md_length m)
abbrev Md_set_trial (m : S_Md) (a : Ar) : S_Md := (Md_kinds m, Md_values m, Md_firsts m, Md_manies m, Md_said m, Md_marked m, Md_leaders m, a, Md_shown m, Md_end m, Md_nodes m, Md_features m, Md_parts m, Md_fields m, Md_pushedFeatures m, Md_pushedParts m, Md_pushed m, Md_touched m, Md_touches m, Md_reached m, Md_blocks m, Md_newBlocks m, Md_places m, Md_written m, Md_other m, Md_length m)
abbrev Md_set_shown (m : S_Md) (a : Ar) : S_Md := (Md_kinds m, Md_values m, Md_firsts m, Md_manies m, Md_said m, Md_marked m, Md_leaders m, Md_trial m, a, Md_end m, Md_nodes m, Md_features m, Md_parts m, Md_fields m, Md_pushedFeatures m, Md_pushedParts m, Md_pushed m, Md_touched m, Md_touches m, Md_reached m, Md_blocks m, Md_newBlocks m, Md_places m, Md_written m, Md_other m, Md_length m)
abbrev Md_set_end (m : S_Md) (a : Int32) : S_Md := (Md_kinds m, Md_values m, Md_firsts m, Md_manies m, Md_said m, Md_marked m, Md_leaders m, Md_trial m, Md_shown m, a, Md_nodes m, Md_features m, Md_parts m, Md_fields m, Md_pushedFeatures m, Md_pushedParts m, Md_pushed m, Md_touched m, Md_touches m, Md_reached m, Md_blocks m, Md_newBlocks m, Md_places m, Md_written m, Md_other m, Md_length m)
abbrev Md_set_nodes (m : S_Md) (a : Int32) : S_Md := (Md_kinds m, Md_values m, Md_firsts m, Md_manies m, Md_said m, Md_marked m, Md_leaders m, Md_trial m, Md_shown m, Md_end m, a, Md_features m, Md_parts m, Md_fields m, Md_pushedFeatures m, Md_pushedParts m, Md_pushed m, Md_touched m, Md_touches m, Md_reached m, Md_blocks m, Md_newBlocks m, Md_places m, Md_written m, Md_other m, Md_length m)
abbrev Md_set_features (m : S_Md) (a : Ar) : S_Md := (Md_kinds m, Md_values m, Md_firsts m, Md_manies m, Md_said m, Md_marked m, Md_leaders m, Md_trial m, Md_shown m, Md_end m, Md_nodes m, a, Md_parts m, Md_fields m, Md_pushedFeatures m, Md_pushedParts m, Md_pushed m, Md_touched m, Md_touches m, Md_reached m, Md_blocks m, Md_newBlocks m, Md_places m, Md_written m, Md_other m, Md_length m)
abbrev Md_set_parts (m : S_Md) (a : Ar) : S_Md := (Md_kinds m, Md_values m, Md_firsts m, Md_manies m, Md_said m, Md_marked m, Md_leaders m, Md_trial m, Md_shown m, Md_end m, Md_nodes m, Md_features m, a, Md_fields m, Md_pushedFeatures m, Md_pushedParts m, Md_pushed m, Md_touched m, Md_touches m, Md_reached m, Md_blocks m, Md_newBlocks m, Md_places m, Md_written m, Md_other m, Md_length m)
abbrev Md_set_fields (m : S_Md) (a : Int32) : S_Md := (Md_kinds m, Md_values m, Md_firsts m, Md_manies m, Md_said m, Md_marked m, Md_leaders m, Md_trial m, Md_shown m, Md_end m, Md_nodes m, Md_features m, Md_parts m, a, Md_pushedFeatures m, Md_pushedParts m, Md_pushed m, Md_touched m, Md_touches m, Md_reached m, Md_blocks m, Md_newBlocks m, Md_places m, Md_written m, Md_other m, Md_length m)
abbrev Md_set_pushedFeatures (m : S_Md) (a : Ar) : S_Md := (Md_kinds m, Md_values m, Md_firsts m, Md_manies m, Md_said m, Md_marked m, Md_leaders m, Md_trial m, Md_shown m, Md_end m, Md_nodes m, Md_features m, Md_parts m, Md_fields m, a, Md_pushedParts m, Md_pushed m, Md_touched m, Md_touches m, Md_reached m, Md_blocks m, Md_newBlocks m, Md_places m, Md_written m, Md_other m, Md_length m)
abbrev Md_set_pushedParts (m : S_Md) (a : Ar) : S_Md := (Md_kinds m, Md_values m, Md_firsts m, Md_manies m, Md_said m, Md_marked m, Md_leaders m, Md_trial m, Md_shown m, Md_end m, Md_nodes m, Md_features m, Md_parts m, Md_fields m, Md_pushedFeatures m, a, Md_pushed m, Md_touched m, Md_touches m, Md_reached m, Md_blocks m, Md_newBlocks m, Md_places m, Md_written m, Md_other m, Md_length m)
abbrev Md_set_pushed (m : S_Md) (a : Int32) : S_Md := (Md_kinds m, Md_values m, Md_firsts m, Md_manies m, Md_said m, Md_marked m, Md_leaders m, Md_trial m, Md_shown m, Md_end m, Md_nodes m, Md_features m, Md_parts m, Md_fields m, Md_pushedFeatures m, Md_pushedParts m, a, Md_touched m, Md_touches m, Md_reached m, Md_blocks m, Md_newBlocks m, Md_places m, Md_written m, Md_other m, Md_length m)
abbrev Md_set_touched (m : S_Md) (a : Ar) : S_Md := (Md_kinds m, Md_values m, Md_firsts m, Md_manies m, Md_said m, Md_marked m, Md_leaders m, Md_trial m, Md_shown m, Md_end m, Md_nodes m, Md_features m, Md_parts m, Md_fields m, Md_pushedFeatures m, Md_pushedParts m, Md_pushed m, a, Md_touches m, Md_reached m, Md_blocks m, Md_newBlocks m, Md_places m, Md_written m, Md_other m, Md_length m)
abbrev Md_set_touches (m : S_Md) (a : Int32) : S_Md := (Md_kinds m, Md_values m, Md_firsts m, Md_manies m, Md_said m, Md_marked m, Md_leaders m, Md_trial m, Md_shown m, Md_end m, Md_nodes m, Md_features m, Md_parts m, Md_fields m, Md_pushedFeatures m, Md_pushedParts m, Md_pushed m, Md_touched m, a, Md_reached m, Md_blocks m, Md_newBlocks m, Md_places m, Md_written m, Md_other m, Md_length m)
abbrev Md_set_reached (m : S_Md) (a : Ar) : S_Md := (Md_kinds m, Md_values m, Md_firsts m, Md_manies m, Md_said m, Md_marked m, Md_leaders m, Md_trial m, Md_shown m, Md_end m, Md_nodes m, Md_features m, Md_parts m, Md_fields m, Md_pushedFeatures m, Md_pushedParts m, Md_pushed m, Md_touched m, Md_touches m, a, Md_blocks m, Md_newBlocks m, Md_places m, Md_written m, Md_other m, Md_length m)
abbrev Md_set_blocks (m : S_Md) (a : Ar) : S_Md := (Md_kinds m, Md_values m, Md_firsts m, Md_manies m, Md_said m, Md_marked m, Md_leaders m, Md_trial m, Md_shown m, Md_end m, Md_nodes m, Md_features m, Md_parts m, Md_fields m, Md_pushedFeatures m, Md_pushedParts m, Md_pushed m, Md_touched m, Md_touches m, Md_reached m, a, Md_newBlocks m, Md_places m, Md_written m, Md_other m, Md_length m)
abbrev Md_set_newBlocks (m : S_Md) (a : Ar) : S_Md := (Md_kinds m, Md_values m, Md_firsts m, Md_manies m, Md_said m, Md_marked m, Md_leaders m, Md_trial m, Md_shown m, Md_end m, Md_nodes m, Md_features m, Md_parts m, Md_fields m, Md_pushedFeatures m, Md_pushedParts m, Md_pushed m, Md_touched m, Md_touches m, Md_reached m, Md_blocks m, a, Md_places m, Md_written m, Md_other m, Md_length m)
abbrev Md_set_places (m : S_Md) (a : Ar) : S_Md := (Md_kinds m, Md_values m, Md_firsts m, Md_manies m, Md_said m, Md_marked m, Md_leaders m, Md_trial m, Md_shown m, Md_end m, Md_nodes m, Md_features m, Md_parts m, Md_fields m, Md_pushedFeatures m, Md_pushedParts m, Md_pushed m, Md_touched m, Md_touches m, Md_reached m, Md_blocks m, Md_newBlocks m, a, Md_written m, Md_other m, Md_length m)
abbrev Md_set_written (m : S_Md) (a : Ar) : S_Md := (Md_kinds m, Md_values m, Md_firsts m, Md_manies m, Md_said m, Md_marked m, Md_leaders m, Md_trial m, Md_shown m, Md_end m, Md_nodes m, Md_features m, Md_parts m, Md_fields m, Md_pushedFeatures m, Md_pushedParts m, Md_pushed m, Md_touched m, Md_touches m, Md_reached m, Md_blocks m, Md_newBlocks m, Md_places m, a, Md_other m, Md_length m)
abbrev Md_set_other (m : S_Md) (a : Ar) : S_Md := (Md_kinds m, Md_values m, Md_firsts m, Md_manies m, Md_said m, Md_marked m, Md_leaders m, Md_trial m, Md_shown m, Md_end m, Md_nodes m, Md_features m, Md_parts m, Md_fields m, Md_pushedFeatures m, Md_pushedParts m, Md_pushed m, Md_touched m, Md_touches m, Md_reached m, Md_blocks m, Md_newBlocks m, Md_places m, Md_written m, a, Md_length m)
abbrev Md_set_length (m : S_Md) (a : Int32) : S_Md := (Md_kinds m, Md_values m, Md_firsts m, Md_manies m, Md_said m, Md_marked m, Md_leaders m, Md_trial m, Md_shown m, Md_end m, Md_nodes m, Md_features m, Md_parts m, Md_fields m, Md_pushedFeatures m, Md_pushedParts m, Md_pushed m, Md_touched m, Md_touches m, Md_reached m, Md_blocks m, Md_newBlocks m, Md_places m, Md_written m, Md_other m, a)
/-- the lengths of its rows -/
def RL (m : S_Md) : Prop :=
  ((Md_kinds m).1 = 32768 ∧ (Md_values m).1 = 32768 ∧ (Md_firsts m).1 = 32768 ∧ (Md_manies m).1 = 32768 ∧ (Md_said m).1 = 32768 ∧ (Md_marked m).1 = 32768 ∧ (Md_leaders m).1 = 32768 ∧ (Md_trial m).1 = 32768 ∧ (Md_shown m).1 = 32768) ∧
  ((Md_features m).1 = 65536 ∧ (Md_parts m).1 = 65536 ∧ (Md_pushedFeatures m).1 = 255 ∧ (Md_pushedParts m).1 = 255) ∧
  ((Md_touched m).1 = 32768 ∧ (Md_reached m).1 = 32768 ∧ (Md_blocks m).1 = 32768 ∧ (Md_newBlocks m).1 = 32768 ∧ (Md_places m).1 = 32768) ∧
  (256 ≤ (Md_written m).1 ∧ (Md_written m).1 ≤ 16384 ∧ 256 ≤ (Md_other m).1 ∧ (Md_other m).1 ≤ 16384)
def RZ (m : S_Md) (z : AS) (st : Nat → Nat) : Prop :=
  (Md_end m = nI (a_t z) ∧ Md_nodes m = nI (cnt (fun i => decide (a_kd z i ≠ -1)) (a_t z)) ∧ Md_fields m = nI (a_sum z)) ∧
  (∀ i, i < 32768 → (Md_kinds m).2 i = a_kd z i) ∧
  (∀ i, al z i → (Md_values m).2 i = a_vl z i) ∧
  (∀ i, al z i → (Md_manies m).2 i = nI (a_fl z i).length) ∧
  (∀ i, al z i → a_fl z i ≠ [] → (Md_firsts m).2 i = nI (st i)) ∧
  (∀ i, al z i → (Md_leaders m).2 i = nI (a_ld z i)) ∧
  (∀ i, al z i → st i + (a_fl z i).length ≤ a_sum z) ∧
  (∀ i k, al z i → ∀ q, (a_fl z i)[k]? = some q → (Md_features m).2 (st i + k) = q.1 ∧ (Md_parts m).2 (st i + k) = nI q.2) ∧
  (∀ i j, al z i → al z j → i ≠ j → st i + (a_fl z i).length ≤ st j ∨ st j + (a_fl z j).length ≤ st i)
theorem ne_of_lt {α : Type} {l : List α} {k : Nat} (h : k < l.length) : l ≠ [] := fun e => by rw [e] at h; exact absurd h (Nat.not_lt_zero _)
def RMk (m : S_Md) (z : AS) (mk : Nat → Bool) : Prop := ∀ i, al z i → (Md_marked m).2 i = if mk i then 1 else 0
def RD (m : S_Md) (z : AS) (nd : Nat → Prop) : Prop := (∀ i, al z i → (Md_said m).2 i = 0 ∨ (Md_said m).2 i = 1) ∧ ∀ r, al z r → a_ld z r = r → a_var z r → ((∃ j, al z j ∧ a_ld z j = r ∧ (Md_said m).2 j = 1) ↔ nd r)
def RP (m : S_Md) (pu : List (Int32 × Nat)) : Prop := Md_pushed m = nI pu.length ∧ pu.length ≤ 255 ∧ ∀ k q, pu[k]? = some q → (Md_pushedFeatures m).2 k = q.1 ∧ (Md_pushedParts m).2 k = nI q.2
def RT (m : S_Md) (to : List Nat) : Prop := Md_touches m = nI to.length ∧ to.length ≤ 512 ∧ ∀ k x, to[k]? = some x → (Md_touched m).2 k = nI x
def LMd (m : S_Md) : Nat := (Md_written m).1 + (Md_other m).1
/-- the reference's object holds the state F -/
def RM (m : S_Md) (F : FS) : Prop := RL m ∧ (∃ st, RZ m (f_z F) st) ∧ RMk m (f_z F) (f_mk F) ∧ RD m (f_z F) (f_nd F) ∧ RP m (f_pu F) ∧ RT m (f_to F)
def xoM (x : MO (Int32 × S_Md)) (m : S_Md) (sp : Int32 → FS → Prop) : Prop := xo x (fun o c => ∃ F', sp o.1 F' ∧ RM o.2 F' ∧ c + 2 * LMd m ≤ 2 * LMd o.2)
theorem nb_0 : vp_nar .boolean (0 : Int32) = 0 := by decide +kernel
theorem nb_1 : vp_nar .boolean (1 : Int32) = 1 := by decide +kernel
theorem ny_m : vp_nar .byte (-1 : Int32) = -1 := by decide +kernel
theorem ny_k {k : Int32} (hk : k = 0 ∨ k = 1 ∨ k = 2 ∨ k = 3 ∨ k = 4) : vp_nar .byte (k.toInt8.toInt32) = k := by
  rcases hk with rfl | rfl | rfl | rfl | rfl <;> decide +kernel
theorem r_unmarkL {n t : Nat} (ht : t ≤ 32768) : ∀ (fuel i : Nat) (m : S_Md), t - i < fuel → i ≤ t → Md_end m = nI t → (Md_marked m).1 = 32768 → xo (L_Md_unmark_2 n fuel (nI i) m) (fun o c => c = 0 ∧ ∃ g, o.2 = Md_set_marked m (32768, g) ∧ ∀ j, g j = if i ≤ j ∧ j < t then 0 else (Md_marked m).2 j) := by
  intro fuel
  induction fuel with
  | zero => intro i m h; omega
  | succ fuel ih =>
    intro i m h1 h2 h3 h4
    rw [L_Md_unmark_2_s, nb_0]
    refine xo_le t i h3 rfl (by omega) (by omega) (fun q => ?_) (fun q => ?_)
    · refine xo_p ⟨rfl, (Md_marked m).2, ?_, fun j => by rw [if_neg (by omega)]⟩
      show m = _
      rw [← h4]
    · refine xo_wr i rfl (by omega) (by omega) ?_
      rw [nI_1]
      refine xo_m (ih (i + 1) (Md_set_marked m ((Md_marked m).1, upd (Md_marked m).2 i 0)) (by omega) (by omega) h3 h4) (fun o c g => ?_)
      obtain ⟨e1, g, e2, e3⟩ := g
      refine ⟨e1, g, e2, fun j => ?_⟩
      rw [e3 j]
      show (if i + 1 ≤ j ∧ j < t then 0 else upd (Md_marked m).2 i 0 j) = _
      rw [upd_at]
      by_cases a1 : j = i
      · rw [if_neg (by omega), if_pos a1, if_pos (by omega)]
      · by_cases a2 : i + 1 ≤ j ∧ j < t
        · rw [if_pos a2, if_pos (by omega)]
        · rw [if_neg a2, if_neg a1, if_neg (by omega)]
theorem r_unmark {n t : Nat} (hn : 100000 ≤ n) (ht : t ≤ 32768) {m : S_Md} (h3 : Md_end m = nI t) (h4 : (Md_marked m).1 = 32768) : xo (m_Md_unmark n m) (fun o c => c = 0 ∧ ∃ g, o = Md_set_marked m (32768, g) ∧ ∀ j, j < t → g j = 0) := by
  unfold m_Md_unmark
  have hh := r_unmarkL (n := n) ht n 0 m (by omega) (Nat.zero_le _) h3 h4
  rw [← nI0] at hh
  refine xo_b _ hh (fun a c h => ?_)
  obtain ⟨e1, g, e2, e3⟩ := h
  exact xo_p ⟨by omega, g, e2, fun j hj => by rw [e3 j, if_pos ⟨Nat.zero_le _, hj⟩]⟩
theorem r_makeL {n : Nat} {m : S_Md} {z : AS} (hl : (Md_kinds m).1 = 32768) (hk : ∀ i, i < 32768 → (Md_kinds m).2 i = a_kd z i) (hw : a_wf z) (ht : a_t z ≤ 512) (p q : Int32) : ∀ (fuel i : Nat), a_t z - i < fuel → i ≤ a_t z → (∀ j, j < i → al z j) → xo (L_Md_make_18 p q m n fuel (nI i)) (fun o c => c = 0 ∧ ∃ x, o = nI x ∧ z_least z x) := by
  intro fuel
  induction fuel with
  | zero => intro i h; omega
  | succ fuel ih =>
    intro i h1 h2 h3
    rw [L_Md_make_18_s]
    refine xo_rd i rfl (by omega) (by omega) ?_
    rw [hk i (by omega)]
    refine xo_if (fun e => ?_) (fun e => ?_)
    · exact xo_p ⟨rfl, i, rfl, fun e2 => e2 e, h3⟩
    · rw [nI_1]
      have hi : i < a_t z := al_lt hw e
      refine ih (i + 1) (by omega) (by omega) (fun j hj => ?_)
      by_cases e2 : j = i
      · subst e2; exact e
      · exact h3 j (by omega)
theorem r_make {n : Nat} (hn : 100000 ≤ n) {m : S_Md} {z : AS} {st : Nat → Nat} {nd : Nat → Prop} (hL : RL m) (hZ : RZ m z st) (hD : RD m z nd) (hw : a_wf z) (ht : a_t z < 512) {k v : Int32} (hk : k = 0 ∨ k = 1 ∨ k = 2 ∨ k = 3 ∨ k = 4) : xo (m_Md_make n m k v) (fun o c => c = 0 ∧ ∃ x, z_least z x ∧ o.1 = nI x ∧ RL o.2 ∧ RZ o.2 (z_add z x k v []) (fun i => if i = x then a_sum z else st i) ∧ RMk o.2 (z_add z x k v []) (fun _ => false) ∧ RD o.2 (z_add z x k v []) (fun r => r ≠ x ∧ nd r) ∧ (Md_pushedFeatures o.2 = Md_pushedFeatures m ∧ Md_pushedParts o.2 = Md_pushedParts m ∧ Md_pushed o.2 = Md_pushed m ∧ Md_touched o.2 = Md_touched m ∧ Md_touches o.2 = Md_touches m ∧ Md_written o.2 = Md_written m ∧ Md_other o.2 = Md_other m ∧ (Md_firsts o.2).2 x = nI (a_sum z))) := by
  obtain ⟨⟨hE, hN, hFl⟩, c1, c2, c3, c4, c5, c6, c7, c8⟩ := hZ
  have hc := cnt_le (fun i => decide (a_kd z i ≠ -1)) (a_t z)
  have hk1 : k ≠ -1 := by rcases hk with rfl | rfl | rfl | rfl | rfl <;> decide
  unfold m_Md_make
  refine xo_eq _ 32768 hN (by decide +kernel) (by omega) (by omega) (fun q => absurd q (by omega)) (fun _ => ?_)
  refine xo_b _ (r_unmark hn (by omega) hE hL.1.2.2.2.2.2.1) (fun m1 d1 g1 => ?_)
  obtain ⟨e1, g, rfl, g0⟩ := g1
  have hh := r_makeL (n := n) (m := Md_set_marked m (32768, g)) (z := z) hL.1.1 c1 hw (by omega) k v n 0 (by omega) (Nat.zero_le _) (fun j hj => by omega)
  rw [← nI0] at hh
  refine xo_b _ hh (fun x1 d2 g2 => ?_)
  obtain ⟨e2, x, rfl, hx⟩ := g2
  have hxt := z_least_le hw hx
  obtain ⟨⟨l1, l2, l3, l4, l5, l6, l7, l8, l9⟩, lB, lC, lD⟩ := hL
  rw [ny_k hk, nb_0]
  refine xo_wr x rfl (by show x < (Md_kinds m).1; omega) (by omega) ?_
  refine xo_wr x rfl (by show x < (Md_values m).1; omega) (by omega) ?_
  refine xo_wr x rfl (by show x < (Md_firsts m).1; omega) (by omega) ?_
  refine xo_wr x rfl (by show x < (Md_manies m).1; omega) (by omega) ?_
  refine xo_wr x rfl (by show x < (Md_said m).1; omega) (by omega) ?_
  refine xo_wr x rfl (by show x < 32768; omega) (by omega) ?_
  refine xo_wr x rfl (by show x < (Md_leaders m).1; omega) (by omega) ?_
  have ht' : a_t (z_add z x k v []) = max (a_t z) (x + 1) := rfl
  have hal := fun i => z_add_al (z := z) (x := x) (v := v) (f := []) hk1 i
  have old : ∀ i, al (z_add z x k v []) i → i ≠ x → al z i := fun i hi e => ((hal i).mp hi).resolve_left e
  have hsum : a_sum (z_add z x k v []) = a_sum z := a_sum_add (k := k) (v := v) (f := []) hw hx
  have hend : ∀ E : Int32, E = nI (max (a_t z) (x + 1)) → RL ((((Md_kinds m).1, upd (Md_kinds m).2 x k), ((Md_values m).1, upd (Md_values m).2 x v), ((Md_firsts m).1, upd (Md_firsts m).2 x (Md_fields m)), ((Md_manies m).1, upd (Md_manies m).2 x 0), ((Md_said m).1, upd (Md_said m).2 x 0), (32768, upd g x 0), ((Md_leaders m).1, upd (Md_leaders m).2 x (nI x)), Md_trial m, Md_shown m, E, Md_nodes m + 1, Md_features m, Md_parts m, Md_fields m, Md_pushedFeatures m, Md_pushedParts m, Md_pushed m, Md_touched m, Md_touches m, Md_reached m, Md_blocks m, Md_newBlocks m, Md_places m, Md_written m, Md_other m, Md_length m) : S_Md) ∧ RZ ((((Md_kinds m).1, upd (Md_kinds m).2 x k), ((Md_values m).1, upd (Md_values m).2 x v), ((Md_firsts m).1, upd (Md_firsts m).2 x (Md_fields m)), ((Md_manies m).1, upd (Md_manies m).2 x 0), ((Md_said m).1, upd (Md_said m).2 x 0), (32768, upd g x 0), ((Md_leaders m).1, upd (Md_leaders m).2 x (nI x)), Md_trial m, Md_shown m, E, Md_nodes m + 1, Md_features m, Md_parts m, Md_fields m, Md_pushedFeatures m, Md_pushedParts m, Md_pushed m, Md_touched m, Md_touches m, Md_reached m, Md_blocks m, Md_newBlocks m, Md_places m, Md_written m, Md_other m, Md_length m) : S_Md) (z_add z x k v []) (fun i => if i = x then a_sum z else st i) ∧ RMk ((((Md_kinds m).1, upd (Md_kinds m).2 x k), ((Md_values m).1, upd (Md_values m).2 x v), ((Md_firsts m).1, upd (Md_firsts m).2 x (Md_fields m)), ((Md_manies m).1, upd (Md_manies m).2 x 0), ((Md_said m).1, upd (Md_said m).2 x 0), (32768, upd g x 0), ((Md_leaders m).1, upd (Md_leaders m).2 x (nI x)), Md_trial m, Md_shown m, E, Md_nodes m + 1, Md_features m, Md_parts m, Md_fields m, Md_pushedFeatures m, Md_pushedParts m, Md_pushed m, Md_touched m, Md_touches m, Md_reached m, Md_blocks m, Md_newBlocks m, Md_places m, Md_written m, Md_other m, Md_length m) : S_Md) (z_add z x k v []) (fun _ => false) ∧ RD ((((Md_kinds m).1, upd (Md_kinds m).2 x k), ((Md_values m).1, upd (Md_values m).2 x v), ((Md_firsts m).1, upd (Md_firsts m).2 x (Md_fields m)), ((Md_manies m).1, upd (Md_manies m).2 x 0), ((Md_said m).1, upd (Md_said m).2 x 0), (32768, upd g x 0), ((Md_leaders m).1, upd (Md_leaders m).2 x (nI x)), Md_trial m, Md_shown m, E, Md_nodes m + 1, Md_features m, Md_parts m, Md_fields m, Md_pushedFeatures m, Md_pushedParts m, Md_pushed m, Md_touched m, Md_touches m, Md_reached m, Md_blocks m, Md_newBlocks m, Md_places m, Md_written m, Md_other m, Md_length m) : S_Md) (z_add z x k v []) (fun r => r ≠ x ∧ nd r) := by
    intro E hE'
    refine ⟨⟨⟨l1, l2, l3, l4, l5, rfl, l7, l8, l9⟩, lB, lC, lD⟩, ⟨⟨hE', ?_, ?_⟩, ?_, ?_, ?_, ?_, ?_, ?_, ?_, ?_⟩, ?_, ⟨?_, ?_⟩⟩
    · show Md_nodes m + 1 = _
      rw [hN, cnt_add hw hx hk1, nI_1]
    · rw [hsum]; exact hFl
    · intro i hi
      show upd (Md_kinds m).2 x k i = (if i = x then k else a_kd z i)
      rw [upd_at, c1 i hi]
    · intro i hi
      show upd (Md_values m).2 x v i = (if i = x then v else a_vl z i)
      rw [upd_at]
      by_cases e : i = x
      · rw [if_pos e, if_pos e]
      · rw [if_neg e, if_neg e, c2 i (old i hi e)]
    · intro i hi
      show upd (Md_manies m).2 x 0 i = nI (if i = x then ([] : List (Int32 × Nat)) else a_fl z i).length
      rw [upd_at]
      by_cases e : i = x
      · rw [if_pos e, if_pos e]; exact nI0
      · rw [if_neg e, if_neg e, c3 i (old i hi e)]
    · intro i hi hne
      have hne' : (if i = x then ([] : List (Int32 × Nat)) else a_fl z i) ≠ [] := hne
      show upd (Md_firsts m).2 x (Md_fields m) i = nI (if i = x then a_sum z else st i)
      rw [upd_at]
      by_cases e : i = x
      · rw [if_pos e, if_pos e]; exact hFl
      · rw [if_neg e] at hne'
        rw [if_neg e, if_neg e, c4 i (old i hi e) hne']
    · intro i hi
      show upd (Md_leaders m).2 x (nI x) i = nI (if i = x then x else a_ld z i)
      rw [upd_at]
      by_cases e : i = x
      · rw [if_pos e, if_pos e]
      · rw [if_neg e, if_neg e, c5 i (old i hi e)]
    · intro i hi
      rw [hsum]
      show (if i = x then a_sum z else st i) + (if i = x then ([] : List (Int32 × Nat)) else a_fl z i).length ≤ a_sum z
      by_cases e : i = x
      · rw [if_pos e, if_pos e]; exact Nat.le_refl _
      · rw [if_neg e, if_neg e]; exact c6 i (old i hi e)
    · intro i j hi q hq
      have hq' : (if i = x then ([] : List (Int32 × Nat)) else a_fl z i)[j]? = some q := hq
      show (Md_features m).2 ((if i = x then a_sum z else st i) + j) = q.1 ∧ (Md_parts m).2 ((if i = x then a_sum z else st i) + j) = nI q.2
      by_cases e : i = x
      · rw [if_pos e] at hq'; simp at hq'
      · rw [if_neg e] at hq' ⊢
        exact c7 i j (old i hi e) q hq'
    · intro i j hi hj hij
      show (if i = x then a_sum z else st i) + (if i = x then ([] : List (Int32 × Nat)) else a_fl z i).length ≤ (if j = x then a_sum z else st j) ∨ (if j = x then a_sum z else st j) + (if j = x then ([] : List (Int32 × Nat)) else a_fl z j).length ≤ (if i = x then a_sum z else st i)
      by_cases e : i = x
      · have e2 : j ≠ x := fun q => hij (e.trans q.symm)
        rw [if_pos e, if_pos e, if_neg e2, if_neg e2]
        exact Or.inr (c6 j (old j hj e2))
      · by_cases e2 : j = x
        · rw [if_neg e, if_neg e, if_pos e2, if_pos e2]
          exact Or.inl (c6 i (old i hi e))
        · rw [if_neg e, if_neg e, if_neg e2, if_neg e2]
          exact c8 i j (old i hi e) (old j hj e2) hij
    · intro i hi
      show upd g x 0 i = 0
      rw [upd_at]
      by_cases e : i = x
      · rw [if_pos e]
      · rw [if_neg e]; exact g0 i (al_lt hw (old i hi e))
    · intro i hi
      show upd (Md_said m).2 x 0 i = 0 ∨ upd (Md_said m).2 x 0 i = 1
      rw [upd_at]
      by_cases e : i = x
      · rw [if_pos e]; exact Or.inl rfl
      · rw [if_neg e]; exact hD.1 i (old i hi e)
    · intro r hr hrl hrv
      have hrl' : (if r = x then x else a_ld z r) = r := hrl
      constructor
      · rintro ⟨j, hj, hjl, hjs⟩
        have hjs' : upd (Md_said m).2 x 0 j = 1 := hjs
        have hjl' : (if j = x then x else a_ld z j) = r := hjl
        rw [upd_at] at hjs'
        by_cases e : j = x
        · rw [if_pos e] at hjs'; exact absurd hjs' (by decide)
        · rw [if_neg e] at hjs' hjl'
          have hja := old j hj e
          have hrx : r ≠ x := fun q => hx.1 (q ▸ hjl' ▸ (hw.2.2.1 j hja).2.1)
          rw [if_neg hrx] at hrl'
          have hv : a_var z r := fun i hi hil => by
            have hix : i ≠ x := fun q => hx.1 (q ▸ hi)
            have := hrv i ((hal i).mpr (Or.inr hi)) (by show (if i = x then x else a_ld z i) = r; rw [if_neg hix]; exact hil)
            have this' : (if i = x then k else a_kd z i) = 0 := this
            rw [if_neg hix] at this'
            exact this'
          exact ⟨hrx, (hD.2 r (old r hr hrx) hrl' hv).mp ⟨j, hja, hjl', hjs'⟩⟩
      · rintro ⟨hrx, hnd⟩
        rw [if_neg hrx] at hrl'
        have hv : a_var z r := fun i hi hil => by
          have hix : i ≠ x := fun q => hx.1 (q ▸ hi)
          have := hrv i ((hal i).mpr (Or.inr hi)) (by show (if i = x then x else a_ld z i) = r; rw [if_neg hix]; exact hil)
          have this' : (if i = x then k else a_kd z i) = 0 := this
          rw [if_neg hix] at this'
          exact this'
        obtain ⟨j, hj, hjl, hjs⟩ := (hD.2 r (old r hr hrx) hrl' hv).mpr hnd
        have hjx : j ≠ x := fun q => hx.1 (q ▸ hj)
        refine ⟨j, (hal j).mpr (Or.inr hj), ?_, ?_⟩
        · show (if j = x then x else a_ld z j) = r
          rw [if_neg hjx]; exact hjl
        · show upd (Md_said m).2 x 0 j = 1
          rw [upd_at, if_neg hjx]; exact hjs
  refine xo_b (fun E c => c = 0 ∧ E = nI (max (a_t z) (x + 1))) ?_ (fun E c3 g3 => ?_)
  · refine xo_lt x (a_t z) rfl hE (by omega) (by omega) (fun q => ?_) (fun q => ?_)
    · exact xo_p ⟨rfl, by rw [Nat.max_eq_left (by omega)]; exact hE⟩
    · exact xo_p ⟨rfl, by rw [Nat.max_eq_right (by omega), ← nI_1]⟩
  · obtain ⟨r1, r2, r3, r4⟩ := hend E g3.2
    exact xo_p ⟨by omega, x, hx, rfl, r1, r2, r3, r4, rfl, rfl, rfl, rfl, rfl, rfl, rfl, by show upd (Md_firsts m).2 x (Md_fields m) x = _; rw [upd_at, if_pos rfl]; exact hFl⟩
