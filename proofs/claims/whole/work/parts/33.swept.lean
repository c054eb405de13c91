/-! what stays behind a sweep -/
theorem a_bd_ex {z : AS} {x : Nat} (hx : al z x) : ∃ b, a_bd z x b := by
  by_cases h : a_var z (a_ld z x)
  · exact ⟨x, hx, rfl, fun _ => h⟩
  · unfold a_var at h
    obtain ⟨j, hj⟩ := Classical.not_forall.mp h
    obtain ⟨h1, hj⟩ := Classical.not_forall.mp hj
    obtain ⟨h2, hj⟩ := Classical.not_forall.mp hj
    exact ⟨j, h1, h2, fun q => absurd q hj⟩
noncomputable def a_body (z : AS) (x : Nat) : Nat := Classical.epsilon (fun b => a_bd z x b)
theorem a_body_spec {z : AS} {x : Nat} (hx : al z x) : a_bd z x (a_body z x) := Classical.epsilon_spec (a_bd_ex hx)
noncomputable def swK (z : AS) (mk : Nat → Bool) (i : Nat) : Bool := pb (mk i = true ∧ al z i ∧ a_ld z i = i)
def topf (K : Nat → Bool) : Nat → Nat
  | 0 => 0
  | t + 1 => if K t then t + 1 else topf K t
theorem topf_le (K : Nat → Bool) : ∀ t, topf K t ≤ t
  | 0 => Nat.le_refl 0
  | t + 1 => by
    unfold topf
    have := topf_le K t
    split <;> omega
theorem topf_out (K : Nat → Bool) : ∀ t i, topf K t ≤ i → i < t → K i = false
  | 0 => fun i _ h => by omega
  | t + 1 => fun i h1 h2 => by
    unfold topf at h1
    by_cases e : K t = true
    · rw [if_pos e] at h1; omega
    · rw [if_neg e] at h1
      by_cases e2 : i = t
      · subst e2; simpa using e
      · exact topf_out K t i h1 (by omega)
theorem topf_in (K : Nat → Bool) : ∀ t, 0 < topf K t → K (topf K t - 1) = true
  | 0 => fun h => by unfold topf at h; omega
  | t + 1 => fun h => by
    unfold topf at h ⊢
    by_cases e : K t = true
    · rw [if_pos e]; exact e
    · rw [if_neg e] at h ⊢; exact topf_in K t h
noncomputable def swF (z : AS) (i : Nat) : List (Int32 × Nat) := (a_fl z (a_body z i)).map (fun q => (q.1, a_ld z q.2))
noncomputable def z_sw (z : AS) (mk : Nat → Bool) : AS := (topf (swK z mk) (a_t z), fun i => if swK z mk i then a_kd z (a_body z i) else -1, fun i => if swK z mk i then a_vl z (a_body z i) else 0, fun i => i, fun i => if swK z mk i then swF z i else [])
theorem swF_eq {z : AS} (hw : a_wf z) {i b : Nat} (hi : al z i) (hb : a_bd z i b) : swF z i = (a_fl z b).map (fun q => (q.1, a_ld z q.2)) := by
  unfold swF
  have hs := a_body_spec hi
  apply List.ext_getElem?
  intro k
  rw [List.getElem?_map, List.getElem?_map]
  cases h : (a_fl z (a_body z i))[k]? with
  | none =>
    have hl := a_fl_len hw hs hb
    have : (a_fl z b)[k]? = none := by
      rw [List.getElem?_eq_none_iff] at h ⊢
      omega
    rw [this]
  | some q =>
    obtain ⟨q2, g1, g2, g3⟩ := a_fl_at hw hs hb h
    rw [g1]
    simp [g2, g3]
theorem swF_len {z : AS} (hw : a_wf z) {i b : Nat} (hi : al z i) (hb : a_bd z i b) : (swF z i).length = (a_fl z b).length := by rw [swF_eq hw hi hb, List.length_map]
theorem sw_al {z : AS} (hw : a_wf z) {mk : Nat → Bool} {i : Nat} : al (z_sw z mk) i ↔ swK z mk i = true := by
  unfold al
  show (if swK z mk i = true then a_kd z (a_body z i) else -1) ≠ -1 ↔ _
  by_cases e : swK z mk i = true
  · rw [if_pos e]
    exact ⟨fun _ => e, fun _ => (a_body_spec (pb_iff.mp e).2.1).1⟩
  · rw [if_neg e]
    exact ⟨fun q => absurd rfl q, fun q => absurd q e⟩
theorem sw_wf {z : AS} (hw : a_wf z) {mk : Nat → Bool} (h7 : ∀ i j, mk i = true → al z j → a_ld z j = a_ld z i → mk j = true) (h8 : ∀ i (q : Int32 × Nat), mk i = true → q ∈ a_fl z i → mk q.2 = true) : a_wf (z_sw z mk) := by
  have hal := fun i => sw_al hw (mk := mk) (i := i)
  have hK : ∀ i, swK z mk i = true → mk i = true ∧ al z i ∧ a_ld z i = i := fun i h => pb_iff.mp h
  have hkd : ∀ i, swK z mk i = true → a_kd (z_sw z mk) i = a_kd z (a_body z i) := fun i h => if_pos h
  have hfl : ∀ i, swK z mk i = true → a_fl (z_sw z mk) i = swF z i := fun i h => if_pos h
  refine ⟨fun i hi => ?_, fun i hi => ?_, fun i hi => ⟨Nat.le_refl _, hi, rfl⟩, fun i hi => ⟨rfl, ?_⟩, fun i hi => ⟨fun q => ?_, ?_, fun q hq => ?_⟩, fun i hi q => ?_, fun i j hi hj _ _ hij => ?_, fun h => ?_⟩
  · have hi' : topf (swK z mk) (a_t z) ≤ i := hi
    show (if swK z mk i = true then _ else (-1 : Int32)) = -1
    by_cases e : i < a_t z
    · rw [topf_out _ _ i hi' e]; rfl
    · rw [if_neg (fun q => (hK i q).2.1 (hw.1 i (by omega)))]
  · have := (hal i).mp hi
    rw [hkd i this]
    exact hw.2.1 _ (a_body_spec (hK i this).2.1).1
  · show (if swK z mk i = true then swF z i else []) = []
    rw [if_neg (fun q => hi ((hal i).mpr q))]
  · have h := (hal i).mp hi
    rw [hkd i h] at q
    rw [hfl i h]
    unfold swF
    rw [(hw.2.2.2.2.1 _ (a_body_spec (hK i h).2.1).1).1 q]
    rfl
  · have h := (hal i).mp hi
    rw [hfl i h]
    unfold swF
    rw [List.map_map]
    exact (hw.2.2.2.2.1 _ (a_body_spec (hK i h).2.1).1).2.1
  · have h := (hal i).mp hi
    rw [hfl i h] at hq
    unfold swF at hq
    obtain ⟨q2, g1, rfl⟩ := List.mem_map.mp hq
    have hb := a_body_spec (hK i h).2.1
    have h2 := (hw.2.2.2.2.1 _ hb.1).2.2 q2 g1
    have m1 := h7 i _ (hK i h).1 hb.1 hb.2.1
    have m2 := h8 _ q2 m1 g1
    exact (hal _).mpr (pb_t ⟨h7 _ _ m2 (hw.2.2.1 _ h2).2.1 (hw.2.2.1 _ h2).2.2, (hw.2.2.1 _ h2).2.1, (hw.2.2.1 _ h2).2.2⟩)
  · have h := (hal i).mp hi
    rw [hkd i h] at q
    show (if swK z mk i = true then a_vl z (a_body z i) else 0) = 0
    rw [if_pos h]
    exact hw.2.2.2.2.2.1 _ (a_body_spec (hK i h).2.1).1 q
  · have e : i = j := hij
    subst e
    exact ⟨⟨rfl, rfl, rfl, fun _ => rfl⟩, rfl⟩
  · exact (hal _).mpr (topf_in _ _ h)
/-- a sum over some, each by a number of its own, is no more than the whole sum -/
theorem sumf_inj {t : Nat} {b : Nat → Nat} {K : Nat → Bool} : ∀ (n : Nat) (g : Nat → Nat), (∀ i, K i = true → i < n → b i < t) → (∀ i j, K i = true → K j = true → i < n → j < n → b i = b j → i = j) → sumf (fun i => if K i then g (b i) else 0) n ≤ sumf g t := by
  intro n
  induction n with
  | zero => intro g _ _; exact Nat.zero_le _
  | succ n ih =>
    intro g h1 h2
    rw [sumf_s]
    by_cases e : K n = true
    · show _ + (if K n = true then g (b n) else 0) ≤ _
      rw [if_pos e]
      have hs : sumf g t = sumf (fun j => if j = b n then 0 else g j) t + g (b n) := sumf_set (h1 n e (by omega)) (by show (if b n = b n then 0 else g (b n)) = 0; rw [if_pos rfl]) rfl (fun i hi => by show (if i = b n then 0 else g i) = g i; rw [if_neg hi])
      have hi := ih (fun j => if j = b n then 0 else g j) (fun i hi hl => h1 i hi (by omega)) (fun i j hi hj hil hjl => h2 i j hi hj (by omega) (by omega))
      have hc : sumf (fun i => if K i then g (b i) else 0) n = sumf (fun i => if K i then (if b i = b n then 0 else g (b i)) else 0) n := by
        refine sumf_congr (fun i hi => ?_)
        show (if K i = true then g (b i) else 0) = (if K i = true then (if b i = b n then 0 else g (b i)) else 0)
        by_cases e2 : K i = true
        · rw [if_pos e2, if_pos e2, if_neg (fun q => by have := h2 i n e2 e (by omega) (by omega) q; omega)]
        · rw [if_neg e2, if_neg e2]
      rw [hc]
      have hi' : sumf (fun i => if K i then (if b i = b n then 0 else g (b i)) else 0) n ≤ sumf (fun j => if j = b n then 0 else g j) t := hi
      omega
    · show _ + (if K n = true then g (b n) else 0) ≤ _
      rw [if_neg e]
      exact ih g (fun i hi hl => h1 i hi (by omega)) (fun i j hi hj hil hjl => h2 i j hi hj (by omega) (by omega))
noncomputable def swL (z : AS) (mk : Nat → Bool) (i : Nat) : Nat := (a_fl (z_sw z mk) i).length
theorem swL_t {z : AS} {mk : Nat → Bool} {i : Nat} (h : swK z mk i = true) : swL z mk i = (swF z i).length := by
  show (if swK z mk i = true then swF z i else []).length = _
  rw [if_pos h]
theorem swL_f {z : AS} {mk : Nat → Bool} {i : Nat} (h : ¬ swK z mk i = true) : swL z mk i = 0 := by
  show (if swK z mk i = true then swF z i else []).length = _
  rw [if_neg h]
  rfl
theorem sw_sum_le {z : AS} (hw : a_wf z) {mk : Nat → Bool} (n : Nat) : sumf (swL z mk) n ≤ a_sum z := by
  have h := sumf_inj (t := a_t z) (b := a_body z) (K := swK z mk) n (fun j => (a_fl z j).length) (fun i hi _ => al_lt hw (a_body_spec (pb_iff.mp hi).2.1).1) (fun i j hi hj _ _ e => by
    have h1 := (pb_iff.mp hi).2
    have h2 := (pb_iff.mp hj).2
    have e1 := (a_body_spec h1.1).2.1
    have e2 := (a_body_spec h2.1).2.1
    rw [h1.2] at e1
    rw [h2.2, ← e] at e2
    exact e1.symm.trans e2)
  have hc : sumf (swL z mk) n = sumf (fun i => if swK z mk i then (a_fl z (a_body z i)).length else 0) n := sumf_congr (fun i _ => by
    by_cases e : swK z mk i = true
    · rw [swL_t e, if_pos e]
      unfold swF
      rw [List.length_map]
    · rw [swL_f e, if_neg e])
  rw [hc]
  exact h
theorem sumf_mono {f : Nat → Nat} {a b : Nat} (h : a ≤ b) : sumf f a ≤ sumf f b := by
  induction b with
  | zero => have : a = 0 := by omega
            subst this; exact Nat.le_refl _
  | succ b ih =>
    by_cases e : a = b + 1
    · subst e; exact Nat.le_refl _
    · rw [sumf_s]
      have := ih (by omega)
      omega
theorem sw_sum {z : AS} {mk : Nat → Bool} (hw : a_wf z) : a_sum (z_sw z mk) = sumf (swL z mk) (a_t z) := by
  unfold a_sum
  refine (sumf_ext (topf_le _ _) (fun i hi => ?_)).symm
  show swL z mk i = 0
  refine swL_f (fun q => ?_)
  by_cases e : i < a_t z
  · rw [topf_out _ _ i hi e] at q; exact absurd q (by decide)
  · exact (pb_iff.mp q).2.1 (hw.1 i (by omega))
theorem sw_cnt {z : AS} {mk : Nat → Bool} (hw : a_wf z) : cnt (fun i => decide (a_kd (z_sw z mk) i ≠ -1)) (a_t (z_sw z mk)) = cnt (swK z mk) (a_t z) := by
  have e : ∀ i, (fun i => decide (a_kd (z_sw z mk) i ≠ -1)) i = swK z mk i := fun i => by
    have := sw_al hw (mk := mk) (i := i)
    unfold al at this
    by_cases h : swK z mk i = true
    · rw [h]; exact decide_eq_true (this.mpr h)
    · rw [show swK z mk i = false by simpa using h]; exact decide_eq_false (fun q => h (this.mp q))
  rw [cnt_congr (fun i _ => e i)]
  exact (cnt_ext (topf_le _ _) (fun i h1 h2 => topf_out _ _ i h1 h2)).symm
noncomputable def F_sw (F : FS) (mk : Nat → Bool) : FS := (z_sw (f_z F) mk, f_nd F, fun _ => false, [], [])
def sp_sweep (F : FS) (r : Int32) (F' : FS) : Prop := r = nI (cnt (fun i => decide (a_kd (f_z F) i ≠ -1)) (a_t (f_z F))) - nI (cnt (swK (f_z F) (f_mk F)) (a_t (f_z F))) ∧ F' = F_sw F (f_mk F)
def sp_clear (F : FS) (r : Int32) (F' : FS) : Prop := r = nI (cnt (fun i => decide (a_kd (f_z F) i ≠ -1)) (a_t (f_z F))) ∧ F' = F_sw F (fun _ => false)
theorem FI_sw {F : FS} {c : Nat} (h : FI F c) (hc : c < 512) {mk : Nat → Bool} (h7 : ∀ i j, mk i = true → al (f_z F) j → a_ld (f_z F) j = a_ld (f_z F) i → mk j = true) (h8 : ∀ i (q : Int32 × Nat), mk i = true → q ∈ a_fl (f_z F) i → mk q.2 = true) : FI (F_sw F mk) (c + 1) := by
  have hb := h.2.2.2.2.1
  have h1 := topf_le (swK (f_z F) mk) (a_t (f_z F))
  have h2 := sw_sum_le h.1 (mk := mk) (a_t (f_z F))
  refine ⟨sw_wf h.1 h7 h8, fun q hq => absurd hq List.not_mem_nil, List.nodup_nil, Nat.zero_le _, ⟨?_, ?_, Nat.zero_le _, by omega⟩, fun i hi => absurd (show false = true from hi) Bool.false_ne_true, fun i j hi => absurd (show false = true from hi) Bool.false_ne_true, fun i q hi => absurd (show false = true from hi) Bool.false_ne_true⟩
  · show topf (swK (f_z F) mk) (a_t (f_z F)) ≤ c + 1
    omega
  · show a_sum (z_sw (f_z F) mk) + 0 ≤ c + 1
    rw [sw_sum h.1]
    omega
theorem ok_sweep {F : FS} {c : Nat} (h : FI F c) (hc : c < 512) : spOk F c (sp_sweep F) := ⟨fun r r2 F1 F2 g1 g2 => ⟨g1.1.trans g2.1.symm, g1.2.trans g2.2.symm⟩, fun r F1 g => by rw [g.2]; exact FI_sw h hc h.2.2.2.2.2.2.1 h.2.2.2.2.2.2.2⟩
theorem ok_clear {F : FS} {c : Nat} (h : FI F c) (hc : c < 512) : spOk F c (sp_clear F) := ⟨fun r r2 F1 F2 g1 g2 => ⟨g1.1.trans g2.1.symm, g1.2.trans g2.2.symm⟩, fun r F1 g => by rw [g.2]; exact FI_sw h hc (fun i j q => absurd q (by decide)) (fun i q w => absurd w (by decide))⟩
