theorem r_plain {n : Nat} (hn : 100000 ≤ n) {m : S_Md} {F : FS} {c : Nat} (hC : RM m F) (hF : FI F c) (hc : c < 512) {k v : Int32} (hk : k = 0 ∨ k = 1 ∨ k = 2) : xoM (xm_b (m_Md_make n m k v) (fun o => xm_p (o.1, o.2))) m (sp_make F k v) := by
  obtain ⟨h1, ⟨st, h2⟩, h3, h4, h5, h6⟩ := hC
  have hb := hF.2.2.2.2.1
  have hk5 : k = 0 ∨ k = 1 ∨ k = 2 ∨ k = 3 ∨ k = 4 := by rcases hk with rfl | rfl | rfl <;> simp
  refine xo_b _ (r_make hn h1 h2 h4 hF.1 (by omega) hk5) (fun o d g => ?_)
  obtain ⟨rfl, x, hx, e1, g1, g2, g3, g4, e2, e3, e4, e5, e6, e7, e8, -⟩ := g
  refine xo_p ⟨_, ⟨x, hx, e1, rfl⟩, ⟨g1, ⟨_, g2⟩, g3, g4, ⟨?_, h5.2.1, fun k q hq => ?_⟩, ⟨?_, h6.2.1, fun k y hy => ?_⟩⟩, ?_⟩
  · show Md_pushed o.2 = _
    rw [e4]; exact h5.1
  · show (Md_pushedFeatures o.2).2 k = _ ∧ (Md_pushedParts o.2).2 k = _
    rw [e2, e3]; exact h5.2.2 k q hq
  · show Md_touches o.2 = _
    rw [e6]; exact h6.1
  · show (Md_touched o.2).2 k = _
    rw [e5]; exact h6.2.2 k y hy
  · show 0 + 0 + 2 * LMd m ≤ 2 * ((Md_written o.2).1 + (Md_other o.2).1)
    rw [e7, e8]
    unfold LMd
    omega
theorem r_variable {n : Nat} (hn : 100000 ≤ n) {m : S_Md} {F : FS} {c : Nat} (hC : RM m F) (hF : FI F c) (hc : c < 512) : xoM (m_Md_variable n m) m (sp_make F 0 0) := r_plain hn hC hF hc (Or.inl rfl)
theorem r_number {n : Nat} (hn : 100000 ≤ n) {m : S_Md} {F : FS} {c : Nat} (hC : RM m F) (hF : FI F c) (hc : c < 512) {p : Int32} : xoM (m_Md_number n m p) m (sp_make F 1 p) := r_plain hn hC hF hc (Or.inr (Or.inl rfl))
theorem r_atom {n : Nat} (hn : 100000 ≤ n) {m : S_Md} {F : FS} {c : Nat} (hC : RM m F) (hF : FI F c) (hc : c < 512) {p : Int32} : xoM (m_Md_atom n m p) m (sp_atom F p) := by
  unfold m_Md_atom
  have e0 : (0 : Int32).toInt = 0 := by decide
  have e1 : (8192 : Int32).toInt = 8192 := by decide
  refine xo_if (fun h => ?_) (fun h => ?_)
  · rw [toInt_lt, e0] at h
    exact r_same hC (Or.inr ⟨fun q => by have := q.1; omega, rfl, rfl⟩)
  · rw [toInt_lt, e0] at h
    refine xo_if (fun h2 => ?_) (fun h2 => ?_)
    · rw [toInt_lt, e1] at h2
      refine xo_m (r_plain hn hC hF hc (k := 2) (v := p) (Or.inr (Or.inr rfl))) (fun o c g => ?_)
      obtain ⟨F', g1, g2, g3⟩ := g
      exact ⟨F', Or.inl ⟨⟨by omega, by omega⟩, g1⟩, g2, g3⟩
    · rw [toInt_lt, e1] at h2
      exact r_same hC (Or.inr ⟨fun q => by have := q.2; omega, rfl, rfl⟩)
theorem r_of {n : Nat} (hn : 100000 ≤ n) {m : S_Md} {F : FS} {c : Nat} (hC : RM m F) (hF : FI F c) (hc : c < 512) {k v : Int32} (hk : k = 3 ∨ k = 4) : xoM (xm_b (m_Md_makeOf n m k v) (fun o => xm_p (o.1, o.2))) m (sp_makeOf F k v) := by
  refine xo_b _ (r_makeOf hn hC hF hc hk) (fun o d g => ?_)
  obtain ⟨F', g1, g2, g3⟩ := g
  exact xo_p ⟨F', g1, g2, by show d + 0 + 2 * LMd m ≤ 2 * LMd o.2; omega⟩
theorem r_record {n : Nat} (hn : 100000 ≤ n) {m : S_Md} {F : FS} {c : Nat} (hC : RM m F) (hF : FI F c) (hc : c < 512) {p : Int32} : xoM (m_Md_record n m p) m (sp_record F p) := by
  unfold m_Md_record
  have e0 : (0 : Int32).toInt = 0 := by decide
  have e1 : (8192 : Int32).toInt = 8192 := by decide
  have h5 := hC.2.2.2.2.1
  refine xo_if (fun h => ?_) (fun h => ?_)
  · rw [toInt_lt, e0] at h
    exact r_same hC (Or.inr ⟨fun q => by have := q.1.1; omega, rfl, rfl⟩)
  · rw [toInt_lt, e0] at h
    refine xo_if (fun h2 => ?_) (fun h2 => ?_)
    · rw [toInt_le, e1] at h2
      exact r_same hC (Or.inr ⟨fun q => by have := q.1.2; omega, rfl, rfl⟩)
    · rw [toInt_le, e1] at h2
      refine xo_eq (f_pu F).length 0 h5.1 nI0 (by have := h5.2.1; omega) (by omega) (fun hl => ?_) (fun hl => ?_)
      · exact r_same hC (Or.inr ⟨fun q => q.2 (List.length_eq_zero_iff.mp hl), rfl, rfl⟩)
      · refine xo_m (r_of hn hC hF hc (k := 3) (v := p) (Or.inl rfl)) (fun o c g => ?_)
        obtain ⟨F', g1, g2, g3⟩ := g
        exact ⟨F', Or.inl ⟨⟨by omega, by omega⟩, fun q => hl (by rw [q]; rfl), g1⟩, g2, g3⟩
theorem r_thing {n : Nat} (hn : 100000 ≤ n) {m : S_Md} {F : FS} {c : Nat} (hC : RM m F) (hF : FI F c) (hc : c < 512) {p : Int32} : xoM (m_Md_thing n m p) m (sp_thing F p) := by
  unfold m_Md_thing
  have e0 : (0 : Int32).toInt = 0 := by decide
  refine xo_if (fun h => ?_) (fun h => ?_)
  · rw [toInt_le, e0] at h
    refine xo_m (r_of hn hC hF hc (k := 4) (v := p) (Or.inr rfl)) (fun o c g => ?_)
    obtain ⟨F', g1, g2, g3⟩ := g
    exact ⟨F', Or.inl ⟨h, g1⟩, g2, g3⟩
  · rw [toInt_le, e0] at h
    exact r_same hC (Or.inr ⟨h, rfl, rfl⟩)
/-- what a call may do to the state: one answer and one new state, and what is always kept -/
def spOk (F : FS) (c : Nat) (sp : Int32 → FS → Prop) : Prop := (∀ r r2 F1 F2, sp r F1 → sp r2 F2 → r = r2 ∧ F1 = F2) ∧ ∀ r F1, sp r F1 → FI F1 (c + 1)
theorem z_least_inj {z : AS} {x y : Nat} (h1 : z_least z x) (h2 : z_least z y) : x = y := by
  rcases Nat.lt_trichotomy x y with h | h | h
  · exact absurd (h2.2 x h) h1.1
  · exact h
  · exact absurd (h1.2 y h) h2.1
theorem FI_up {F : FS} {c : Nat} (h : FI F c) (hc : c < 512) : FI F (c + 1) := by
  obtain ⟨h1, h2, h3, h4, h5, h6⟩ := h
  exact ⟨h1, h2, h3, h4, ⟨by omega, by omega, by omega, by omega⟩, h6⟩
theorem FI_make {F : FS} {c : Nat} (h : FI F c) (hc : c < 512) {k v : Int32} (hk : k = 0 ∨ k = 1 ∨ k = 2) (hv : k = 0 → v = 0) {r : Int32} {F' : FS} (hs : sp_make F k v r F') : FI F' (c + 1) := by
  obtain ⟨x, hx, -, rfl⟩ := hs
  obtain ⟨h1, h2, h3, h4, h5, h6, h7, h8⟩ := h
  have hk5 : k = 0 ∨ k = 1 ∨ k = 2 ∨ k = 3 ∨ k = 4 := by rcases hk with rfl | rfl | rfl <;> simp
  have hk1 : k ≠ -1 := by rcases hk with rfl | rfl | rfl <;> decide
  have hxt := z_least_le h1 hx
  have hs := a_sum_add (k := k) (v := v) (f := []) h1 hx
  refine ⟨z_add_wf h1 hx hk5 (fun _ => rfl) List.nodup_nil (fun q hq => absurd hq List.not_mem_nil) hv, fun q hq => ⟨(h2 q hq).1, (z_add_al hk1 _).mpr (Or.inr (h2 q hq).2)⟩, h3, h4, ⟨?_, ?_, by show (f_to F).length ≤ c + 1; omega, by omega⟩, fun i hi => absurd hi (by simp), fun i j hi => absurd hi (by simp), fun i q hi => absurd hi (by simp)⟩
  · show max (a_t (f_z F)) (x + 1) ≤ c + 1
    omega
  · show a_sum (z_add (f_z F) x k v []) + (f_pu F).length ≤ c + 1
    rw [hs]
    show a_sum (f_z F) + 0 + (f_pu F).length ≤ c + 1
    omega
theorem FI_makeOf {F : FS} {c : Nat} (h : FI F c) (hc : c < 512) {k v : Int32} (hk : k = 3 ∨ k = 4) {r : Int32} {F' : FS} (hs : sp_makeOf F k v r F') : FI F' (c + 1) := by
  obtain ⟨x, hx, -, rfl⟩ := hs
  obtain ⟨h1, h2, h3, h4, h5, h6, h7, h8⟩ := h
  have hk5 : k = 0 ∨ k = 1 ∨ k = 2 ∨ k = 3 ∨ k = 4 := by rcases hk with rfl | rfl <;> simp
  have hk1 : k ≠ -1 := by rcases hk with rfl | rfl <;> decide
  have hxt := z_least_le h1 hx
  have hs := a_sum_add (k := k) (v := v) (f := f_pu F) h1 hx
  refine ⟨z_add_wf h1 hx hk5 (fun q => ?_) h3 (fun q hq => (h2 q hq).2) (fun q => ?_), fun q hq => absurd hq List.not_mem_nil, List.nodup_nil, Nat.zero_le _, ⟨?_, ?_, by show (f_to F).length ≤ c + 1; omega, by omega⟩, fun i hi => absurd hi (by simp), fun i j hi => absurd hi (by simp), fun i q hi => absurd hi (by simp)⟩
  · rcases hk with rfl | rfl <;> exact absurd q (by decide)
  · rcases hk with rfl | rfl <;> exact absurd q (by decide)
  · show max (a_t (f_z F)) (x + 1) ≤ c + 1
    omega
  · show a_sum (z_add (f_z F) x k v (f_pu F)) + 0 ≤ c + 1
    rw [hs]
    omega
theorem ok_make {F : FS} {c : Nat} (h : FI F c) (hc : c < 512) {k v : Int32} (hk : k = 0 ∨ k = 1 ∨ k = 2) (hv : k = 0 → v = 0) : spOk F c (sp_make F k v) := by
  refine ⟨fun r r2 F1 F2 g1 g2 => ?_, fun r F1 g => FI_make h hc hk hv g⟩
  obtain ⟨x, hx, rfl, rfl⟩ := g1
  obtain ⟨y, hy, rfl, rfl⟩ := g2
  have := z_least_inj hx hy
  subst this
  exact ⟨rfl, rfl⟩
theorem ok_makeOf {F : FS} {c : Nat} (h : FI F c) (hc : c < 512) {k v : Int32} (hk : k = 3 ∨ k = 4) : spOk F c (sp_makeOf F k v) := by
  refine ⟨fun r r2 F1 F2 g1 g2 => ?_, fun r F1 g => FI_makeOf h hc hk g⟩
  obtain ⟨x, hx, rfl, rfl⟩ := g1
  obtain ⟨y, hy, rfl, rfl⟩ := g2
  have := z_least_inj hx hy
  subst this
  exact ⟨rfl, rfl⟩
theorem ok_same {F : FS} {c : Nat} (h : FI F c) (hc : c < 512) {a : Int32} : spOk F c (sp_same F a) := by
  refine ⟨fun r r2 F1 F2 g1 g2 => ?_, fun r F1 g => ?_⟩
  · exact ⟨g1.1.trans g2.1.symm, g1.2.trans g2.2.symm⟩
  · rw [g.2]; exact FI_up h hc
theorem ok_or {F : FS} {c : Nat} {A : Prop} {s1 s2 : Int32 → FS → Prop} (h1 : spOk F c s1) (h2 : spOk F c s2) : spOk F c (fun r F' => (A ∧ s1 r F') ∨ (¬ A ∧ s2 r F')) := by
  refine ⟨fun r r2 F1 F2 g1 g2 => ?_, fun r F1 g => ?_⟩
  · rcases g1 with ⟨a, g1⟩ | ⟨a, g1⟩ <;> rcases g2 with ⟨b, g2⟩ | ⟨b, g2⟩
    · exact h1.1 _ _ _ _ g1 g2
    · exact absurd a b
    · exact absurd b a
    · exact h2.1 _ _ _ _ g1 g2
  · rcases g with ⟨-, g⟩ | ⟨-, g⟩
    · exact h1.2 _ _ g
    · exact h2.2 _ _ g
theorem ok_iff {F : FS} {c : Nat} {s1 s2 : Int32 → FS → Prop} (h : spOk F c s1) (e : ∀ r F', s2 r F' → s1 r F') : spOk F c s2 := ⟨fun r r2 F1 F2 g1 g2 => h.1 _ _ _ _ (e _ _ g1) (e _ _ g2), fun r F1 g => h.2 _ _ (e _ _ g)⟩
theorem ok_atom {F : FS} {c : Nat} (h : FI F c) (hc : c < 512) {p : Int32} : spOk F c (sp_atom F p) := ok_or (ok_make h hc (Or.inr (Or.inr rfl)) (fun q => absurd q (by decide))) (ok_same h hc)
theorem ok_record {F : FS} {c : Nat} (h : FI F c) (hc : c < 512) {p : Int32} : spOk F c (sp_record F p) := ok_iff (ok_or (A := a_atom p ∧ f_pu F ≠ []) (ok_makeOf h hc (k := 3) (v := p) (Or.inl rfl)) (ok_same h hc (a := -1))) (fun r F' g => by
  rcases g with ⟨g1, g2, g3⟩ | g
  · exact Or.inl ⟨⟨g1, g2⟩, g3⟩
  · exact Or.inr g)
theorem ok_thing {F : FS} {c : Nat} (h : FI F c) (hc : c < 512) {p : Int32} : spOk F c (sp_thing F p) := ok_or (ok_makeOf h hc (Or.inr rfl)) (ok_same h hc)
theorem ok_push {F : FS} {c : Nat} (h : FI F c) (hc : c < 512) {f p : Int32} : spOk F c (sp_push F f p) := by
  have hb := h.2.2.2.2.1
  refine ⟨fun r r2 F1 F2 g1 g2 => ?_, fun r F1 g => ?_⟩
  · rcases g1 with ⟨j, a1, a2, a3, g1⟩ | ⟨a, g1⟩ <;> rcases g2 with ⟨i, b1, b2, b3, g2⟩ | ⟨b, g2⟩
    · have := a_is_inj h.1 (by omega) a1 b1
      subst this
      rcases g1 with ⟨l1, g1⟩ | ⟨l1, g1, g1'⟩ <;> rcases g2 with ⟨l2, g2⟩ | ⟨l2, g2, g2'⟩
      · exact ⟨g1.1.trans g2.1.symm, g1.2.trans g2.2.symm⟩
      · omega
      · omega
      · exact ⟨g1.trans g2.symm, g1'.trans g2'.symm⟩
    · exact absurd ⟨⟨j, a1⟩, a2, a3⟩ b
    · exact absurd ⟨⟨i, b1⟩, b2, b3⟩ a
    · exact ⟨g1.1.trans g2.1.symm, g1.2.trans g2.2.symm⟩
  · rcases g with ⟨j, a1, a2, a3, g⟩ | ⟨-, g⟩
    · rcases g with ⟨-, g⟩ | ⟨l, -, rfl⟩
      · rw [g.2]; exact FI_up h hc
      · obtain ⟨h1, h2, h3, h4, h5, h6⟩ := h
        refine ⟨h1, fun q hq => ?_, p_ins_nodup h3 a3, ?_, ⟨by show a_t (f_z F) ≤ c + 1; omega, ?_, by show (f_to F).length ≤ c + 1; omega, by omega⟩, h6⟩
        · rcases p_ins_mem.mp hq with rfl | hq
          · exact ⟨a2, a1.2⟩
          · exact h2 q hq
        · show (p_ins _ _ _).length ≤ 255
          rw [p_ins_len (p_at_le _ _ _)]
          omega
        · show a_sum (f_z F) + (p_ins _ _ _).length ≤ c + 1
          rw [p_ins_len (p_at_le _ _ _)]
          omega
    · rw [g.2]; exact FI_up h hc
