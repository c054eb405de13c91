/-! THE WHOLE STATE: the store, what is needed, marks, pushed fields, touched leaders -/
abbrev FS : Type := AS × (Nat → Prop) × (Nat → Bool) × List (Int32 × Nat) × List Nat
abbrev f_z (F : FS) : AS := F.1
abbrev f_nd (F : FS) : Nat → Prop := F.2.1
abbrev f_mk (F : FS) : Nat → Bool := F.2.2.1
abbrev f_pu (F : FS) : List (Int32 × Nat) := F.2.2.2.1
abbrev f_to (F : FS) : List Nat := F.2.2.2.2
/-- what it always keeps to, behind c calls -/
def FI (F : FS) (c : Nat) : Prop :=
  a_wf (f_z F) ∧ (∀ q ∈ f_pu F, a_feat q.1 ∧ al (f_z F) q.2) ∧ ((f_pu F).map Prod.fst).Nodup ∧ (f_pu F).length ≤ 255 ∧
  (a_t (f_z F) ≤ c ∧ a_sum (f_z F) + (f_pu F).length ≤ c ∧ (f_to F).length ≤ c ∧ c ≤ 512) ∧
  (∀ i, f_mk F i = true → al (f_z F) i) ∧ (∀ i j, f_mk F i = true → al (f_z F) j → a_ld (f_z F) j = a_ld (f_z F) i → f_mk F j = true) ∧ (∀ i q, f_mk F i = true → q ∈ a_fl (f_z F) i → f_mk F q.2 = true)
def CW (s : S_Ld) (to : List Nat) : Prop := ArOk (Ld_row s) to.length ∧ Ld_size s = nI to.length ∧ to.length ≤ 512 ∧ ∀ k x, to[k]? = some x → (Ld_row s).2 k = nI x
def CTr (s : S_Tr) : Prop := ArOk (Pr_lefts (Tr_pairs s)) 0 ∧ ArOk (Pr_rights (Tr_pairs s)) 0 ∧ ArOk (Ld_row (Tr_bound s)) 0 ∧ ArOk (Tr_up s) 0 ∧ ArOk (Tr_bodies s) 0 ∧ ArOk (Tr_hit s) 0
def CLk (s : S_Lk) : Prop := ArOk (Pr_lefts (Lk_pairs s)) 0 ∧ ArOk (Pr_rights (Lk_pairs s)) 0 ∧ ArOk (Lk_up s) 0 ∧ ArOk (Lk_given s) 0
def LTr (s : S_Tr) : Nat := (Pr_lefts (Tr_pairs s)).1 + (Pr_rights (Tr_pairs s)).1 + (Ld_row (Tr_bound s)).1 + (Tr_up s).1 + (Tr_bodies s).1 + (Tr_hit s).1
def LLk (s : S_Lk) : Nat := (Pr_lefts (Lk_pairs s)).1 + (Pr_rights (Lk_pairs s)).1 + (Lk_up s).1 + (Lk_given s).1
def LTs (s : S_Ts) : Nat := LNo (Ts_nodes s) + LPu (Ts_pushed s) + LTr (Ts_trial s) + LLk (Ts_likeness s) + (Ld_row (Ts_touchedLeaders s)).1
/-- the class's object holds the state F -/
def CT (s : S_Ts) (F : FS) : Prop :=
  (∃ st bd lw, CN (Ts_nodes s) (f_z F) st bd (a_sum (f_z F)) lw) ∧ CM (Ts_nodes s) (a_t (f_z F)) (f_mk F) (a_ld (f_z F)) ∧ CD (Ts_nodes s) (f_z F) (f_nd F) ∧ CP (Ts_pushed s) (f_pu F) ∧ CW (Ts_touchedLeaders s) (f_to F) ∧ CTr (Ts_trial s) ∧ CLk (Ts_likeness s)
/-- a class's call: its answer and its new state are as sp says, its rows grow by what it makes -/
def xoC (x : MO (Int32 × S_Ts)) (s : S_Ts) (sp : Int32 → FS → Prop) : Prop := xo x (fun o c => ∃ F', sp o.1 F' ∧ CT o.2 F' ∧ c + 2 * LTs s ≤ 2 * LTs o.2)
def sp_make (F : FS) (k v : Int32) (r : Int32) (F' : FS) : Prop := ∃ x, z_least (f_z F) x ∧ r = nI x ∧ F' = (z_add (f_z F) x k v [], fun i => i ≠ x ∧ f_nd F i, fun _ => false, f_pu F, f_to F)
def sp_makeOf (F : FS) (k v : Int32) (r : Int32) (F' : FS) : Prop := ∃ x, z_least (f_z F) x ∧ r = nI x ∧ F' = (z_add (f_z F) x k v (f_pu F), fun i => i ≠ x ∧ f_nd F i, fun _ => false, [], f_to F)
def sp_same (F : FS) (a : Int32) (r : Int32) (F' : FS) : Prop := r = a ∧ F' = F
theorem o_make {n : Nat} (hn : 100000 ≤ n) {s : S_Ts} {F : FS} {c : Nat} (hC : CT s F) (hF : FI F c) (hc : c < 512) {k v : Int32} (hk : k = 0 ∨ k = 1 ∨ k = 2) : xoC (xm_b (m_No_addPlain n (Ts_nodes s) k v) (fun o => xm_p (o.1, (o.2, Ts_pushed s, Ts_trial s, Ts_likeness s, Ts_touchedLeaders s)))) s (sp_make F k v) := by
  obtain ⟨⟨st, bd, lw, h1⟩, h2, h3, h4, h5, h6, h7⟩ := hC
  have hk5 : k = 0 ∨ k = 1 ∨ k = 2 ∨ k = 3 ∨ k = 4 := by rcases hk with rfl | rfl | rfl <;> simp
  refine xo_b _ (o_addPlain hn h1 h2 h3 hF.1 (by have := hF.2.2.2.2.1.1; omega) hk5) (fun a c1 g => ?_)
  obtain ⟨x, g1, g2, g3, g4, g5, g6⟩ := g
  have e : a_sum (z_add (f_z F) x k v []) = a_sum (f_z F) := a_sum_add (k := k) (v := v) (f := []) hF.1 g1
  rw [← e] at g3
  refine xo_p ⟨_, ⟨x, g1, g2, rfl⟩, ⟨⟨_, _, _, g3⟩, g4, g5, h4, h5, h6, h7⟩, ?_⟩
  · show c1 + 0 + 2 * LTs s ≤ 2 * (LNo a.2 + LPu (Ts_pushed s) + LTr (Ts_trial s) + LLk (Ts_likeness s) + (Ld_row (Ts_touchedLeaders s)).1)
    unfold LTs
    omega
theorem c_variable {n : Nat} (hn : 100000 ≤ n) {s : S_Ts} {F : FS} {c : Nat} (hC : CT s F) (hF : FI F c) (hc : c < 512) : xoC (m_Ts_variable n s) s (sp_make F 0 0) := o_make hn hC hF hc (Or.inl rfl)
theorem c_number {n : Nat} (hn : 100000 ≤ n) {s : S_Ts} {F : FS} {c : Nat} (hC : CT s F) (hF : FI F c) (hc : c < 512) {p : Int32} : xoC (m_Ts_number n s p) s (sp_make F 1 p) := o_make hn hC hF hc (Or.inr (Or.inl rfl))
def a_atom (p : Int32) : Prop := 0 ≤ p.toInt ∧ p.toInt ≤ 8191
def sp_atom (F : FS) (p r : Int32) (F' : FS) : Prop := (a_atom p ∧ sp_make F 2 p r F') ∨ (¬ a_atom p ∧ sp_same F (-1) r F')
theorem o_isAtom {n : Nat} (p : Int32) : (a_atom p ∧ m_Ts_isAtom n p = xm_p 1) ∨ (¬ a_atom p ∧ m_Ts_isAtom n p = xm_p 0) := by
  unfold m_Ts_isAtom a_atom
  have e0 : (0 : Int32).toInt = 0 := by decide
  have e1 : (8191 : Int32).toInt = 8191 := by decide
  by_cases h0 : p < 0
  · rw [if_pos h0]
    rw [toInt_lt, e0] at h0
    exact Or.inr ⟨fun q => by omega, rfl⟩
  · rw [if_neg h0]
    rw [toInt_lt, e0] at h0
    by_cases h1 : (8191 : Int32) < p
    · rw [if_pos h1]
      rw [toInt_lt, e1] at h1
      exact Or.inr ⟨fun q => by omega, rfl⟩
    · rw [if_neg h1]
      rw [toInt_lt, e1] at h1
      exact Or.inl ⟨by omega, rfl⟩
/-- nothing changes -/
theorem o_same {s : S_Ts} {F : FS} {a : Int32} (hC : CT s F) {sp : Int32 → FS → Prop} (h : sp a F) : xoC (xm_p (a, s)) s sp := xo_p ⟨F, h, hC, by show 0 + 2 * LTs s ≤ 2 * LTs s; omega⟩
theorem c_atom {n : Nat} (hn : 100000 ≤ n) {s : S_Ts} {F : FS} {c : Nat} (hC : CT s F) (hF : FI F c) (hc : c < 512) {p : Int32} : xoC (m_Ts_atom n s p) s (sp_atom F p) := by
  unfold m_Ts_atom
  rcases o_isAtom (n := n) p with ⟨h, e⟩ | ⟨h, e⟩
  · rw [e, xm_b_p, if_neg (by decide)]
    refine xo_m (o_make hn hC hF hc (k := 2) (v := p) (Or.inr (Or.inr rfl))) (fun o c g => ?_)
    obtain ⟨F', g1, g2, g3⟩ := g
    exact ⟨F', Or.inl ⟨h, g1⟩, g2, g3⟩
  · rw [e, xm_b_p, if_pos rfl]
    exact o_same hC (Or.inr ⟨h, rfl, rfl⟩)
theorem xm_rd_eq {β : Type} {a : Ar} {j : Nat} {f : Int32 → MO β} (hj : j < a.1) (hb : j < 2 ^ 31) : xm_rd a (nI j) f = f (a.2 j) := by
  unfold xm_rd
  rw [nI_clamp hb, if_neg (fun q => q.elim (fun q => nI_pos hb q) (fun q => absurd hj (Nat.not_lt.mpr q)))]
/-- an argument names a node -/
def a_is (z : AS) (p : Int32) (j : Nat) : Prop := p = nI j ∧ al z j
theorem a_is_inj {z : AS} (hw : a_wf z) (ht : a_t z ≤ 512) {p : Int32} {i j : Nat} (h1 : a_is z p i) (h2 : a_is z p j) : i = j := by
  have l1 := al_lt hw h1.2
  have l2 := al_lt hw h2.2
  exact (nI_eq (by omega) (by omega)).mp (h1.1.symm.trans h2.1)
theorem o_has {n : Nat} {s : S_No} {z : AS} {st bd : Nat → Nat} {u lw : Nat} (hC : CN s z st bd u lw) (hw : a_wf z) (p : Int32) : (∃ j, a_is z p j ∧ m_No_has n s p = xm_p 1) ∨ ((∀ j, ¬ a_is z p j) ∧ m_No_has n s p = xm_p 0) := by
  obtain ⟨⟨k1, -⟩, -, ⟨hT, -⟩, hk, -, -, -, -, -, -, -, -, -, -, ht, -⟩ := hC
  unfold m_No_has
  rcases pk_ix p (n := a_t z) (by omega) with h | h | ⟨j, hj, rfl⟩
  · rw [if_pos h]
    exact Or.inr ⟨fun j q => nI_pos (n := j) (by have := al_lt hw q.2; omega) (q.1 ▸ h), rfl⟩
  · have h0 : ¬ p < 0 := fun q => by
      rw [toInt_lt] at q
      rw [toInt_le, nI_toInt (by omega)] at h
      simp at q
      omega
    rw [if_neg h0, hT, if_pos h]
    refine Or.inr ⟨fun j q => ?_, rfl⟩
    have l := al_lt hw q.2
    rw [q.1] at h
    have := (nI_leI (by omega) (by omega)).mp h
    omega
  · have hl := k1.2.2
    rw [if_neg (nI_pos (by omega)), hT, if_neg (fun q => by have := (nI_leI (by omega) (by omega)).mp q; omega)]
    rw [xm_rd_eq (by omega) (by omega), hk j hj]
    by_cases e : a_kd z j = -1
    · rw [if_pos e]
      refine Or.inr ⟨fun i q => ?_, rfl⟩
      have l := al_lt hw q.2
      have := (nI_eq (by omega) (by omega)).mp q.1
      subst this
      exact q.2 e
    · rw [if_neg e]
      exact Or.inl ⟨j, ⟨rfl, e⟩, rfl⟩
theorem o_isFeature {n : Nat} (f : Int32) : (a_feat f ∧ m_Ts_isFeature n f = xm_p 1) ∨ (¬ a_feat f ∧ m_Ts_isFeature n f = xm_p 0) := by
  unfold m_Ts_isFeature a_feat
  have e0 : (0 : Int32).toInt = 0 := by decide
  have e1 : (9999 : Int32).toInt = 9999 := by decide
  have e2 : (-8192 : Int32).toInt = -8192 := by decide
  by_cases h0 : f ≤ 0
  · rw [if_pos h0]
    rw [toInt_le, e0] at h0
    by_cases h1 : 0 ≤ f
    · rw [if_pos h1]
      rw [toInt_le, e0] at h1
      exact Or.inr ⟨fun q => by omega, rfl⟩
    · rw [if_neg h1]
      rw [toInt_le, e0] at h1
      by_cases h2 : f < (-8192 : Int32)
      · rw [if_pos h2]
        rw [toInt_lt, e2] at h2
        exact Or.inr ⟨fun q => by omega, rfl⟩
      · rw [if_neg h2]
        rw [toInt_lt, e2] at h2
        exact Or.inl ⟨by omega, rfl⟩
  · rw [if_neg h0]
    rw [toInt_le, e0] at h0
    by_cases h1 : (9999 : Int32) < f
    · rw [if_pos h1]
      rw [toInt_lt, e1] at h1
      exact Or.inr ⟨fun q => by omega, rfl⟩
    · rw [if_neg h1]
      rw [toInt_lt, e1] at h1
      exact Or.inl ⟨by omega, rfl⟩
def sp_push (F : FS) (f p r : Int32) (F' : FS) : Prop :=
  (∃ j, a_is (f_z F) p j ∧ a_feat f ∧ f ∉ (f_pu F).map Prod.fst ∧ ((255 ≤ (f_pu F).length ∧ sp_same F (-2) r F') ∨ ((f_pu F).length < 255 ∧ r = nI ((f_pu F).length + 1) ∧ F' = (f_z F, f_nd F, f_mk F, p_ins (f_pu F) (p_at (f_pu F) f (f_pu F).length) (f, j), f_to F)))) ∨
  (¬ ((∃ j, a_is (f_z F) p j) ∧ a_feat f ∧ f ∉ (f_pu F).map Prod.fst) ∧ sp_same F (-1) r F')
theorem c_push {n : Nat} (hn : 100000 ≤ n) {s : S_Ts} {F : FS} {c : Nat} (hC : CT s F) (hF : FI F c) {f p : Int32} : xoC (m_Ts_push n s f p) s (sp_push F f p) := by
  have hC0 := hC
  obtain ⟨⟨st, bd, lw, h1⟩, h2, h3, h4, h5, h6, h7⟩ := hC
  unfold m_Ts_push
  rcases o_has (n := n) h1 hF.1 p with ⟨j, hj, e⟩ | ⟨hj, e⟩
  · rw [e, xm_b_p, if_neg (by decide)]
    rcases o_isFeature (n := n) f with ⟨hf, e2⟩ | ⟨hf, e2⟩
    · rw [e2, xm_b_p, if_neg (by decide)]
      refine xo_b _ (o_holds hn h4) (fun a c1 g => ?_)
      obtain ⟨rfl, g⟩ := g
      rcases g with ⟨rfl, g⟩ | ⟨rfl, g⟩
      · rw [if_pos rfl]
        refine xo_lt _ 255 h4.2.2.1 (by decide +kernel) (by have := h4.2.2.2.1; omega) (by omega) (fun hl => ?_) (fun hl => ?_)
        · rw [hj.1]
          refine xo_b _ (o_insert hn h4 hf (fun q hq => (hF.2.1 q hq).1) hl) (fun a2 c2 g2 => ?_)
          obtain ⟨g2, g3⟩ := g2
          refine xo_p ⟨_, Or.inl ⟨j, ⟨rfl, hj.2⟩, hf, g, Or.inr ⟨hl, ?_, rfl⟩⟩, ⟨⟨st, bd, lw, h1⟩, h2, h3, g2, h5, h6, h7⟩, ?_⟩
          · show Pu_size a2 = _
            rw [g2.2.2.1, p_ins_len (p_at_le _ _ _)]
          · show 0 + (c2 + 0) + 2 * LTs s ≤ 2 * (LNo (Ts_nodes s) + LPu a2 + LTr (Ts_trial s) + LLk (Ts_likeness s) + (Ld_row (Ts_touchedLeaders s)).1)
            unfold LTs
            omega
        · exact xo_p ⟨F, Or.inl ⟨j, hj, hf, g, Or.inl ⟨hl, rfl, rfl⟩⟩, hC0, by show 0 + 0 + 2 * LTs s ≤ 2 * LTs s; omega⟩
      · rw [if_neg (by decide)]
        exact xo_p ⟨F, Or.inr ⟨fun q => q.2.2 g, rfl, rfl⟩, hC0, by show 0 + 0 + 2 * LTs s ≤ 2 * LTs s; omega⟩
    · rw [e2, xm_b_p, if_pos rfl]
      exact o_same hC0 (Or.inr ⟨fun q => hf q.2.1, rfl, rfl⟩)
  · rw [e, xm_b_p, if_pos rfl]
    exact o_same hC0 (Or.inr ⟨fun q => q.1.elim hj, rfl, rfl⟩)
theorem o_makeOf {n : Nat} (hn : 100000 ≤ n) {s : S_Ts} {F : FS} {c : Nat} (hC : CT s F) (hF : FI F c) (hc : c < 512) {k v : Int32} (hk : k = 3 ∨ k = 4) : xoC (xm_b (m_No_addWithFields n (Ts_nodes s) (Ts_pushed s) k v) (fun o => xm_p (o.1, (o.2.1, o.2.2, Ts_trial s, Ts_likeness s, Ts_touchedLeaders s)))) s (sp_makeOf F k v) := by
  obtain ⟨⟨st, bd, lw, h1⟩, h2, h3, h4, h5, h6, h7⟩ := hC
  have hb := hF.2.2.2.2.1
  refine xo_b _ (o_addWith hn h1 h2 h3 h4 hF.1 (by omega) (by omega) hk) (fun a c1 g => ?_)
  obtain ⟨x, st', g1, g2, g3, g4, g5, g6, g7⟩ := g
  rw [← a_sum_add (k := k) (v := v) (f := f_pu F) hF.1 g1] at g3
  refine xo_p ⟨_, ⟨x, g1, g2, rfl⟩, ⟨⟨_, _, _, g3⟩, g4, g5, g6, h5, h6, h7⟩, ?_⟩
  · show c1 + 0 + 2 * LTs s ≤ 2 * (LNo a.2.1 + LPu a.2.2 + LTr (Ts_trial s) + LLk (Ts_likeness s) + (Ld_row (Ts_touchedLeaders s)).1)
    unfold LTs
    omega
def sp_record (F : FS) (p r : Int32) (F' : FS) : Prop := (a_atom p ∧ f_pu F ≠ [] ∧ sp_makeOf F 3 p r F') ∨ (¬ (a_atom p ∧ f_pu F ≠ []) ∧ sp_same F (-1) r F')
def sp_thing (F : FS) (p r : Int32) (F' : FS) : Prop := (0 ≤ p.toInt ∧ sp_makeOf F 4 p r F') ∨ (¬ 0 ≤ p.toInt ∧ sp_same F (-1) r F')
theorem c_record {n : Nat} (hn : 100000 ≤ n) {s : S_Ts} {F : FS} {c : Nat} (hC : CT s F) (hF : FI F c) (hc : c < 512) {p : Int32} : xoC (m_Ts_record n s p) s (sp_record F p) := by
  unfold m_Ts_record
  have h4 := hC.2.2.2.1
  rcases o_isAtom (n := n) p with ⟨h, e⟩ | ⟨h, e⟩
  · rw [e, xm_b_p, if_neg (by decide)]
    refine xo_eq (f_pu F).length 0 h4.2.2.1 nI0 (by have := h4.2.2.2.1; omega) (by omega) (fun hl => ?_) (fun hl => ?_)
    · exact o_same hC (Or.inr ⟨fun q => q.2 (List.length_eq_zero_iff.mp hl), rfl, rfl⟩)
    · refine xo_m (o_makeOf hn hC hF hc (k := 3) (v := p) (Or.inl rfl)) (fun o c g => ?_)
      obtain ⟨F', g1, g2, g3⟩ := g
      exact ⟨F', Or.inl ⟨h, fun q => hl (by rw [q]; rfl), g1⟩, g2, g3⟩
  · rw [e, xm_b_p, if_pos rfl]
    exact o_same hC (Or.inr ⟨fun q => h q.1, rfl, rfl⟩)
theorem c_thing {n : Nat} (hn : 100000 ≤ n) {s : S_Ts} {F : FS} {c : Nat} (hC : CT s F) (hF : FI F c) (hc : c < 512) {p : Int32} : xoC (m_Ts_thing n s p) s (sp_thing F p) := by
  unfold m_Ts_thing
  have e0 : (0 : Int32).toInt = 0 := by decide
  refine xo_if (fun h => ?_) (fun h => ?_)
  · rw [toInt_le, e0] at h
    refine xo_m (o_makeOf hn hC hF hc (k := 4) (v := p) (Or.inr rfl)) (fun o c g => ?_)
    obtain ⟨F', g1, g2, g3⟩ := g
    exact ⟨F', Or.inl ⟨h, g1⟩, g2, g3⟩
  · rw [toInt_le, e0] at h
    exact o_same hC (Or.inr ⟨h, rfl, rfl⟩)
