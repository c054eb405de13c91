/-! what a node is: by any body of its class -/
def a_bd (z : AS) (x b : Nat) : Prop := al z b ∧ a_ld z b = a_ld z x ∧ (a_kd z b = 0 → a_var z (a_ld z x))
theorem a_bd_eq {z : AS} (hw : a_wf z) {x b c : Nat} (h1 : a_bd z x b) (h2 : a_bd z x c) : a_kd z b = a_kd z c ∧ a_vl z b = a_vl z c ∧ (a_fl z b).map Prod.fst = (a_fl z c).map Prod.fst ∧ (a_fl z b).map (fun q => a_ld z q.2) = (a_fl z c).map (fun q => a_ld z q.2) ∧ (a_kd z b = 4 → b = c) := by
  by_cases e : a_kd z b = 0
  · have hv := h1.2.2 e
    have e2 := hv c h2.1 h2.2.1
    have f1 := (hw.2.2.2.2.1 b h1.1).1 (Or.inl e)
    have f2 := (hw.2.2.2.2.1 c h2.1).1 (Or.inl e2)
    refine ⟨e.trans e2.symm, (hw.2.2.2.2.2.1 b h1.1 e).trans (hw.2.2.2.2.2.1 c h2.1 e2).symm, by rw [f1, f2], by rw [f1, f2], fun q => ?_⟩
    rw [e] at q
    exact absurd q (by decide)
  · have e2 : a_kd z c ≠ 0 := fun q => e (h2.2.2 q b h1.1 h1.2.1)
    obtain ⟨⟨g1, g2, g3, g4⟩, g5⟩ := hw.2.2.2.2.2.2.1 b c h1.1 h2.1 e e2 (h1.2.1.trans h2.2.1.symm)
    exact ⟨g1, g2, g3, g5, g4⟩
theorem a_bd_ld {z : AS} (hw : a_wf z) {x b : Nat} (hx : al z x) : a_bd z (a_ld z x) b ↔ a_bd z x b := by
  unfold a_bd
  rw [(hw.2.2.1 x hx).2.2]
theorem a_fl_len {z : AS} (hw : a_wf z) {x b c : Nat} (h1 : a_bd z x b) (h2 : a_bd z x c) : (a_fl z b).length = (a_fl z c).length := by
  have := congrArg List.length (a_bd_eq hw h1 h2).2.2.1
  rwa [List.length_map, List.length_map] at this
theorem a_fl_at {z : AS} (hw : a_wf z) {x b c k : Nat} (h1 : a_bd z x b) (h2 : a_bd z x c) {q : Int32 × Nat} (hq : (a_fl z b)[k]? = some q) : ∃ q2, (a_fl z c)[k]? = some q2 ∧ q2.1 = q.1 ∧ a_ld z q2.2 = a_ld z q.2 := by
  obtain ⟨-, -, g1, g2, -⟩ := a_bd_eq hw h1 h2
  have hl := a_fl_len hw h1 h2
  have hk := (List.getElem?_eq_some_iff.mp hq).1
  have e : (a_fl z c)[k]? = some (a_fl z c)[k] := List.getElem?_eq_getElem (by omega)
  refine ⟨_, e, ?_, ?_⟩
  · have := congrArg (fun l => l[k]?) g1
    simp only [List.getElem?_map, hq, e, Option.map_some] at this
    exact (Option.some.inj this).symm
  · have := congrArg (fun l => l[k]?) g2
    simp only [List.getElem?_map, hq, e, Option.map_some] at this
    exact (Option.some.inj this).symm
/-- a node is needed -/
def a_nd (z : AS) (nd : Nat → Prop) (x : Nat) : Prop := ¬ a_var z (a_ld z x) ∨ nd (a_ld z x)
theorem a_var_bd {z : AS} {x b : Nat} (h : a_bd z x b) : a_var z (a_ld z x) ↔ a_kd z b = 0 := ⟨fun q => q b h.1 h.2.1, h.2.2⟩
section CLS
variable {n : Nat} {s : S_No} {z : AS} {st bd : Nat → Nat} {u lw : Nat}
theorem o_bd (hC : CN s z st bd u lw) (hw : a_wf z) {x : Nat} (hx : al z x) : (No_lead s).2 x = nI (a_ld z x) ∧ (No_bodies s).2 (a_ld z x) = nI (bd (a_ld z x)) ∧ a_bd z x (bd (a_ld z x)) ∧ a_ld z x < a_t z ∧ bd (a_ld z x) < a_t z ∧ x < a_t z ∧ a_t z ≤ 512 ∧ a_t z ≤ (No_lead s).1 ∧ a_t z ≤ (No_bodies s).1 ∧ a_t z ≤ (No_kinds s).1 ∧ a_t z ≤ (No_values s).1 ∧ a_t z ≤ (No_sizes s).1 ∧ a_t z ≤ (No_starts s).1 ∧ a_t z ≤ (No_needed s).1 := by
  obtain ⟨⟨k1, k2, k3, k4, k5, k6, k7, k8⟩, -, -, -, -, -, -, c5, c6, c7, -, -, -, -, c12⟩ := hC
  have h1 := hw.2.2.1 x hx
  have hl := al_lt hw h1.2.1
  obtain ⟨q1, q2, q3⟩ := c7 _ h1.2.1 h1.2.2
  exact ⟨c5 x (al_lt hw hx), (c6 _ hl).1, ⟨q1, q2, q3⟩, hl, (c6 _ hl).2, al_lt hw hx, c12.1, k5.2.2, k6.2.2, k1.2.2, k2.2.2, k4.2.2, k3.2.2, k7.2.2⟩
theorem o_kindOf (hC : CN s z st bd u lw) (hw : a_wf z) {x : Nat} (hx : al z x) : ∃ b, a_bd z x b ∧ m_No_kindOf n s (nI x) = xm_p (a_kd z b) := by
  obtain ⟨e1, e2, e3, l1, l2, l3, l4, l5, l6, l7, l8, l9, l10, l11⟩ := o_bd hC hw hx
  refine ⟨_, e3, ?_⟩
  unfold m_No_kindOf
  rw [xm_rd_eq (by omega) (by omega), e1, xm_rd_eq (by omega) (by omega), e2, xm_rd_eq (by omega) (by omega), hC.2.2.2.1 _ l2]
theorem o_isNeeded {nd : Nat → Prop} (hC : CN s z st bd u lw) (hD : CD s z nd) (hw : a_wf z) {x : Nat} (hx : al z x) : (a_nd z nd x ∧ m_No_isNeeded n s (nI x) = xm_p 1) ∨ (¬ a_nd z nd x ∧ m_No_isNeeded n s (nI x) = xm_p 0) := by
  obtain ⟨e1, e2, e3, l1, l2, l3, l4, l5, l6, l7, l8, l9, l10, l11⟩ := o_bd hC hw hx
  obtain ⟨b, hb, ek⟩ := o_kindOf (n := n) hC hw hx
  have h1 := hw.2.2.1 x hx
  unfold m_No_isNeeded
  rw [ek, xm_b_p]
  by_cases e0 : a_kd z b = 0
  · have hv := (a_var_bd hb).mpr e0
    have hd := hD.1 _ h1.2.1 h1.2.2 hv
    rw [if_pos e0, xm_rd_eq (by omega) (by omega), e1, xm_rd_eq (by omega) (by omega)]
    by_cases e4 : (No_needed s).2 (a_ld z x) = 1
    · rw [if_pos e4]
      exact Or.inl ⟨Or.inr (hd.mp e4), rfl⟩
    · rw [if_neg e4]
      exact Or.inr ⟨fun q => q.elim (fun q => q hv) (fun q => e4 (hd.mpr q)), rfl⟩
  · rw [if_neg e0]
    exact Or.inl ⟨Or.inl (fun q => e0 ((a_var_bd hb).mp q)), rfl⟩
theorem o_place (hC : CN s z st bd u lw) (hw : a_wf z) {x : Nat} (hx : al z x) (p : Int32) : ∃ b, a_bd z x b ∧ ((p < 0 ∧ m_No_placeNumbered n s (nI x) p = xm_p (-1)) ∨ (∃ k, k < 2 ^ 31 ∧ p = nI k ∧ (((a_fl z b).length ≤ k ∧ m_No_placeNumbered n s (nI x) p = xm_p (-1)) ∨ (k < (a_fl z b).length ∧ m_No_placeNumbered n s (nI x) p = xm_p (nI (st b + k)))))) := by
  obtain ⟨e1, e2, e3, l1, l2, l3, l4, l5, l6, l7, l8, l9, l10, l11⟩ := o_bd hC hw hx
  refine ⟨_, e3, ?_⟩
  unfold m_No_placeNumbered
  rw [xm_rd_eq (by omega) (by omega), e1, xm_rd_eq (by omega) (by omega), e2]
  by_cases h0 : p < 0
  · rw [if_pos h0]
    exact Or.inl ⟨h0, rfl⟩
  · obtain ⟨k, hk, rfl⟩ := nI_of h0
    have h8 := hC.2.2.2.2.2.2.2.2.2.2.1 _ e3.1
    have hu := hC.2.2.2.2.2.2.2.2.2.2.2.2.2.2.2
    rw [if_neg h0, xm_rd_eq (by omega) (by omega), hC.2.2.2.2.2.1 _ l2]
    refine Or.inr ⟨k, hk, rfl, ?_⟩
    by_cases hl : (a_fl z (bd (a_ld z x))).length ≤ k
    · rw [if_pos ((nI_leI (by omega) hk).mpr hl)]
      exact Or.inl ⟨hl, rfl⟩
    · rw [if_neg (fun q => hl ((nI_leI (by omega) hk).mp q)), xm_rd_eq (by omega) (by omega), hC.2.2.2.2.2.2.1 _ e3.1, nI_add]
      exact Or.inr ⟨by omega, rfl⟩
theorem o_partLeader (hC : CN s z st bd u lw) (hw : a_wf z) {b k : Nat} (hb : al z b) {q : Int32 × Nat} (hq : (a_fl z b)[k]? = some q) : m_No_partLeader n s (nI (st b + k)) = xm_p (nI (a_ld z q.2)) := by
  have hk := (List.getElem?_eq_some_iff.mp hq).1
  have h8 := hC.2.2.2.2.2.2.2.2.2.2.1 _ hb
  have h9 := hC.2.2.2.2.2.2.2.2.2.2.2.1 b k hb q hq
  have hu := hC.2.2.2.2.2.2.2.2.2.2.2.2.2.2.2
  have hp := hC.2.1.2.1.2.2
  have hal := (hw.2.2.2.2.1 b hb).2.2 q (List.mem_of_getElem? hq)
  have hl := al_lt hw hal
  have ht := hC.2.2.2.2.2.2.2.2.2.2.2.2.2.2.1
  have hlen := hC.1.2.2.2.2.1.2.2
  unfold m_No_partLeader
  rw [xm_rd_eq (by omega) (by omega), h9.2, xm_rd_eq (by omega) (by omega), hC.2.2.2.2.2.2.2.1 _ hl]
theorem o_placeOfL (hC : CN s z st bd u lw) {b : Nat} (hb : al z b) {f : Int32} (y1 y3 : Int32) : ∀ (fuel k : Nat), (a_fl z b).length - k < fuel → k ≤ (a_fl z b).length → (∀ j q, j < k → (a_fl z b)[j]? = some q → q.1 ≠ f) → xo (L_No_placeOf_35 y1 f y3 (nI (st b + (a_fl z b).length)) s n fuel (nI (st b + k))) (fun o c => c = 0 ∧ ((∃ e, o = .inl e ∧ f ∉ (a_fl z b).map Prod.fst) ∨ (∃ j q, (a_fl z b)[j]? = some q ∧ q.1 = f ∧ o = .inr (nI (st b + j))))) := by
  have h8 := hC.2.2.2.2.2.2.2.2.2.2.1 _ hb
  have hu := hC.2.2.2.2.2.2.2.2.2.2.2.2.2.2.2
  have hp := hC.2.1.1.2.2
  intro fuel
  induction fuel with
  | zero => intro k h; omega
  | succ fuel ih =>
    intro k g1 g2 g3
    rw [L_No_placeOf_35_s]
    refine xo_le _ _ rfl rfl (by omega) (by omega) (fun q => ?_) (fun q => ?_)
    · refine xo_p ⟨rfl, Or.inl ⟨_, rfl, fun hm => ?_⟩⟩
      obtain ⟨a, ha, e⟩ := List.mem_map.mp hm
      obtain ⟨j, hj⟩ := List.getElem?_of_mem ha
      have := (List.getElem?_eq_some_iff.mp hj).1
      exact g3 j a (by omega) hj e
    · have hk : k < (a_fl z b).length := by omega
      have hg : (a_fl z b)[k]? = some (a_fl z b)[k] := List.getElem?_eq_getElem hk
      refine xo_rd _ rfl (by omega) (by omega) ?_
      rw [(hC.2.2.2.2.2.2.2.2.2.2.2.1 b k hb _ hg).1]
      refine xo_if (fun e => ?_) (fun e => ?_)
      · exact xo_p ⟨rfl, Or.inr ⟨k, _, hg, e, rfl⟩⟩
      · rw [nI_1, Nat.add_assoc]
        refine ih (k + 1) (by omega) (by omega) (fun j a hj ha => ?_)
        by_cases e2 : j = k
        · subst e2; rw [hg] at ha; cases ha; exact e
        · exact g3 j a (by omega) ha
theorem o_placeOf (hn : 100000 ≤ n) (hC : CN s z st bd u lw) (hw : a_wf z) {x : Nat} (hx : al z x) {f : Int32} : xo (m_No_placeOf n s (nI x) f) (fun o c => c = 0 ∧ ∃ b, a_bd z x b ∧ ((o = -1 ∧ f ∉ (a_fl z b).map Prod.fst) ∨ (∃ j q, (a_fl z b)[j]? = some q ∧ q.1 = f ∧ o = nI (st b + j)))) := by
  obtain ⟨e1, e2, e3, l1, l2, l3, l4, l5, l6, l7, l8, l9, l10, l11⟩ := o_bd hC hw hx
  have h8 := hC.2.2.2.2.2.2.2.2.2.2.1 _ e3.1
  have hu := hC.2.2.2.2.2.2.2.2.2.2.2.2.2.2.2
  unfold m_No_placeOf
  rw [xm_rd_eq (by omega) (by omega), e1, xm_rd_eq (by omega) (by omega), e2, xm_rd_eq (by omega) (by omega), hC.2.2.2.2.2.2.1 _ e3.1, xm_rd_eq (by omega) (by omega), hC.2.2.2.2.2.1 _ l2, xm_rd_eq (by omega) (by omega), hC.2.2.2.2.2.2.1 _ e3.1, nI_add]
  have hL := o_placeOfL (n := n) hC e3.1 (f := f) (nI x) (nI (bd (a_ld z x))) n 0 (by omega) (Nat.zero_le _) (fun j q hj => by omega)
  rw [Nat.add_zero] at hL
  refine xo_b _ hL (fun o c g => ?_)
  obtain ⟨rfl, g⟩ := g
  rcases g with ⟨e, rfl, g⟩ | ⟨j, q, g1, g2, rfl⟩
  · exact xo_p ⟨rfl, _, e3, Or.inl ⟨rfl, g⟩⟩
  · exact xo_p ⟨rfl, _, e3, Or.inr ⟨j, q, g1, g2, rfl⟩⟩
end CLS
