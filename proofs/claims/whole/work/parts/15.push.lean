/-! what is pushed -/
def a_feat (f : Int32) : Prop := (0 < f.toInt ∧ f.toInt ≤ 9999) ∨ (-8192 ≤ f.toInt ∧ f.toInt < 0)
def a_rk (f : Int32) : Int := if 0 < f.toInt then f.toInt else 9999 - f.toInt
/-- where a new field goes, from place i down -/
def p_at (pu : List (Int32 × Nat)) (f : Int32) : Nat → Nat
  | 0 => 0
  | i + 1 => match pu[i]? with
    | some q => if a_rk f < a_rk q.1 then p_at pu f i else i + 1
    | none => i + 1
theorem p_at_le (pu : List (Int32 × Nat)) (f : Int32) : ∀ i, p_at pu f i ≤ i
  | 0 => Nat.le_refl 0
  | i + 1 => by
    unfold p_at
    have := p_at_le pu f i
    split
    · split <;> omega
    · omega
def p_ins (pu : List (Int32 × Nat)) (i : Nat) (q : Int32 × Nat) : List (Int32 × Nat) := pu.take i ++ q :: pu.drop i
theorem p_ins_len {pu : List (Int32 × Nat)} {i : Nat} {q : Int32 × Nat} (h : i ≤ pu.length) : (p_ins pu i q).length = pu.length + 1 := by
  unfold p_ins
  simp
  omega
theorem p_ins_at {pu : List (Int32 × Nat)} {i : Nat} {q : Int32 × Nat} (h : i ≤ pu.length) (k : Nat) : (p_ins pu i q)[k]? = if k < i then pu[k]? else if k = i then some q else pu[k - 1]? := by
  unfold p_ins
  by_cases h1 : k < i
  · rw [if_pos h1, List.getElem?_append_left (by simp; omega), List.getElem?_take, if_pos h1]
  · rw [if_neg h1, List.getElem?_append_right (by simp; omega)]
    have hl : (pu.take i).length = i := by simp; omega
    rw [hl]
    by_cases h2 : k = i
    · subst h2
      rw [if_pos rfl, Nat.sub_self]
      rfl
    · rw [if_neg h2]
      have e : k - i = (k - 1 - i) + 1 := by omega
      rw [e, List.getElem?_cons_succ, List.getElem?_drop]
      congr 1
      omega
theorem p_ins_mem {pu : List (Int32 × Nat)} {i : Nat} {q a : Int32 × Nat} : a ∈ p_ins pu i q ↔ a = q ∨ a ∈ pu := by
  unfold p_ins
  rw [List.mem_append, List.mem_cons]
  constructor
  · rintro (h | h | h)
    · exact Or.inr (List.mem_of_mem_take h)
    · exact Or.inl h
    · exact Or.inr (List.mem_of_mem_drop h)
  · rintro (h | h)
    · exact Or.inr (Or.inl h)
    · rw [← List.take_append_drop i pu, List.mem_append] at h
      rcases h with h | h
      · exact Or.inl h
      · exact Or.inr (Or.inr h)
theorem p_ins_nodup {pu : List (Int32 × Nat)} {i : Nat} {q : Int32 × Nat} (h : (pu.map Prod.fst).Nodup) (hq : q.1 ∉ pu.map Prod.fst) : ((p_ins pu i q).map Prod.fst).Nodup := by
  unfold p_ins
  rw [List.map_append, List.map_cons]
  have hp : ((pu.take i).map Prod.fst ++ (pu.drop i).map Prod.fst) = pu.map Prod.fst := by rw [← List.map_append, List.take_append_drop]
  have hperm : ((pu.take i).map Prod.fst ++ q.1 :: (pu.drop i).map Prod.fst).Perm (q.1 :: pu.map Prod.fst) := by
    rw [← hp]
    exact List.perm_middle
  rw [hperm.nodup_iff]
  exact List.nodup_cons.mpr ⟨hq, h⟩
/-- the class's pushed fields -/
def CP (s : S_Pu) (pu : List (Int32 × Nat)) : Prop := ArOk (Pu_features s) pu.length ∧ ArOk (Pu_parts s) pu.length ∧ Pu_size s = nI pu.length ∧ pu.length ≤ 255 ∧ ∀ k q, pu[k]? = some q → (Pu_features s).2 k = q.1 ∧ (Pu_parts s).2 k = nI q.2
def LPu (s : S_Pu) : Nat := (Pu_features s).1 + (Pu_parts s).1
theorem o_holdsL {n : Nat} {s : S_Pu} {pu : List (Int32 × Nat)} {f : Int32} (h : CP s pu) : ∀ (fuel i : Nat), pu.length - i < fuel → i ≤ pu.length → (∀ k q, k < i → pu[k]? = some q → q.1 ≠ f) → xo (L_Pu_holds_2 f s n fuel (nI i)) (fun o c => c = 0 ∧ ((∃ e, o = .inl e ∧ f ∉ pu.map Prod.fst) ∨ (o = .inr 1 ∧ f ∈ pu.map Prod.fst))) := by
  obtain ⟨h1, h2, h3, h4, h5⟩ := h
  intro fuel
  induction fuel with
  | zero => intro i h; omega
  | succ fuel ih =>
    intro i g1 g2 g3
    rw [L_Pu_holds_2_s]
    refine xo_le pu.length i h3 rfl (by omega) (by omega) (fun q => ?_) (fun q => ?_)
    · refine xo_p ⟨rfl, Or.inl ⟨_, rfl, fun hm => ?_⟩⟩
      obtain ⟨a, ha, e⟩ := List.mem_map.mp hm
      obtain ⟨k, hk⟩ := List.getElem?_of_mem ha
      have := (List.getElem?_eq_some_iff.mp hk).1
      exact g3 k a (by omega) hk e
    · have hl := h1.2.2
      refine xo_rd i rfl (by omega) (by omega) ?_
      have hg : pu[i]? = some pu[i] := List.getElem?_eq_getElem q
      rw [(h5 i _ hg).1]
      refine xo_if (fun e => ?_) (fun e => ?_)
      · exact xo_p ⟨rfl, Or.inr ⟨rfl, List.mem_map.mpr ⟨pu[i], List.getElem_mem q, e⟩⟩⟩
      · rw [nI_1]
        refine ih (i + 1) (by omega) (by omega) (fun k a hk ha => ?_)
        by_cases e2 : k = i
        · subst e2
          rw [hg] at ha
          cases ha
          exact e
        · exact g3 k a (by omega) ha
theorem o_holds {n : Nat} {s : S_Pu} {pu : List (Int32 × Nat)} {f : Int32} (hn : 100000 ≤ n) (h : CP s pu) : xo (m_Pu_holds n s f) (fun o c => c = 0 ∧ ((o = 0 ∧ f ∉ pu.map Prod.fst) ∨ (o = 1 ∧ f ∈ pu.map Prod.fst))) := by
  unfold m_Pu_holds
  have h4 := h.2.2.2.1
  have hh := o_holdsL (n := n) (f := f) h n 0 (by omega) (Nat.zero_le _) (fun k q hk => by omega)
  rw [← nI0] at hh
  refine xo_b _ hh (fun a c g => ?_)
  obtain ⟨e1, g⟩ := g
  rcases g with ⟨e, rfl, g⟩ | ⟨rfl, g⟩
  · exact xo_p ⟨by omega, Or.inl ⟨rfl, g⟩⟩
  · exact xo_p ⟨by omega, Or.inr ⟨rfl, g⟩⟩
