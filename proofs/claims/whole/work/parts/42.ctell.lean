/-! the class tells, asks and hangs -/
def EQ (s : S_Tr) (z : AS) (x y : Nat) : Prop := ∃ f R bod : Nat → Nat, e_min z x y R ∧ UF f R (a_t z) ∧ (∀ r, al z r → R r = r → al z (bod r) ∧ R (bod r) = r ∧ (a_kd z (bod r) = 0 → ∀ j, al z j → R j = r → a_kd z j = 0)) ∧ (∀ i, i < a_t z → bod i < a_t z) ∧ ArOk (Tr_up s) (a_t z) ∧ ArOk (Tr_bodies s) (a_t z) ∧ (∀ i, i < a_t z → (Tr_up s).2 i = nI (f i)) ∧ (∀ i, i < a_t z → (Tr_bodies s).2 i = nI (bod i))
theorem TV_CTr {s : S_Tr} {z : AS} {f bod : Nat → Nat} {hit : Nat → Bool} {P : List (Nat × Nat)} (h : TV s z f bod hit P) : CTr s := by
  obtain ⟨⟨v1, v2, v3, v4, v5⟩, ⟨q1, q2, -⟩, -⟩ := h
  exact ⟨⟨q1.1, q1.2.1, Nat.zero_le _⟩, ⟨q2.1, q2.2.1, Nat.zero_le _⟩, v4, ⟨v1.1, v1.2.1, Nat.zero_le _⟩, ⟨v2.1, v2.2.1, Nat.zero_le _⟩, ⟨v3.1, v3.2.1, Nat.zero_le _⟩⟩
theorem o_equateL {n : Nat} (hn : 100000 ≤ n) {s1 : S_No} {z : AS} {st bd : Nat → Nat} {lw : Nat} (hC : CN s1 z st bd (a_sum z) lw) (hw : a_wf z) {x y : Nat} (hx : al z x) (hy : al z y) (y1 y2 : Int32) : ∀ (fuel k : Nat) (s : S_Tr) (f R bod : Nat → Nat) (hit : Nat → Bool) (P : List (Nat × Nat)), 1100 - k < fuel → k ≤ 1100 → TV s z f bod hit P → UF f R (a_t z) → TQ z x y R bod hit P k → xo (L_Tr_equate_15 y1 y2 s1 n fuel (nI k) s) (fun o c => (∃ e s2, o = .inl (e, s2) ∧ c + 2 * LTr s ≤ 2 * LTr s2 ∧ ¬ e_bad z x y ∧ ∃ f R bod hit P k, TV s2 z f bod hit P ∧ UF f R (a_t z) ∧ TQ z x y R bod hit P k ∧ e_min z x y R ∧ ∀ n, hit n = true ↔ a_hit z x y n) ∨ (∃ s2, o = .inr (0, s2) ∧ c + 2 * LTr s ≤ 2 * LTr s2 ∧ e_bad z x y ∧ CTr s2)) := by
  have ht := hC.2.2.2.2.2.2.2.2.2.2.2.2.2.2.1
  have hu := hC.2.2.2.2.2.2.2.2.2.2.2.2.2.2.2
  have h131 : (131073 : Int32) = nI 131073 := by decide +kernel
  intro fuel
  induction fuel with
  | zero => intro k s f R bod hit P h; omega
  | succ fuel ih =>
    intro k s f R bod hit P h1 hk0 hV hU T
    have hc := T.c
    have hV0 := hV
    obtain ⟨⟨v1, v2, v3, v4, v5⟩, ⟨w1, w2, w3, w4, w5⟩, v7, v8, v9⟩ := hV
    rw [L_Tr_equate_15_s]
    by_cases hk : P.length ≤ k
    · have hdone := TQ_done T hk
      have fin : xo (xm_p ((Sum.inl (nI k, s)) : (Int32 × S_Tr) ⊕ (Int32 × S_Tr))) (fun o c => (∃ e s2, o = .inl (e, s2) ∧ c + 2 * LTr s ≤ 2 * LTr s2 ∧ ¬ e_bad z x y ∧ ∃ f R bod hit P k, TV s2 z f bod hit P ∧ UF f R (a_t z) ∧ TQ z x y R bod hit P k ∧ e_min z x y R ∧ ∀ n, hit n = true ↔ a_hit z x y n) ∨ (∃ s2, o = .inr (0, s2) ∧ c + 2 * LTr s ≤ 2 * LTr s2 ∧ e_bad z x y ∧ CTr s2)) := xo_p (Or.inl ⟨_, s, rfl, by omega, hdone.2.1, f, R, bod, hit, P, k, hV0, hU, T, hdone.1, hdone.2.2⟩)
      refine xo_if (fun _ => fin) (fun _ => ?_)
      by_cases hk2 : Pr_size (Tr_pairs s) ≤ nI k
      · rw [if_pos hk2]; exact fin
      · exfalso
        rw [w3] at hk2
        by_cases hk3 : k < 2 ^ 31
        · exact hk2 ((nI_leI (by omega) hk3).mpr hk)
        · omega
    · refine xo_le 131073 k h131 rfl (by omega) (by omega) (fun q => absurd q (by omega)) (fun _ => ?_)
      refine xo_le P.length k w3 rfl (by omega) (by omega) (fun q => absurd q hk) (fun _ => ?_)
      have hp : P[k]? = some P[k] := List.getElem?_eq_getElem (by omega)
      generalize P[k]'(by omega) = p at hp
      obtain ⟨pa1, pa2, pE⟩ := T.p1 p (List.mem_of_getElem? hp)
      have l1 := al_lt hw pa1
      have l2 := al_lt hw pa2
      have b1 := w1.2.2
      have b2 := w2.2.2
      refine xo_rd k rfl (by omega) (by omega) ?_
      rw [(w5 k p hp).1]
      refine xo_b _ (o_root (n := n) hn (by omega) l1 v1.2.2 hU v7) (fun o1 c1 g1 => ?_)
      obtain ⟨rfl, e1, e2, f1, u1, u2⟩ := g1
      refine xo_rd k rfl (by omega) (by omega) ?_
      rw [(w5 k p hp).2]
      refine xo_b _ (o_root (n := n) (r := o1.2) hn (by omega) l2 (by rw [e2]; exact v1.2.2) u1 u2) (fun o2 c2 g2 => ?_)
      obtain ⟨rfl, e3, e4, f2, u3, u4⟩ := g2
      rw [e1, e3]
      have hV2 : TV (Tr_pairs s, Tr_bound s, o2.2, Tr_bodies s, Tr_hit s) z f2 bod hit P := ⟨⟨⟨by rw [e4, e2]; exact v1.1, by rw [e4, e2]; exact v1.2.1, by rw [e4, e2]; exact v1.2.2⟩, v2, v3, v4, v5⟩, ⟨w1, w2, w3, w4, w5⟩, u4, v8, v9⟩
      have hL2 : LTr (Tr_pairs s, Tr_bound s, o2.2, Tr_bodies s, Tr_hit s) = LTr s := by
        show (Pr_lefts (Tr_pairs s)).1 + (Pr_rights (Tr_pairs s)).1 + (Ld_row (Tr_bound s)).1 + o2.2.1 + (Tr_bodies s).1 + (Tr_hit s).1 = _
        rw [e4, e2]
        rfl
      refine xo_b _ (o_join hn hC hw hx hy hV2 u3 T hp) (fun o3 c3 g3 => ?_)
      obtain ⟨g4, g3⟩ := g3
      rw [hL2] at g4
      rcases g3 with ⟨e5, g5, g6⟩ | ⟨e5, f3, R3, bod3, hit3, P3, g5, g6, g7⟩
      · rw [e5, if_pos rfl]
        exact xo_p (Or.inr ⟨o3.2, rfl, by omega, g5, g6⟩)
      · rw [e5, if_neg (by decide), nI_1]
        refine xo_m (ih (k + 1) o3.2 f3 R3 bod3 hit3 P3 (by omega) (by omega) g5 g6 g7) (fun o c g => ?_)
        rcases g with ⟨e, s2, a1, a2, a3⟩ | ⟨s2, a1, a2, a3⟩
        · exact Or.inl ⟨e, s2, a1, by omega, a3⟩
        · exact Or.inr ⟨s2, a1, by omega, a3⟩
theorem o_boundL {n : Nat} {s1 : S_No} {z : AS} {hit : Nat → Bool} (hT : No_top s1 = nI (a_t z)) (ht : a_t z ≤ 512) : ∀ (fuel i : Nat) (s : S_Tr), a_t z - i < fuel → i ≤ a_t z → a_t z ≤ (Tr_hit s).1 → (∀ i, i < a_t z → (Tr_hit s).2 i = if hit i then 1 else 0) → CW (Tr_bound s) ((List.range i).filter hit) → xo (L_Tr_collectBound_2 s1 n fuel (nI i) s) (fun o c => CW (Tr_bound o.2) ((List.range (a_t z)).filter hit) ∧ o.2 = (Tr_pairs s, Tr_bound o.2, Tr_up s, Tr_bodies s, Tr_hit s) ∧ c + 2 * (Ld_row (Tr_bound s)).1 ≤ 2 * (Ld_row (Tr_bound o.2)).1) := by
  intro fuel
  induction fuel with
  | zero => intro i s h; omega
  | succ fuel ih =>
    intro i s h1 h2 h3 h4 h5
    rw [L_Tr_collectBound_2_s]
    refine xo_le (a_t z) i hT rfl (by omega) (by omega) (fun q => ?_) (fun q => ?_)
    · have : i = a_t z := by omega
      subst this
      exact xo_p ⟨h5, rfl, by show 0 + 2 * (Ld_row (Tr_bound s)).1 ≤ 2 * (Ld_row (Tr_bound s)).1; omega⟩
    · refine xo_rd i rfl (by omega) (by omega) ?_
      rw [h4 i q]
      have hlen : ((List.range i).filter hit).length ≤ i := Nat.le_trans (List.length_filter_le _ _) (by rw [List.length_range]; exact Nat.le_refl _)
      by_cases e : hit i = true
      · rw [if_pos e, if_pos rfl]
        refine xo_b _ (o_append (n := n) (x := i) h5 (by omega)) (fun o c g => ?_)
        obtain ⟨g1, g2⟩ := g
        have er : (List.range i).filter hit ++ [i] = (List.range (i + 1)).filter hit := by
          rw [List.range_succ, List.filter_append]
          simp [e]
        rw [er] at g1
        rw [nI_1]
        refine xo_m (ih (i + 1) _ (by omega) (by omega) h3 h4 g1) (fun o2 c2 g => ⟨g.1, g.2.1, ?_⟩)
        have g3 : c2 + 2 * (Ld_row o).1 ≤ 2 * (Ld_row (Tr_bound o2.2)).1 := g.2.2
        omega
      · rw [if_neg e, if_neg (by decide), nI_1]
        refine ih (i + 1) s (by omega) (by omega) h3 h4 ?_
        have er : (List.range (i + 1)).filter hit = (List.range i).filter hit := by
          rw [List.range_succ, List.filter_append]
          simp [e]
        rw [er]
        exact h5
theorem o_equate {n : Nat} (hn : 100000 ≤ n) {s1 : S_No} {z : AS} {st bd : Nat → Nat} {lw : Nat} (hC : CN s1 z st bd (a_sum z) lw) (hw : a_wf z) {x y : Nat} (hx : al z x) (hy : al z y) {s : S_Tr} (hS : CTr s) : xo (m_Tr_equate n s s1 (nI x) (nI y)) (fun o c => c + 2 * LTr s ≤ 2 * LTr o.2 ∧ CTr o.2 ∧ ((o.1 = 0 ∧ e_bad z x y) ∨ (o.1 = 1 ∧ ¬ e_bad z x y ∧ CW (Tr_bound o.2) (e_hits z x y) ∧ EQ o.2 z x y))) := by
  have ht := hC.2.2.2.2.2.2.2.2.2.2.2.2.2.2.1
  have hu := hC.2.2.2.2.2.2.2.2.2.2.2.2.2.2.2
  obtain ⟨s1a, s1b, s1c, s1d, s1e, s1f⟩ := hS
  have hT := hC.2.2.1.1
  have l5 := hC.1.2.2.2.2.1.2.2
  have l6 := hC.1.2.2.2.2.2.1.2.2
  unfold m_Tr_equate
  refine xo_b (fun o c => ∃ up bo hi : Ar, o = (Tr_pairs s, (Ld_row (Tr_bound s), 0), up, bo, hi) ∧ ArOk up (a_t z) ∧ ArOk bo (a_t z) ∧ ArOk hi (a_t z) ∧ (∀ i, i < a_t z → up.2 i = nI (a_ld z i)) ∧ (∀ i, i < a_t z → bo.2 i = nI (bd i)) ∧ (∀ i, i < a_t z → hi.2 i = 0) ∧ c + 2 * ((Tr_up s).1 + (Tr_bodies s).1 + (Tr_hit s).1) ≤ 2 * (up.1 + bo.1 + hi.1)) ?_ (fun o1 c1 g1 => ?_)
  · unfold m_Tr_copyFromNodes m_Ld_empty
    rw [hT]
    refine xo_b _ (o_roomK s1d (m := a_t z) (by omega)) (fun a1 d1 k1 => ?_)
    refine xo_b _ (o_roomK s1e (m := a_t z) (by omega)) (fun a2 d2 k2 => ?_)
    refine xo_b _ (o_roomK s1f (m := a_t z) (by omega)) (fun a3 d3 k3 => ?_)
    obtain ⟨p1, q1, r1, t1⟩ := k1
    obtain ⟨p2, q2, r2, t2⟩ := k2
    obtain ⟨p3, q3, r3, t3⟩ := k3
    have u1 := p1.2.2
    have u2 := p2.2.2
    have u3 := p3.2.2
    have u4 := p3.2.1
    refine xo_cp 0 0 (a_t z) nI0 nI0 rfl (by omega) (by omega) (by omega) (by omega) ?_
    refine xo_cp 0 0 (a_t z) nI0 nI0 rfl (by omega) (by omega) (by omega) (by omega) ?_
    refine xo_b _ (o_wipe (n := n) (t := a_t z) (x := a3) (by omega) (by omega) u3 (by omega)) (fun a4 d4 k4 => ?_)
    obtain ⟨rfl, e1, e2⟩ := k4
    rw [xm_b_p]
    refine xo_p ⟨_, _, _, rfl, ⟨p1.1, p1.2.1, p1.2.2⟩, ⟨p2.1, p2.2.1, p2.2.2⟩, ⟨by rw [e1]; exact p3.1, by rw [e1]; exact p3.2.1, by rw [e1]; exact p3.2.2⟩, fun i hi => ?_, fun i hi => ?_, fun i hi => ?_, ?_⟩
    · show va_cpy (No_lead s1).2 a1.2 0 0 (a_t z) i = _
      rw [pk_cpy_in (by omega) (by omega), Nat.zero_add, Nat.sub_zero]
      exact hC.2.2.2.2.2.2.2.1 i hi
    · show va_cpy (No_bodies s1).2 a2.2 0 0 (a_t z) i = _
      rw [pk_cpy_in (by omega) (by omega), Nat.zero_add, Nat.sub_zero]
      exact (hC.2.2.2.2.2.2.2.2.1 i hi).1
    · rw [e2 i, if_pos hi]
    · show d1 + (d2 + (d3 + (0 + 0))) + 2 * ((Tr_up s).1 + (Tr_bodies s).1 + (Tr_hit s).1) ≤ 2 * (a1.1 + a2.1 + a4.1)
      omega
  · obtain ⟨up, bo, hi, rfl, o1, o2, o3, r1, r2, r3, r4⟩ := g1
    refine xo_b (fun o c => CPr o [(x, y)] ∧ c + 2 * LPr (Tr_pairs s) ≤ 2 * LPr o) ?_ (fun o2' c2 g2 => ?_)
    · unfold m_Pr_startWith
      have h0 : CPr (Pr_lefts (Tr_pairs s), Pr_rights (Tr_pairs s), 0) [] := ⟨s1a, s1b, nI0, Nat.zero_le _, fun k p hp => absurd hp (by simp)⟩
      refine xo_b _ (o_pappend (n := n) (u := x) (v := y) h0 (by show 0 < 1100; omega)) (fun o c g => ?_)
      refine xo_p ⟨g.1, ?_⟩
      have : c + 2 * LPr (Tr_pairs s) ≤ 2 * LPr o := g.2
      omega
    · obtain ⟨g2, g3⟩ := g2
      have hV : TV (o2', (Ld_row (Tr_bound s), 0), up, bo, hi) z (a_ld z) bd (fun _ => false) [(x, y)] := ⟨⟨o1, o2, o3, s1c, rfl⟩, g2, r1, r2, r3⟩
      have hU : UF (a_ld z) (a_ld z) (a_t z) := fun i hi => by
        by_cases e : al z i
        · exact ⟨(hw.2.2.1 i e).1, (hw.2.2.1 i e).2.2, fun w => w⟩
        · rw [(hw.2.2.2.1 i e).1]
          exact ⟨Nat.le_refl _, (hw.2.2.2.1 i e).1, fun _ => rfl⟩
      have hT0 := TQ_0 hw hx hy hC.2.2.2.2.2.2.2.2.2.1 (fun i hi => (hC.2.2.2.2.2.2.2.2.1 i hi).2)
      have hh := o_equateL (n := n) hn hC hw hx hy (nI x) (nI y) n 0 _ _ _ _ _ _ (by omega) (by omega) hV hU hT0
      rw [← nI0] at hh
      have eL : LTr (o2', (Ld_row (Tr_bound s), 0), up, bo, hi) = LPr o2' + (Ld_row (Tr_bound s)).1 + up.1 + bo.1 + hi.1 := rfl
      have eL2 : LTr s = LPr (Tr_pairs s) + (Ld_row (Tr_bound s)).1 + (Tr_up s).1 + (Tr_bodies s).1 + (Tr_hit s).1 := rfl
      refine xo_b _ hh (fun o3' c3 g4 => ?_)
      rcases g4 with ⟨e, s2, rfl, a2, a3, f, R, bod, hit, P, k, a4, a5, a6, a7, a8⟩ | ⟨s2, rfl, a2, a3, a4⟩
      · refine xo_elim (fun aa haa => ?_) (fun bb hbb => absurd hbb (by simp))
        cases haa
        have h4 := a4.1.2.2.2.1
        have h5 := a4.1.2.2.2.2
        have hcw : CW (Tr_bound s2) ((List.range 0).filter hit) := ⟨⟨h4.1, h4.2.1, Nat.zero_le _⟩, by rw [h5]; exact nI0, Nat.zero_le _, fun k x hx => absurd (show ([] : List Nat)[k]? = some x from hx) (by simp)⟩
        have hb := o_boundL (n := n) (s1 := s1) (z := z) (hit := hit) hT ht n 0 s2 (by omega) (Nat.zero_le _) a4.1.2.2.1.2.2 a4.2.2.2.2 hcw
        rw [← nI0] at hb
        unfold m_Tr_collectBound
        refine xo_b (fun o c => CW (Tr_bound o) (e_hits z x y) ∧ o = (Tr_pairs s2, Tr_bound o, Tr_up s2, Tr_bodies s2, Tr_hit s2) ∧ c + 2 * (Ld_row (Tr_bound s2)).1 ≤ 2 * (Ld_row (Tr_bound o)).1) (xo_b _ hb (fun o c g => xo_p ⟨?_, g.2.1, by have := g.2.2; show c + 0 + _ ≤ _; omega⟩)) (fun o c g => ?_)
        · have ehit : hit = e_hitb z x y := by
            funext n
            have h1 := a8 n
            unfold e_hitb
            cases hh : hit n with
            | true => rw [pb_t (h1.mp hh)]
            | false => rw [pb_f (fun w => by rw [h1.mpr w] at hh; exact absurd hh (by decide))]
          have := g.1
          rw [ehit] at this
          exact this
        · obtain ⟨b1, b2, b3⟩ := g
          have hcT := TV_CTr a4
          refine xo_p ⟨?_, ?_, Or.inr ⟨rfl, a3, b1, f, R, bod, a7, a5, a6.b1, a6.b2, ?_, ?_, ?_, ?_⟩⟩
          · have e6 : LTr o + (Ld_row (Tr_bound s2)).1 = LTr s2 + (Ld_row (Tr_bound o)).1 := by
              rw [b2]
              show (Pr_lefts (Tr_pairs s2)).1 + (Pr_rights (Tr_pairs s2)).1 + (Ld_row (Tr_bound o)).1 + (Tr_up s2).1 + (Tr_bodies s2).1 + (Tr_hit s2).1 + (Ld_row (Tr_bound s2)).1 = _
              unfold LTr
              show _ = _ + (Ld_row (Tr_bound o)).1
              omega
            show c1 + (c2 + (c3 + (c + 0))) + 2 * LTr s ≤ 2 * LTr o
            omega
          · show CTr o
            rw [b2]
            exact ⟨hcT.1, hcT.2.1, CW_0 b1, hcT.2.2.2⟩
          · show ArOk (Tr_up o) (a_t z); rw [b2]; exact a4.1.1
          · show ArOk (Tr_bodies o) (a_t z); rw [b2]; exact a4.1.2.1
          · show ∀ i, i < a_t z → (Tr_up o).2 i = nI (f i); rw [b2]; exact a4.2.2.1
          · show ∀ i, i < a_t z → (Tr_bodies o).2 i = nI (bod i); rw [b2]; exact a4.2.2.2.1
      · refine xo_p ⟨?_, a4, Or.inl ⟨rfl, a3⟩⟩
        show c1 + (c2 + (c3 + 0)) + 2 * LTr s ≤ 2 * LTr s2
        omega
abbrev No_set_K (s : S_No) (l b d : Ar) : S_No := (No_kinds s, No_values s, No_starts s, No_sizes s, l, b, d, No_marked s, No_top s, No_lowest s, No_alive s, No_marks s, No_fields s, No_reached s)
theorem o_keepL {n : Nat} (hn : 100000 ≤ n) {s0 : S_No} {z : AS} {R bod : Nat → Nat} (ht : a_t z ≤ 512) (hT : No_top s0 = nI (a_t z)) (hA : ArOk (No_lead s0) (a_t z) ∧ ArOk (No_bodies s0) (a_t z) ∧ ArOk (No_needed s0) (a_t z)) : ∀ (fuel i : Nat) (s : S_Tr) (s1 : S_No) (f : Nat → Nat) (l b d : Nat → Int32), a_t z - i < fuel → i ≤ a_t z → UF f R (a_t z) → ArOk (Tr_up s) (a_t z) → ArOk (Tr_bodies s) (a_t z) → (∀ i, i < a_t z → (Tr_up s).2 i = nI (f i)) → (∀ i, i < a_t z → (Tr_bodies s).2 i = nI (bod i)) → s1 = No_set_K s0 ((No_lead s0).1, l) ((No_bodies s0).1, b) ((No_needed s0).1, d) → (∀ j, j < i → l j = nI (R j) ∧ b j = nI (bod j)) → (∀ r, d r = 1 ↔ ((No_needed s0).2 r = 1 ∨ ∃ j, j < i ∧ (No_needed s0).2 j = 1 ∧ R j = r)) → xo (L_Tr_keep_2 n fuel (nI i) s s1) (fun o c => c = 0 ∧ LTr o.2.1 = LTr s ∧ Tr_pairs o.2.1 = Tr_pairs s ∧ Tr_bound o.2.1 = Tr_bound s ∧ Tr_hit o.2.1 = Tr_hit s ∧ ArOk (Tr_up o.2.1) (a_t z) ∧ Tr_bodies o.2.1 = Tr_bodies s ∧ ∃ l b d : Nat → Int32, o.2.2 = No_set_K s0 ((No_lead s0).1, l) ((No_bodies s0).1, b) ((No_needed s0).1, d) ∧ (∀ j, j < a_t z → l j = nI (R j) ∧ b j = nI (bod j)) ∧ (∀ r, d r = 1 ↔ ((No_needed s0).2 r = 1 ∨ ∃ j, j < a_t z ∧ (No_needed s0).2 j = 1 ∧ R j = r))) := by
  intro fuel
  induction fuel with
  | zero => intro i s s1 f l b d h; omega
  | succ fuel ih =>
    intro i s s1 f l b d h1 h2 hU u1 u2 u3 u4 es h3 h4
    subst es
    rw [L_Tr_keep_2_s]
    refine xo_le (a_t z) i hT rfl (by omega) (by omega) (fun q => ?_) (fun q => ?_)
    · have : i = a_t z := by omega
      subst this
      exact xo_p ⟨rfl, rfl, rfl, rfl, rfl, u1, rfl, l, b, d, rfl, h3, h4⟩
    · have a1 := hA.1.2.2
      have a2 := hA.2.1.2.2
      have a3 := hA.2.2.2.2
      have a4 := u2.2.2
      refine xo_b _ (o_root (n := n) hn (by omega) q u1.2.2 hU u3) (fun o c g => ?_)
      obtain ⟨rfl, e1, e2, f2, g1, g2⟩ := g
      have hRi := UF_le hU i q
      rw [e1]
      refine xo_wr i rfl (by show i < (No_lead s0).1; omega) (by omega) ?_
      refine xo_rd i rfl (by omega) (by omega) ?_
      rw [u4 i q]
      refine xo_wr i rfl (by show i < (No_bodies s0).1; omega) (by omega) ?_
      refine xo_rd i rfl (by show i < (No_needed s0).1; omega) (by omega) ?_
      have hdi : d i = 1 ↔ (No_needed s0).2 i = 1 := by
        rw [h4 i]
        refine ⟨fun w => w.elim id (fun ⟨j, j1, j2, j3⟩ => ?_), Or.inl⟩
        have := (UF_le hU j (by omega)).1
        omega
      have hu2 : ArOk o.2 (a_t z) := ⟨by rw [e2]; exact u1.1, by rw [e2]; exact u1.2.1, by rw [e2]; exact u1.2.2⟩
      have hL : LTr (Tr_pairs s, Tr_bound s, o.2, Tr_bodies s, Tr_hit s) = LTr s := by
        show (Pr_lefts (Tr_pairs s)).1 + (Pr_rights (Tr_pairs s)).1 + (Ld_row (Tr_bound s)).1 + o.2.1 + (Tr_bodies s).1 + (Tr_hit s).1 = _
        rw [e2]
        rfl
      have hlb : ∀ j, j < i + 1 → upd l i (nI (R i)) j = nI (R j) ∧ upd b i (nI (bod i)) j = nI (bod j) := fun j hj => by
        rw [upd_at, upd_at]
        by_cases e : j = i
        · rw [if_pos e, if_pos e, e]; exact ⟨rfl, rfl⟩
        · rw [if_neg e, if_neg e]; exact h3 j (by omega)
      rw [nI_1]
      show xo (if d i = 1 then _ else _) _
      refine xo_if (fun w => ?_) (fun w => ?_)
      · refine xo_wr (R i) rfl (by show R i < (No_needed s0).1; omega) (by omega) ?_
        refine xo_m (ih (i + 1) (Tr_pairs s, Tr_bound s, o.2, Tr_bodies s, Tr_hit s) _ f2 (upd l i (nI (R i))) (upd b i (nI (bod i))) (upd d (R i) 1) (by omega) (by omega) g1 hu2 u2 g2 u4 rfl hlb (fun r => ?_)) (fun o c g => ?_)
        · rw [upd_at]
          by_cases e : r = R i
          · rw [if_pos e]
            exact ⟨fun _ => Or.inr ⟨i, by omega, hdi.mp w, e.symm⟩, fun _ => rfl⟩
          · rw [if_neg e, h4 r]
            refine ⟨fun w2 => w2.imp id (fun ⟨j, j1, j2⟩ => ⟨j, by omega, j2⟩), fun w2 => w2.imp id (fun ⟨j, j1, j2, j3⟩ => ⟨j, ?_, j2, j3⟩)⟩
            have : j ≠ i := fun w3 => e (by rw [← j3, w3])
            omega
        · obtain ⟨c0, k1, k2⟩ := g
          exact ⟨by omega, by rw [k1, hL], k2⟩
      · refine xo_m (ih (i + 1) (Tr_pairs s, Tr_bound s, o.2, Tr_bodies s, Tr_hit s) _ f2 (upd l i (nI (R i))) (upd b i (nI (bod i))) d (by omega) (by omega) g1 hu2 u2 g2 u4 rfl hlb (fun r => ?_)) (fun o c g => ?_)
        · rw [h4 r]
          refine ⟨fun w2 => w2.imp id (fun ⟨j, j1, j2⟩ => ⟨j, by omega, j2⟩), fun w2 => w2.imp id (fun ⟨j, j1, j2, j3⟩ => ⟨j, ?_, j2, j3⟩)⟩
          have : j ≠ i := fun w3 => w (hdi.mpr (by rw [← w3]; exact j2))
          omega
        · obtain ⟨c0, k1, k2⟩ := g
          exact ⟨by omega, by rw [k1, hL], k2⟩
theorem o_become {n : Nat} {s s2 : S_Ld} {to : List Nat} (h : ArOk (Ld_row s) 0) (h2 : CW s2 to) : xo (m_Ld_become n s s2) (fun o d => CW o to ∧ d + 2 * (Ld_row s).1 ≤ 2 * (Ld_row o).1) := by
  obtain ⟨k1, k2, k3, k4⟩ := h2
  unfold m_Ld_become
  rw [k2]
  refine xo_b _ (o_roomK h (m := to.length) (by omega)) (fun a d g => ?_)
  obtain ⟨p1, q1, r1, t1⟩ := g
  have b1 := p1.2.2
  have b2 := k1.2.2
  refine xo_cp 0 0 to.length nI0 nI0 rfl (by omega) (by omega) (by omega) (by omega) ?_
  refine xo_p ⟨⟨⟨p1.1, p1.2.1, p1.2.2⟩, rfl, k3, fun k x hx => ?_⟩, by show d + 0 + 2 * (Ld_row s).1 ≤ 2 * a.1; omega⟩
  have hk := (List.getElem?_eq_some_iff.mp hx).1
  show va_cpy (Ld_row s2).2 a.2 0 0 to.length k = nI x
  rw [pk_cpy_in (by omega) (by omega), Nat.zero_add, Nat.sub_zero]
  exact k4 k x hx
theorem c_tell {n : Nat} (hn : 100000 ≤ n) {s : S_Ts} {F : FS} {c : Nat} (hC : CT s F) (hF : FI F c) {p v : Int32} : xoC (m_Ts_tell n s p v) s (sp_tell F p v) := by
  have hC0 := hC
  obtain ⟨⟨st, bd, lw, h1⟩, h2, h3, h4, h5, h6, h7⟩ := hC
  have hw := hF.1
  have hb0 := hF.2.2.2.2.1
  unfold m_Ts_tell
  rcases o_has (n := n) h1 hw p with ⟨x, hx, e⟩ | ⟨hx, e⟩
  · rw [e, xm_b_p, if_neg (by decide)]
    rcases o_has (n := n) h1 hw v with ⟨y, hy, e2⟩ | ⟨hy, e2⟩
    · rw [e2, xm_b_p, if_neg (by decide), hx.1, hy.1]
      refine xo_b _ (o_equate hn h1 hw hx.2 hy.2 h6) (fun o1 d1 g => ?_)
      obtain ⟨k1, k2, k3⟩ := g
      rcases k3 with ⟨e3, k3⟩ | ⟨e3, k3, k4, f, R, bod, k5, k6, k7, k8, k9, k10, k11, k12⟩
      · rw [e3, if_pos rfl]
        refine xo_p ⟨F, Or.inr ⟨fun ⟨x', y', w1, w2, w3⟩ => ?_, rfl, rfl⟩, ⟨⟨st, bd, lw, h1⟩, h2, h3, h4, h5, k2, h7⟩, ?_⟩
        · have q1 := a_is_inj hw (by omega) w1 ⟨rfl, hx.2⟩
          have q2 := a_is_inj hw (by omega) w2 ⟨rfl, hy.2⟩
          subst q1; subst q2
          exact w3 k3
        · show d1 + 0 + 2 * LTs s ≤ 2 * (LNo (Ts_nodes s) + LPu (Ts_pushed s) + LTr o1.2 + LLk (Ts_likeness s) + (Ld_row (Ts_touchedLeaders s)).1)
          unfold LTs
          omega
      · rw [e3, if_neg (by decide)]
        have ht := h1.2.2.2.2.2.2.2.2.2.2.2.2.2.2.1
        obtain ⟨hA, hFi, hS, c1, c2, c3, c4, c5, c6, c7, c8, c9, c10, c11, c12⟩ := h1
        have hk := o_keepL (n := n) (s0 := Ts_nodes s) (z := f_z F) (R := R) (bod := bod) hn ht hS.1 ⟨hA.2.2.2.2.1, hA.2.2.2.2.2.1, hA.2.2.2.2.2.2.1⟩ n 0 o1.2 (Ts_nodes s) f (No_lead (Ts_nodes s)).2 (No_bodies (Ts_nodes s)).2 (No_needed (Ts_nodes s)).2 (by omega) (Nat.zero_le _) k6 k9 k10 k11 k12 rfl (fun j hj => by omega) (fun r => ⟨Or.inl, fun w => w.elim id (fun ⟨j, j1, _⟩ => by omega)⟩)
        rw [← nI0] at hk
        unfold m_Tr_keep
        refine xo_b (fun (o : S_Tr × S_No) d => d = 0 ∧ LTr o.1 = LTr o1.2 ∧ CTr o.1 ∧ Tr_bound o.1 = Tr_bound o1.2 ∧ ∃ l b d : Nat → Int32, o.2 = No_set_K (Ts_nodes s) ((No_lead (Ts_nodes s)).1, l) ((No_bodies (Ts_nodes s)).1, b) ((No_needed (Ts_nodes s)).1, d) ∧ (∀ j, j < a_t (f_z F) → l j = nI (R j) ∧ b j = nI (bod j)) ∧ (∀ r, d r = 1 ↔ ((No_needed (Ts_nodes s)).2 r = 1 ∨ ∃ j, j < a_t (f_z F) ∧ (No_needed (Ts_nodes s)).2 j = 1 ∧ R j = r))) (xo_b _ hk (fun o d g => ?_)) (fun o2 d2 g2 => ?_)
        · obtain ⟨rfl, g1, g2, g3, g4, g5, g6, g7⟩ := g
          refine xo_p ⟨rfl, g1, ?_, g3, g7⟩
          show CTr o.2.1
          unfold CTr
          rw [g2, g3, g4, g6]
          exact ⟨k2.1, k2.2.1, k2.2.2.1, ⟨g5.1, g5.2.1, Nat.zero_le _⟩, k2.2.2.2.2.1, k2.2.2.2.2.2⟩
        · obtain ⟨rfl, g1, g2, g3, l, b, dd, eo, g4, g5⟩ := g2
          refine xo_b _ (o_become (n := n) (s2 := Tr_bound o2.1) (CW_0 h5) (by rw [g3]; exact k4)) (fun o3 d3 g6 => ?_)
          obtain ⟨g6, g7⟩ := g6
          have hM1 : CM o2.2 (a_t (f_z F)) (f_mk F) (a_ld (f_z F)) := by rw [eo]; exact h2
          have hdr := o_drop (n := n) hn (by omega) hM1 (by rw [eo]; exact hS.1) (by rw [eo]; exact hA.2.2.2.2.2.2.2)
          refine xo_b _ hdr (fun o4 d4 g8 => ?_)
          obtain ⟨rfl, g9, g10, g11⟩ := g8
          have hwz := z_eq_wf hw hx.2 hy.2 k3 k5
          have emin := fun i j => e_min_iff k5 (i := i) (j := j)
          have E := (e_self (z := f_z F) (x := x) (y := y))
          have hRld : ∀ i, al (f_z F) i → R (a_ld (f_z F) i) = R i := fun i hi => ((emin _ _).mp (E.2.1 i hi)).symm
          have hdead : ∀ i, ¬ al (f_z F) i → R i = i := fun i hi => (hwz.2.2.2.1 i hi).1
          have hmk : ArOk (No_marked o4) (a_t (f_z F)) := ⟨by rw [g10, eo]; exact hA.2.2.2.2.2.2.2.1, by rw [g10, eo]; exact hA.2.2.2.2.2.2.2.2.1, by rw [g10, eo]; exact hA.2.2.2.2.2.2.2.2.2⟩
          have en : (No_needed o4).2 = dd := by rw [g11, eo]
          have hvar : ∀ j r, al (f_z F) j → R j = r → a_var (z_eq (f_z F) R) r → a_var (f_z F) (a_ld (f_z F) j) := fun j r hj hjr hv i hi hil => hv i hi (by
            show R i = r
            rw [← hRld i hi, hil, hRld j hj, hjr])
          refine xo_p ⟨_, Or.inl ⟨x, y, R, ⟨rfl, hx.2⟩, ⟨rfl, hy.2⟩, k3, k5, rfl, rfl⟩, ⟨⟨st, bod, lw, ?_⟩, g9 _, ⟨?_, ?_⟩, h4, g6, g2, h7⟩, ?_⟩
          · show CN o4 (z_eq (f_z F) R) st bod (a_sum (f_z F)) lw
            rw [g11, eo]
            refine ⟨⟨hA.1, hA.2.1, hA.2.2.1, hA.2.2.2.1, hA.2.2.2.2.1, hA.2.2.2.2.2.1, hA.2.2.2.2.2.2.1, hmk⟩, hFi, hS, c1, c2, c3, c4, ?_, ?_, k7, c8, c9, c10, c11, c12⟩
            · intro i hi
              exact (g4 i hi).1
            · intro i hi
              exact ⟨(g4 i hi).2, k8 i hi⟩
          · intro r hr hrl hrv
            have hr' : al (f_z F) r := hr
            have hrl' : R r = r := hrl
            show (No_needed o4).2 r = 1 ↔ ∃ j, al (f_z F) j ∧ R j = r ∧ f_nd F (a_ld (f_z F) j)
            rw [en, g5 r]
            have one : ∀ j, al (f_z F) j → R j = r → ((No_needed (Ts_nodes s)).2 (a_ld (f_z F) j) = 1 ↔ f_nd F (a_ld (f_z F) j)) := fun j hj hjr => h3.1 _ (hw.2.2.1 j hj).2.1 (hw.2.2.1 j hj).2.2 (hvar j r hj hjr hrv)
            constructor
            · rintro (w | ⟨j, j1, j2, j3⟩)
              · exact ⟨r, hr', hrl', (one r hr' hrl').mp (h3.2 r hr' (hvar r r hr' hrl' hrv) w)⟩
              · have hj : al (f_z F) j := Classical.byContradiction (fun w => by
                  have := hdead j w
                  rw [j3] at this
                  exact w (this ▸ hr'))
                exact ⟨j, hj, j3, (one j hj j3).mp (h3.2 j hj (hvar j r hj j3 hrv) j2)⟩
            · rintro ⟨j, j1, j2, j3⟩
              exact Or.inr ⟨a_ld (f_z F) j, al_lt hw (hw.2.2.1 j j1).2.1, (one j j1 j2).mpr j3, by rw [hRld j j1, j2]⟩
          · intro i hi hiv hin
            have hi' : al (f_z F) i := hi
            have hin' : (No_needed o4).2 i = 1 := hin
            show (No_needed o4).2 (R i) = 1
            rw [en, g5 i] at hin'
            rw [en, g5 (R i)]
            rcases hin' with w | ⟨j, j1, j2, j3⟩
            · exact Or.inr ⟨i, al_lt hw hi', w, rfl⟩
            · refine Or.inr ⟨j, j1, j2, ?_⟩
              have := (emin j (R j)).mp (k5 j).1
              rw [j3] at this
              rw [j3, ← this]
          · show d1 + (0 + (d3 + (0 + 0))) + 2 * LTs s ≤ 2 * (LNo o4 + LPu (Ts_pushed s) + LTr o2.1 + LLk (Ts_likeness s) + (Ld_row o3).1)
            have eL : LNo o4 = LNo (Ts_nodes s) := by
              unfold LNo
              rw [g10, g11, eo]
            rw [eL, g1]
            unfold LTs
            omega
    · rw [e2, xm_b_p, if_pos rfl]
      exact o_same hC0 (Or.inr ⟨fun ⟨x', y', w1, w2, w3⟩ => hy y' w2, rfl, rfl⟩)
  · rw [e, xm_b_p, if_pos rfl]
    exact o_same hC0 (Or.inr ⟨fun ⟨x', y', w1, w2, w3⟩ => hx x' w1, rfl, rfl⟩)
theorem c_ask {n : Nat} (hn : 100000 ≤ n) {s : S_Ts} {F : FS} {c : Nat} (hC : CT s F) (hF : FI F c) {p v : Int32} : xoC (m_Ts_ask n s p v) s (fun r F' => spi_ask F p v r ∧ F' = F) := by
  have hC0 := hC
  obtain ⟨⟨st, bd, lw, h1⟩, h2, h3, h4, h5, h6, h7⟩ := hC
  have hw := hF.1
  have hb0 := hF.2.2.2.2.1
  unfold m_Ts_ask
  rcases o_has (n := n) h1 hw p with ⟨x, hx, e⟩ | ⟨hx, e⟩
  · rw [e, xm_b_p, if_neg (by decide)]
    rcases o_has (n := n) h1 hw v with ⟨y, hy, e2⟩ | ⟨hy, e2⟩
    · rw [e2, xm_b_p, if_neg (by decide), hx.1, hy.1]
      refine xo_b _ (o_equate hn h1 hw hx.2 hy.2 h6) (fun o1 d1 g => ?_)
      obtain ⟨k1, k2, k3⟩ := g
      have fin : ∀ r : Int32, spi_ask F (nI x) (nI y) r → xo (xm_p ((r, (Ts_nodes s, Ts_pushed s, o1.2, Ts_likeness s, Ts_touchedLeaders s)) : Int32 × S_Ts)) (fun o c => ∃ F', (spi_ask F (nI x) (nI y) o.1 ∧ F' = F) ∧ CT o.2 F' ∧ d1 + c + 2 * LTs s ≤ 2 * LTs o.2) := fun r hr => by
        refine xo_p ⟨F, ⟨hr, rfl⟩, ⟨⟨st, bd, lw, h1⟩, h2, h3, h4, h5, k2, h7⟩, ?_⟩
        show d1 + 0 + 2 * LTs s ≤ 2 * (LNo (Ts_nodes s) + LPu (Ts_pushed s) + LTr o1.2 + LLk (Ts_likeness s) + (Ld_row (Ts_touchedLeaders s)).1)
        unfold LTs
        omega
      rcases k3 with ⟨e3, k3⟩ | ⟨e3, k3, k4, -⟩
      · rw [e3, if_pos rfl]
        exact fin 0 (Or.inr ⟨x, y, ⟨rfl, hx.2⟩, ⟨rfl, hy.2⟩, Or.inl ⟨k3, rfl⟩⟩)
      · rw [e3, if_neg (by decide)]
        have hl := k4.2.2.1
        refine xo_eq _ 0 k4.2.1 nI0 (by omega) (by omega) (fun w => ?_) (fun w => ?_)
        · exact fin 1 (Or.inr ⟨x, y, ⟨rfl, hx.2⟩, ⟨rfl, hy.2⟩, Or.inr ⟨k3, Or.inl ⟨List.length_eq_zero_iff.mp w, rfl⟩⟩⟩)
        · exact fin (-1) (Or.inr ⟨x, y, ⟨rfl, hx.2⟩, ⟨rfl, hy.2⟩, Or.inr ⟨k3, Or.inr ⟨fun q => w (by rw [q]; rfl), rfl⟩⟩⟩)
    · rw [e2, xm_b_p, if_pos rfl]
      exact o_same hC0 ⟨Or.inl ⟨fun ⟨x', y', w1, w2⟩ => hy y' w2, rfl⟩, rfl⟩
  · rw [e, xm_b_p, if_pos rfl]
    exact o_same hC0 ⟨Or.inl ⟨fun ⟨x', y', w1, w2⟩ => hx x' w1, rfl⟩, rfl⟩
theorem o_numbered2 {n : Nat} {s : S_Ld} {to : List Nat} (h : CW s to) (i : Int32) : ∃ r, m_Ld_numbered n s i = xm_p r ∧ ((∃ k h : Nat, k < 2 ^ 31 ∧ i = nI k ∧ to[k]? = some h ∧ r = nI h) ∨ ((¬ ∃ k h : Nat, k < 2 ^ 31 ∧ i = nI k ∧ to[k]? = some h) ∧ r = -1)) := by
  obtain ⟨h1, h2, h3, h4⟩ := h
  unfold m_Ld_numbered
  by_cases h0 : i < 0
  · rw [if_pos h0]
    exact ⟨-1, rfl, Or.inr ⟨fun ⟨k, h, w1, w2, w3⟩ => nI_pos w1 (w2 ▸ h0), rfl⟩⟩
  · obtain ⟨k, hk, rfl⟩ := nI_of h0
    rw [if_neg h0, h2]
    by_cases hl : to.length ≤ k
    · rw [if_pos ((nI_leI (by omega) hk).mpr hl)]
      refine ⟨-1, rfl, Or.inr ⟨fun ⟨k2, h, w1, w2, w3⟩ => ?_, rfl⟩⟩
      have := (nI_eq hk w1).mp w2
      subst this
      have := (List.getElem?_eq_some_iff.mp w3).1
      omega
    · have hb := h1.2.2
      rw [if_neg (fun q => hl ((nI_leI (by omega) hk).mp q)), xm_rd_eq (by omega) hk]
      have hg : to[k]? = some (to[k]'(by omega)) := List.getElem?_eq_getElem (by omega)
      refine ⟨_, rfl, Or.inl ⟨k, _, hk, rfl, hg, h4 k _ hg⟩⟩
theorem c_hangs {n : Nat} (hn : 100000 ≤ n) {s : S_Ts} {F : FS} {c : Nat} (hC : CT s F) (hF : FI F c) {p v i : Int32} : xoC (m_Ts_hangs n s p v i) s (fun r F' => spi_hangs F p v i r ∧ F' = F) := by
  have hC0 := hC
  obtain ⟨⟨st, bd, lw, h1⟩, h2, h3, h4, h5, h6, h7⟩ := hC
  have hw := hF.1
  have hb0 := hF.2.2.2.2.1
  unfold m_Ts_hangs
  rcases o_has (n := n) h1 hw p with ⟨x, hx, e⟩ | ⟨hx, e⟩
  · rw [e, xm_b_p, if_neg (by decide)]
    rcases o_has (n := n) h1 hw v with ⟨y, hy, e2⟩ | ⟨hy, e2⟩
    · rw [e2, xm_b_p, if_neg (by decide), hx.1, hy.1]
      refine xo_b _ (o_equate hn h1 hw hx.2 hy.2 h6) (fun o1 d1 g => ?_)
      obtain ⟨k1, k2, k3⟩ := g
      have fin : ∀ r : Int32, spi_hangs F (nI x) (nI y) i r → xo (xm_p ((r, (Ts_nodes s, Ts_pushed s, o1.2, Ts_likeness s, Ts_touchedLeaders s)) : Int32 × S_Ts)) (fun o c => ∃ F', (spi_hangs F (nI x) (nI y) i o.1 ∧ F' = F) ∧ CT o.2 F' ∧ d1 + c + 2 * LTs s ≤ 2 * LTs o.2) := fun r hr => by
        refine xo_p ⟨F, ⟨hr, rfl⟩, ⟨⟨st, bd, lw, h1⟩, h2, h3, h4, h5, k2, h7⟩, ?_⟩
        show d1 + 0 + 2 * LTs s ≤ 2 * (LNo (Ts_nodes s) + LPu (Ts_pushed s) + LTr o1.2 + LLk (Ts_likeness s) + (Ld_row (Ts_touchedLeaders s)).1)
        unfold LTs
        omega
      rcases k3 with ⟨e3, k3⟩ | ⟨e3, k3, k4, -⟩
      · rw [e3, if_pos rfl]
        refine fin (-1) (Or.inl ⟨fun ⟨x', y', w1, w2, w3⟩ => ?_, rfl⟩)
        have q1 := a_is_inj hw (by omega) w1 ⟨rfl, hx.2⟩
        have q2 := a_is_inj hw (by omega) w2 ⟨rfl, hy.2⟩
        subst q1; subst q2
        exact w3 k3
      · rw [e3, if_neg (by decide)]
        obtain ⟨r, er, hr⟩ := o_numbered2 (n := n) k4 i
        rw [er, xm_b_p]
        exact fin r (Or.inr ⟨x, y, ⟨rfl, hx.2⟩, ⟨rfl, hy.2⟩, k3, hr⟩)
    · rw [e2, xm_b_p, if_pos rfl]
      exact o_same hC0 ⟨Or.inl ⟨fun ⟨x', y', w1, w2, w3⟩ => hy y' w2, rfl⟩, rfl⟩
  · rw [e, xm_b_p, if_pos rfl]
    exact o_same hC0 ⟨Or.inl ⟨fun ⟨x', y', w1, w2, w3⟩ => hx x' w1, rfl⟩, rfl⟩
