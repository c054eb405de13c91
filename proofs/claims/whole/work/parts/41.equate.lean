/-! the class equates -/
def a_sh (z : AS) (i j : Nat) : Prop := a_kd z i = a_kd z j ∧ a_vl z i = a_vl z j ∧ (a_fl z i).map Prod.fst = (a_fl z j).map Prod.fst
theorem fst_eq {l l2 : List (Int32 × Nat)} (hl : l.length = l2.length) (h : ∀ (k : Nat) (q q2 : Int32 × Nat), l[k]? = some q → l2[k]? = some q2 → q.1 = q2.1) : l.map Prod.fst = l2.map Prod.fst := by
  apply List.ext_getElem?
  intro k
  rw [List.getElem?_map, List.getElem?_map]
  by_cases hk : k < l.length
  · rw [List.getElem?_eq_getElem hk, List.getElem?_eq_getElem (hl ▸ hk)]
    show some _ = some _
    rw [h k _ _ (List.getElem?_eq_getElem hk) (List.getElem?_eq_getElem (hl ▸ hk))]
  · rw [List.getElem?_eq_none (by omega), List.getElem?_eq_none (by omega)]
theorem o_shapeL {n : Nat} {s : S_No} {z : AS} {st bd : Nat → Nat} {u lw : Nat} (hC : CN s z st bd u lw) (hw : a_wf z) {a b : Nat} (ha : al z a) (hb : al z b) (hl : (a_fl z a).length = (a_fl z b).length) : ∀ (fuel k : Nat), (a_fl z a).length - k < fuel → k ≤ (a_fl z a).length → (∀ (j : Nat) (q q2 : Int32 × Nat), j < k → (a_fl z a)[j]? = some q → (a_fl z b)[j]? = some q2 → q.1 = q2.1) → xo (L_No_sameShape_49 (nI a) (nI b) s n fuel (nI k)) (fun o c => c = 0 ∧ ((∃ e, o = .inl e ∧ (a_fl z a).map Prod.fst = (a_fl z b).map Prod.fst) ∨ (o = .inr 0 ∧ (a_fl z a).map Prod.fst ≠ (a_fl z b).map Prod.fst))) := by
  have ht := hC.2.2.2.2.2.2.2.2.2.2.2.2.2.2.1
  have hu := hC.2.2.2.2.2.2.2.2.2.2.2.2.2.2.2
  have l1 := hC.1.2.2.1.2.2
  have l2 := hC.1.2.2.2.1.2.2
  have l3 := hC.2.1.1.2.2
  have hal := al_lt hw ha
  have hbl := al_lt hw hb
  have h8a := hC.2.2.2.2.2.2.2.2.2.2.1 _ ha
  have h8b := hC.2.2.2.2.2.2.2.2.2.2.1 _ hb
  intro fuel
  induction fuel with
  | zero => intro k h; omega
  | succ fuel ih =>
    intro k h1 h2 h3
    rw [L_No_sameShape_49_s]
    refine xo_rd a rfl (by omega) (by omega) ?_
    rw [hC.2.2.2.2.2.1 a hal]
    refine xo_le _ _ rfl rfl (by omega) (by omega) (fun q => ?_) (fun q => ?_)
    · refine xo_p ⟨rfl, Or.inl ⟨_, rfl, fst_eq hl (fun j q1 q2 hq1 hq2 => h3 j q1 q2 ?_ hq1 hq2)⟩⟩
      have := (List.getElem?_eq_some_iff.mp hq1).1
      omega
    · have hqa : (a_fl z a)[k]? = some (a_fl z a)[k] := List.getElem?_eq_getElem q
      have hqb : (a_fl z b)[k]? = some (a_fl z b)[k] := List.getElem?_eq_getElem (by omega)
      refine xo_rd a rfl (by omega) (by omega) ?_
      rw [hC.2.2.2.2.2.2.1 a ha, nI_add]
      refine xo_rd _ rfl (by omega) (by omega) ?_
      rw [(hC.2.2.2.2.2.2.2.2.2.2.2.1 a k ha _ hqa).1]
      refine xo_rd b rfl (by omega) (by omega) ?_
      rw [hC.2.2.2.2.2.2.1 b hb, nI_add]
      refine xo_rd _ rfl (by omega) (by omega) ?_
      rw [(hC.2.2.2.2.2.2.2.2.2.2.2.1 b k hb _ hqb).1]
      refine xo_if (fun e => ?_) (fun e => ?_)
      · rw [nI_1]
        refine ih (k + 1) (by omega) (by omega) (fun j q1 q2 hj hq1 hq2 => ?_)
        by_cases e2 : j = k
        · subst e2
          rw [hqa] at hq1
          rw [hqb] at hq2
          cases hq1
          cases hq2
          exact e
        · exact h3 j q1 q2 (by omega) hq1 hq2
      · refine xo_p ⟨rfl, Or.inr ⟨rfl, fun w => e ?_⟩⟩
        have := congrArg (fun l => l[k]?) w
        simp only [List.getElem?_map, hqa, hqb, Option.map_some] at this
        exact Option.some.inj this
theorem o_shape {n : Nat} (hn : 100000 ≤ n) {s : S_No} {z : AS} {st bd : Nat → Nat} {u lw : Nat} (hC : CN s z st bd u lw) (hw : a_wf z) {a b : Nat} (ha : al z a) (hb : al z b) : xo (m_No_sameShape n s (nI a) (nI b)) (fun o c => c = 0 ∧ ((o = 1 ∧ a_sh z a b) ∨ (o = 0 ∧ ¬ a_sh z a b))) := by
  have ht := hC.2.2.2.2.2.2.2.2.2.2.2.2.2.2.1
  have hu := hC.2.2.2.2.2.2.2.2.2.2.2.2.2.2.2
  have l1 := hC.1.1.2.2
  have l2 := hC.1.2.1.2.2
  have l4 := hC.1.2.2.2.1.2.2
  have hal := al_lt hw ha
  have hbl := al_lt hw hb
  have h8a := hC.2.2.2.2.2.2.2.2.2.2.1 _ ha
  have h8b := hC.2.2.2.2.2.2.2.2.2.2.1 _ hb
  unfold m_No_sameShape
  refine xo_rd a rfl (by omega) (by omega) ?_
  refine xo_rd b rfl (by omega) (by omega) ?_
  rw [hC.2.2.2.1 a hal, hC.2.2.2.1 b hbl]
  refine xo_if (fun e1 => ?_) (fun e1 => xo_p ⟨rfl, Or.inr ⟨rfl, fun w => e1 w.1⟩⟩)
  refine xo_rd a rfl (by omega) (by omega) ?_
  refine xo_rd b rfl (by omega) (by omega) ?_
  rw [hC.2.2.2.2.1 a ha, hC.2.2.2.2.1 b hb]
  refine xo_if (fun e2 => ?_) (fun e2 => xo_p ⟨rfl, Or.inr ⟨rfl, fun w => e2 w.2.1⟩⟩)
  refine xo_rd a rfl (by omega) (by omega) ?_
  refine xo_rd b rfl (by omega) (by omega) ?_
  rw [hC.2.2.2.2.2.1 a hal, hC.2.2.2.2.2.1 b hbl]
  refine xo_eq _ _ rfl rfl (by omega) (by omega) (fun e3 => ?_) (fun e3 => xo_p ⟨rfl, Or.inr ⟨rfl, fun w => e3 ?_⟩⟩)
  · have hh := o_shapeL (n := n) hC hw ha hb e3 n 0 (by omega) (Nat.zero_le _) (fun j q q2 hj => by omega)
    rw [← nI0] at hh
    refine xo_b _ hh (fun o c g => ?_)
    obtain ⟨rfl, g⟩ := g
    rcases g with ⟨e, rfl, g⟩ | ⟨rfl, g⟩
    · exact xo_p ⟨rfl, Or.inl ⟨rfl, e1, e2, g⟩⟩
    · exact xo_p ⟨rfl, Or.inr ⟨rfl, fun w => g w.2.2⟩⟩
  · have := congrArg List.length w.2.2
    rwa [List.length_map, List.length_map] at this
/-- rows of pairs -/
def CPr (s : S_Pr) (P : List (Nat × Nat)) : Prop := ArOk (Pr_lefts s) P.length ∧ ArOk (Pr_rights s) P.length ∧ Pr_size s = nI P.length ∧ P.length ≤ 1100 ∧ ∀ k p, P[k]? = some p → (Pr_lefts s).2 k = nI p.1 ∧ (Pr_rights s).2 k = nI p.2
def LPr (s : S_Pr) : Nat := (Pr_lefts s).1 + (Pr_rights s).1
theorem o_pappend {n : Nat} {s : S_Pr} {P : List (Nat × Nat)} {u v : Nat} (h : CPr s P) (hl : P.length < 1100) : xo (m_Pr_append n s (nI u) (nI v)) (fun o d => CPr o (P ++ [(u, v)]) ∧ d + 2 * LPr s ≤ 2 * LPr o) := by
  obtain ⟨h1, h2, h3, h4, h5⟩ := h
  unfold m_Pr_append
  rw [h3, nI_1]
  refine xo_b _ (o_roomK h1 (m := P.length + 1) (by omega)) (fun a1 c1 g1 => ?_)
  refine xo_b _ (o_roomK h2 (m := P.length + 1) (by omega)) (fun a2 c2 g2 => ?_)
  obtain ⟨p1, q1, r1, t1⟩ := g1
  obtain ⟨p2, q2, r2, t2⟩ := g2
  have b1 := p1.2.2
  have b2 := p2.2.2
  have b3 := h1.2.2
  have b4 := h2.2.2
  refine xo_wr P.length rfl (by omega) (by omega) ?_
  refine xo_wr P.length rfl (by omega) (by omega) ?_
  have el : (P ++ [(u, v)]).length = P.length + 1 := by rw [List.length_append]; rfl
  refine xo_p ⟨⟨⟨p1.1, p1.2.1, by rw [el]; exact b1⟩, ⟨p2.1, p2.2.1, by rw [el]; exact b2⟩, by rw [el], by rw [el]; omega, fun k p hp => ?_⟩, ?_⟩
  · show upd a1.2 P.length (nI u) k = nI p.1 ∧ upd a2.2 P.length (nI v) k = nI p.2
    rw [upd_at, upd_at]
    have hk := (List.getElem?_eq_some_iff.mp hp).1
    rw [el] at hk
    by_cases e : k = P.length
    · subst e
      rw [if_pos rfl, if_pos rfl]
      rw [List.getElem?_append_right (Nat.le_refl _), Nat.sub_self] at hp
      cases hp
      exact ⟨rfl, rfl⟩
    · rw [if_neg e, if_neg e, r1 k (by omega), r2 k (by omega)]
      rw [List.getElem?_append_left (by omega)] at hp
      exact h5 k p hp
  · show c1 + (c2 + 0) + 2 * ((Pr_lefts s).1 + (Pr_rights s).1) ≤ 2 * (a1.1 + a2.1)
    omega
def TV (s : S_Tr) (z : AS) (f bod : Nat → Nat) (hit : Nat → Bool) (P : List (Nat × Nat)) : Prop :=
  (ArOk (Tr_up s) (a_t z) ∧ ArOk (Tr_bodies s) (a_t z) ∧ ArOk (Tr_hit s) (a_t z) ∧ ArOk (Ld_row (Tr_bound s)) 0 ∧ Ld_size (Tr_bound s) = 0) ∧ CPr (Tr_pairs s) P ∧
  (∀ i, i < a_t z → (Tr_up s).2 i = nI (f i)) ∧ (∀ i, i < a_t z → (Tr_bodies s).2 i = nI (bod i)) ∧ (∀ i, i < a_t z → (Tr_hit s).2 i = if hit i then 1 else 0)
theorem ArOk_same {a : Ar} {t : Nat} {f : Nat → Int32} (h : ArOk a t) : ArOk (a.1, f) t := ⟨h.1, h.2.1, h.2.2⟩
/-- the end of join: hit, roots, body -/
theorem o_jtail {s : S_Tr} {z : AS} {f bod : Nat → Nat} {hit : Nat → Bool} {P : List (Nat × Nat)} (hV : TV s z f bod hit P) (ht : a_t z ≤ 512) {a b A B : Nat} (ha : a < a_t z) (hb : b < a_t z) {oa ob : Int32} (hoa : (oa = 0 ∧ a_kd z A ≠ 0) ∨ (oa = 1 ∧ a_kd z A = 0)) (hob : (ob = 0 ∧ a_kd z B ≠ 0) ∨ (ob = 1 ∧ a_kd z B = 0)) {C : Nat} (hCC : C = if a_kd z A = 0 then B else A) : xo (xm_rd (Tr_hit s) (nI a) (fun v38 => (xm_wr (Tr_hit s) (nI a) (v38 ||| oa) (fun a39 => (xm_rd a39 (nI b) (fun v40 => (xm_wr a39 (nI b) (v40 ||| ob) (fun a41 => (xm_wr (Tr_up s) (if (nI a) < (nI b) then (nI b) else (nI a)) (if (nI b) < (nI a) then (nI b) else (nI a)) (fun a42 => (xm_wr (Tr_bodies s) (if (nI b) < (nI a) then (nI b) else (nI a)) (nI C) (fun a43 => (xm_p (((1 : Int32), ((Tr_pairs s), (Tr_bound s), a42, a43, a41)) : Int32 × S_Tr)))))))))))))) (fun o c => c = 0 ∧ o.1 = 1 ∧ LTr o.2 = LTr s ∧ ∃ hit2 : Nat → Bool, (∀ i, hit2 i = true ↔ (hit i = true ∨ (i = a ∧ a_kd z A = 0) ∨ (i = b ∧ a_kd z B = 0))) ∧ TV o.2 z (fun i => if i = max a b then min a b else f i) (fun i => if i = min a b then (if a_kd z A = 0 then B else A) else bod i) hit2 P) := by
  obtain ⟨⟨v1, v2, v3, v4, v5⟩, v6, v7, v8, v9⟩ := hV
  have b1 := v1.2.2
  have b2 := v2.2.2
  have b3 := v3.2.2
  have orv : ∀ (h : Bool) (o : Int32) (X : Nat), ((o = 0 ∧ a_kd z X ≠ 0) ∨ (o = 1 ∧ a_kd z X = 0)) → ((if h then (1 : Int32) else 0) ||| o) = if (h || decide (a_kd z X = 0)) then 1 else 0 := fun h o X ho => by
    rcases ho with ⟨rfl, w⟩ | ⟨rfl, w⟩
    · rw [decide_eq_false w]
      cases h <;> decide +kernel
    · rw [decide_eq_true w]
      cases h <;> decide +kernel
  refine xo_rd a rfl (by omega) (by omega) ?_
  refine xo_wr a rfl (by omega) (by omega) ?_
  refine xo_rd b rfl (by show b < (Tr_hit s).1; omega) (by omega) ?_
  refine xo_wr b rfl (by show b < (Tr_hit s).1; omega) (by omega) ?_
  rw [nI_max a b (by omega) (by omega), nI_min a b (by omega) (by omega)]
  refine xo_wr (max a b) rfl (by omega) (by omega) ?_
  subst hCC
  refine xo_wr (min a b) rfl (by omega) (by omega) ?_
  refine xo_p ⟨rfl, rfl, rfl, fun i => hit i || (decide (i = a) && decide (a_kd z A = 0)) || (decide (i = b) && decide (a_kd z B = 0)), fun i => ?_, ⟨ArOk_same v1, ArOk_same v2, ⟨v3.1, v3.2.1, v3.2.2⟩, v4, v5⟩, v6, fun i hi => ?_, fun i hi => ?_, fun i hi => ?_⟩
  · simp [or_assoc]
  · show upd (Tr_up s).2 (max a b) (nI (min a b)) i = nI (if i = max a b then min a b else f i)
    rw [upd_at]
    by_cases e : i = max a b
    · rw [if_pos e, if_pos e]
    · rw [if_neg e, if_neg e, v7 i hi]
  · show upd (Tr_bodies s).2 (min a b) (nI (if a_kd z A = 0 then B else A)) i = nI (if i = min a b then (if a_kd z A = 0 then B else A) else bod i)
    rw [upd_at]
    by_cases e : i = min a b
    · rw [if_pos e, if_pos e]
    · rw [if_neg e, if_neg e, v8 i hi]
  · show upd (upd (Tr_hit s).2 a ((Tr_hit s).2 a ||| oa)) b (upd (Tr_hit s).2 a ((Tr_hit s).2 a ||| oa) b ||| ob) i = if (hit i || (decide (i = a) && decide (a_kd z A = 0)) || (decide (i = b) && decide (a_kd z B = 0))) then 1 else 0
    have first : ∀ j, j < a_t z → upd (Tr_hit s).2 a ((Tr_hit s).2 a ||| oa) j = if (hit j || (decide (j = a) && decide (a_kd z A = 0))) then 1 else 0 := fun j hj => by
      rw [upd_at]
      by_cases e : j = a
      · subst e
        rw [if_pos rfl, v9 j hj, orv _ oa A hoa]
        simp
      · rw [if_neg e, v9 j hj]
        simp [e]
    rw [upd_at, first b hb]
    by_cases e : i = b
    · subst e
      rw [if_pos rfl, orv _ ob B hob]
      simp
    · rw [if_neg e, first i hi]
      simp [e]
theorem o_ppartsL {n : Nat} {s1 : S_No} {z : AS} {st bd : Nat → Nat} {u lw : Nat} (hC : CN s1 z st bd u lw) (hw : a_wf z) {A B : Nat} (hA : al z A) (hB : al z B) (hl : (a_fl z A).length = (a_fl z B).length) {f bod : Nat → Nat} {hit : Nat → Bool} {P : List (Nat × Nat)} (hb : P.length + (a_fl z A).length < 1100) : ∀ (fuel k : Nat) (s : S_Tr), (a_fl z A).length - k < fuel → k ≤ (a_fl z A).length → TV s z f bod hit (P ++ (List.zipWith (fun q q2 => (q.2, q2.2)) (a_fl z A) (a_fl z B)).take k) → xo (L_Tr_pairParts_29 (nI A) (nI B) s1 n fuel (nI k) s) (fun o c => TV o.2 z f bod hit (P ++ List.zipWith (fun q q2 => (q.2, q2.2)) (a_fl z A) (a_fl z B)) ∧ c + 2 * LTr s ≤ 2 * LTr o.2) := by
  have ht := hC.2.2.2.2.2.2.2.2.2.2.2.2.2.2.1
  have hu := hC.2.2.2.2.2.2.2.2.2.2.2.2.2.2.2
  have l1 := hC.1.2.2.1.2.2
  have l2 := hC.1.2.2.2.1.2.2
  have l3 := hC.2.1.2.1.2.2
  have hal := al_lt hw hA
  have hbl := al_lt hw hB
  have h8a := hC.2.2.2.2.2.2.2.2.2.2.1 _ hA
  have h8b := hC.2.2.2.2.2.2.2.2.2.2.1 _ hB
  have hzl : (List.zipWith (fun q q2 : Int32 × Nat => (q.2, q2.2)) (a_fl z A) (a_fl z B)).length = (a_fl z A).length := by rw [List.length_zipWith, hl, Nat.min_self]
  intro fuel
  induction fuel with
  | zero => intro k s h; omega
  | succ fuel ih =>
    intro k s h1 h2 hV
    rw [L_Tr_pairParts_29_s]
    refine xo_rd A rfl (by omega) (by omega) ?_
    rw [hC.2.2.2.2.2.1 A hal]
    refine xo_le _ _ rfl rfl (by omega) (by omega) (fun q => ?_) (fun q => ?_)
    · rw [List.take_of_length_le (by omega)] at hV
      exact xo_p ⟨hV, by show 0 + 2 * LTr s ≤ 2 * LTr s; omega⟩
    · have hqa : (a_fl z A)[k]? = some (a_fl z A)[k] := List.getElem?_eq_getElem q
      have hqb : (a_fl z B)[k]? = some (a_fl z B)[k] := List.getElem?_eq_getElem (by omega)
      refine xo_rd A rfl (by omega) (by omega) ?_
      rw [hC.2.2.2.2.2.2.1 A hA, nI_add]
      refine xo_rd _ rfl (by omega) (by omega) ?_
      rw [(hC.2.2.2.2.2.2.2.2.2.2.2.1 A k hA _ hqa).2]
      refine xo_rd B rfl (by omega) (by omega) ?_
      rw [hC.2.2.2.2.2.2.1 B hB, nI_add]
      refine xo_rd _ rfl (by omega) (by omega) ?_
      rw [(hC.2.2.2.2.2.2.2.2.2.2.2.1 B k hB _ hqb).2]
      obtain ⟨w1, w2, w3⟩ := hV
      have hlen : (P ++ (List.zipWith (fun q q2 : Int32 × Nat => (q.2, q2.2)) (a_fl z A) (a_fl z B)).take k).length = P.length + k := by
        rw [List.length_append, List.length_take, hzl]
        omega
      refine xo_b _ (o_pappend (n := n) (u := (a_fl z A)[k].2) (v := (a_fl z B)[k].2) w2 (by omega)) (fun o c g => ?_)
      obtain ⟨g1, g2⟩ := g
      have et : (P ++ (List.zipWith (fun q q2 : Int32 × Nat => (q.2, q2.2)) (a_fl z A) (a_fl z B)).take k) ++ [((a_fl z A)[k].2, (a_fl z B)[k].2)] = P ++ (List.zipWith (fun q q2 : Int32 × Nat => (q.2, q2.2)) (a_fl z A) (a_fl z B)).take (k + 1) := by
        rw [List.append_assoc, List.take_add_one, List.getElem?_zipWith, hqa, hqb]
        rfl
      rw [et] at g1
      rw [nI_1]
      refine xo_m (ih (k + 1) _ (by omega) (by omega) ⟨w1, g1, w3⟩) (fun o2 c2 w => ⟨w.1, ?_⟩)
      have w4 : c2 + 2 * (LPr o + ((Ld_row (Tr_bound s)).1 + (Tr_up s).1 + (Tr_bodies s).1 + (Tr_hit s).1)) ≤ 2 * LTr o2.2 := by
        have := w.2
        unfold LTr at this ⊢
        unfold LPr
        have e : ∀ (a b c d e f x y : Nat), x + 2 * (a + b + c + d + e + f) ≤ y → x + 2 * (a + b + (c + d + e + f)) ≤ y := fun a b c d e f x y h => by omega
        exact e _ _ _ _ _ _ _ _ this
      unfold LPr at g2 w4
      have e5 : LTr s = (Pr_lefts (Tr_pairs s)).1 + (Pr_rights (Tr_pairs s)).1 + (Ld_row (Tr_bound s)).1 + (Tr_up s).1 + (Tr_bodies s).1 + (Tr_hit s).1 := rfl
      omega
/-- join, at the roots a and b of a pair -/
theorem o_join {n : Nat} (hn : 100000 ≤ n) {s1 : S_No} {z : AS} {st bd : Nat → Nat} {lw : Nat} (hC : CN s1 z st bd (a_sum z) lw) (hw : a_wf z) {x y : Nat} (hx : al z x) (hy : al z y) {s : S_Tr} {f R bod : Nat → Nat} {hit : Nat → Bool} {P : List (Nat × Nat)} {k : Nat} (hV : TV s z f bod hit P) (hU : UF f R (a_t z)) (T : TQ z x y R bod hit P k) {p : Nat × Nat} (hp : P[k]? = some p) : xo (m_Tr_join n s s1 (nI (R p.1)) (nI (R p.2))) (fun o c => c + 2 * LTr s ≤ 2 * LTr o.2 ∧ ((o.1 = 0 ∧ e_bad z x y ∧ CTr o.2) ∨ (o.1 = 1 ∧ ∃ f2 R2 bod2 hit2 P2, TV o.2 z f2 bod2 hit2 P2 ∧ UF f2 R2 (a_t z) ∧ TQ z x y R2 bod2 hit2 P2 (k + 1)))) := by
  have E := (e_self (z := z) (x := x) (y := y))
  have ht := hC.2.2.2.2.2.2.2.2.2.2.2.2.2.2.1
  have hu := hC.2.2.2.2.2.2.2.2.2.2.2.2.2.2.2
  have lk := hC.1.1.2.2
  obtain ⟨pa1, pa2, pE⟩ := T.p1 p (List.mem_of_getElem? hp)
  obtain ⟨a, ea⟩ : ∃ a, R p.1 = a := ⟨_, rfl⟩
  obtain ⟨b, eb⟩ : ∃ b, R p.2 = b := ⟨_, rfl⟩
  have raa : R a = a := by rw [← ea]; exact (T.s2 _).2
  have rbb : R b = b := by rw [← eb]; exact (T.s2 _).2
  have ala : al z a := by rw [← ea]; exact TQ_alR hw hx hy T pa1
  have alb : al z b := by rw [← eb]; exact TQ_alR hw hx hy T pa2
  have hla := al_lt hw ala
  have hlb := al_lt hw alb
  obtain ⟨A1, A2, A3⟩ := T.b1 a ala raa
  obtain ⟨B1, B2, B3⟩ := T.b1 b alb rbb
  have hAl := al_lt hw A1
  have hBl := al_lt hw B1
  rw [ea, eb]
  unfold m_Tr_join
  refine xo_eq a b rfl rfl (by omega) (by omega) (fun e => ?_) (fun hab => ?_)
  · refine xo_p ⟨by show 0 + 2 * LTr s ≤ 2 * LTr s; omega, Or.inr ⟨rfl, f, R, bod, hit, P, hV, hU, TQ_skip T hp (by rw [ea, eb, e])⟩⟩
  · have hV0 := hV
    obtain ⟨⟨v1, v2, v3, v4, v5⟩, v6, v7, v8, v9⟩ := hV
    have b2 := v2.2.2
    refine xo_rd a rfl (by omega) (by omega) ?_
    rw [v8 a hla]
    refine xo_rd b rfl (by omega) (by omega) ?_
    rw [v8 b hlb]
    refine xo_rd (bod a) rfl (by omega) (by omega) ?_
    rw [hC.2.2.2.1 _ hAl]
    have tail : ∀ (N : List (Nat × Nat)) (s2 : S_Tr), TV s2 z f bod hit (P ++ N) → (∀ q ∈ N, al z q.1 ∧ al z q.2 ∧ e_eq z x y q.1 q.2) → (a_kd z (bod a) ≠ 0 → a_kd z (bod b) ≠ 0 → a_go z (bod a) (bod b) ∧ ∀ (m : Nat) (q q2 : Int32 × Nat), (a_fl z (bod a))[m]? = some q → (a_fl z (bod b))[m]? = some q2 → (q.2, q2.2) ∈ N) → N.length + (a_fl z (if a_kd z (bod a) = 0 then bod b else bod a)).length ≤ (a_fl z (bod a)).length + (a_fl z (bod b)).length → ∀ (d : Nat), d + 2 * LTr s ≤ 2 * LTr s2 → ∀ o : Int32 × S_Tr, ∀ c : Nat, (c = 0 ∧ o.1 = 1 ∧ LTr o.2 = LTr s2 ∧ ∃ hit2 : Nat → Bool, (∀ i, hit2 i = true ↔ (hit i = true ∨ (i = a ∧ a_kd z (bod a) = 0) ∨ (i = b ∧ a_kd z (bod b) = 0))) ∧ TV o.2 z (fun i => if i = max a b then min a b else f i) (fun i => if i = min a b then (if a_kd z (bod a) = 0 then bod b else bod a) else bod i) hit2 (P ++ N)) → (d + c + 2 * LTr s ≤ 2 * LTr o.2 ∧ ((o.1 = 0 ∧ e_bad z x y ∧ CTr o.2) ∨ (o.1 = 1 ∧ ∃ f2 R2 bod2 hit2 P2, TV o.2 z f2 bod2 hit2 P2 ∧ UF f2 R2 (a_t z) ∧ TQ z x y R2 bod2 hit2 P2 (k + 1)))) := by
      intro N s2 _ hN hgo hlen d hd o c ho
      obtain ⟨rfl, h1, h2, hit2, h3, h4⟩ := ho
      exact ⟨by omega, Or.inr ⟨h1, _, _, _, _, _, h4, jR_uf hU hla hlb raa rbb hab, TQ_join hw hx hy T hp ea eb hab hN hgo rfl hlen h3⟩⟩
    have nil : P ++ [] = P := List.append_nil P
    have lenc : ∀ (h : a_kd z (bod a) = 0 ∨ a_kd z (bod b) = 0), ([] : List (Nat × Nat)).length + (a_fl z (if a_kd z (bod a) = 0 then bod b else bod a)).length ≤ (a_fl z (bod a)).length + (a_fl z (bod b)).length := fun _ => by
      by_cases e : a_kd z (bod a) = 0
      · rw [if_pos e]; show 0 + _ ≤ _; omega
      · rw [if_neg e]; show 0 + _ ≤ _; omega
    refine xo_if (fun hA0 => ?_) (fun hA0 => ?_)
    · refine xo_rd (bod b) rfl (by omega) (by omega) ?_
      rw [hC.2.2.2.1 _ hBl]
      refine xo_if (fun hB0 => ?_) (fun hB0 => ?_)
      · refine xo_m (o_jtail hV0 ht hla hlb (A := bod a) (B := bod b) (Or.inr ⟨rfl, hA0⟩) (Or.inr ⟨rfl, hB0⟩) (by rw [if_pos hA0])) (fun o2 c2 ho => ?_)
        have hfin := tail [] s (by rw [nil]; exact hV0) (fun q hq => absurd hq List.not_mem_nil) (fun w => absurd hA0 w) (lenc (Or.inl hA0)) 0 (by omega) o2 c2 (by rw [nil]; exact ho)
        exact ⟨by have := hfin.1; omega, hfin.2⟩
      · refine xo_m (o_jtail hV0 ht hla hlb (A := bod a) (B := bod b) (Or.inr ⟨rfl, hA0⟩) (Or.inl ⟨rfl, hB0⟩) (by rw [if_pos hA0])) (fun o2 c2 ho => ?_)
        have hfin := tail [] s (by rw [nil]; exact hV0) (fun q hq => absurd hq List.not_mem_nil) (fun w => absurd hA0 w) (lenc (Or.inl hA0)) 0 (by omega) o2 c2 (by rw [nil]; exact ho)
        exact ⟨by have := hfin.1; omega, hfin.2⟩
    · refine xo_rd (bod b) rfl (by omega) (by omega) ?_
      rw [hC.2.2.2.1 _ hBl]
      refine xo_if (fun hB0 => ?_) (fun hB0 => ?_)
      · refine xo_m (o_jtail hV0 ht hla hlb (A := bod a) (B := bod b) (Or.inl ⟨rfl, hA0⟩) (Or.inr ⟨rfl, hB0⟩) (by rw [if_neg hA0])) (fun o2 c2 ho => ?_)
        have hfin := tail [] s (by rw [nil]; exact hV0) (fun q hq => absurd hq List.not_mem_nil) (fun _ w => absurd hB0 w) (lenc (Or.inr hB0)) 0 (by omega) o2 c2 (by rw [nil]; exact ho)
        exact ⟨by have := hfin.1; omega, hfin.2⟩
      · have key : True := trivial
        have eAB : e_eq z x y (bod a) (bod b) := by
          have h1 := T.s1 (bod a)
          have h2 := T.s1 (bod b)
          have h3 := T.s1 p.1
          have h4 := T.s1 p.2
          rw [A2] at h1
          rw [B2] at h2
          rw [ea] at h3
          rw [eb] at h4
          exact E.1.2.2 _ _ _ h1 (E.1.2.2 _ _ _ (E.1.2.1 _ _ h3) (E.1.2.2 _ _ _ pE (E.1.2.2 _ _ _ h4 (E.1.2.1 _ _ h2))))
        have hne : bod a ≠ bod b := fun w => hab (by rw [← A2, ← B2, w])
        have hcT : CTr s := by
          obtain ⟨q1, q2, -⟩ := v6
          exact ⟨⟨q1.1, q1.2.1, Nat.zero_le _⟩, ⟨q2.1, q2.2.1, Nat.zero_le _⟩, v4, ⟨v1.1, v1.2.1, Nat.zero_le _⟩, ⟨v2.1, v2.2.1, Nat.zero_le _⟩, ⟨v3.1, v3.2.1, Nat.zero_le _⟩⟩
        refine xo_b (fun o c => c + 2 * LTr s ≤ 2 * LTr o.2 ∧ ((o.1 = 0 ∧ e_bad z x y ∧ CTr o.2) ∨ (o.1 = 1 ∧ a_go z (bod a) (bod b) ∧ TV o.2 z f bod hit (P ++ List.zipWith (fun q q2 => (q.2, q2.2)) (a_fl z (bod a)) (a_fl z (bod b)))))) ?_ (fun o c g => ?_)
        · unfold m_Tr_pairParts
          refine xo_rd (bod a) rfl (by omega) (by omega) ?_
          rw [hC.2.2.2.1 _ hAl]
          refine xo_if (fun e4 => ?_) (fun e4 => ?_)
          · exact xo_p ⟨by show 0 + 2 * LTr s ≤ 2 * LTr s; omega, Or.inl ⟨rfl, ⟨_, _, A1, B1, hA0, hB0, eAB, fun w => hne (w.2.2.2 e4)⟩, hcT⟩⟩
          · refine xo_b _ (o_shape hn hC hw A1 B1) (fun o c g => ?_)
            obtain ⟨rfl, g⟩ := g
            rcases g with ⟨rfl, g⟩ | ⟨rfl, g⟩
            · rw [if_neg (by decide)]
              have hgo : a_go z (bod a) (bod b) := ⟨g.1, g.2.1, g.2.2, fun w => absurd w e4⟩
              have hl := a_go_len hgo
              have hcb := T.c
              have hle : (a_fl z (bod a)).length ≤ sumf (fun r => if pb (al z r ∧ R r = r) then (a_fl z (bod r)).length else 0) (a_t z) := by
                have h1 := sumf_mono (f := fun r => if pb (al z r ∧ R r = r) then (a_fl z (bod r)).length else 0) (show a + 1 ≤ a_t z from hla)
                rw [sumf_s] at h1
                have h2 : (if pb (al z a ∧ R a = a) = true then (a_fl z (bod a)).length else 0) = (a_fl z (bod a)).length := by rw [pb_t ⟨ala, raa⟩]; rfl
                have h3 : sumf (fun r => if pb (al z r ∧ R r = r) then (a_fl z (bod r)).length else 0) a + (if pb (al z a ∧ R a = a) = true then (a_fl z (bod a)).length else 0) ≤ sumf (fun r => if pb (al z r ∧ R r = r) then (a_fl z (bod r)).length else 0) (a_t z) := h1
                omega
              have hh := o_ppartsL (n := n) hC hw A1 B1 hl (f := f) (bod := bod) (hit := hit) (P := P) (by omega) n 0 s (by omega) (Nat.zero_le _) (by rw [List.take_zero, nil]; exact hV0)
              rw [← nI0] at hh
              refine xo_b _ hh (fun o c g => ?_)
              exact xo_p ⟨by have := g.2; show 0 + (c + 0) + 2 * LTr s ≤ 2 * LTr o.2; omega, Or.inr ⟨rfl, hgo, g.1⟩⟩
            · rw [if_pos rfl]
              exact xo_p ⟨by show 0 + 0 + 2 * LTr s ≤ 2 * LTr s; omega, Or.inl ⟨rfl, ⟨_, _, A1, B1, hA0, hB0, eAB, fun w => g ⟨w.1, w.2.1, w.2.2.1⟩⟩, hcT⟩⟩
        · obtain ⟨gd, g⟩ := g
          rcases g with ⟨e5, g1, g2⟩ | ⟨e5, hgo, g1⟩
          · rw [e5, if_pos rfl]
            exact xo_p ⟨by show c + 0 + 2 * LTr s ≤ 2 * LTr o.2; omega, Or.inl ⟨rfl, g1, g2⟩⟩
          · rw [e5, if_neg (by decide)]
            refine xo_m (o_jtail g1 ht hla hlb (A := bod a) (B := bod b) (Or.inl ⟨rfl, hA0⟩) (Or.inl ⟨rfl, hB0⟩) (by rw [if_neg hA0])) (fun o2 c2 ho => ?_)
            have h3 : a_kd z (bod a) = 3 ∨ a_fl z (bod a) = [] := by
              rcases hw.2.1 _ A1 with w | w | w | w | w
              · exact absurd w hA0
              · exact Or.inr ((hw.2.2.2.2.1 _ A1).1 (Or.inr (Or.inl w)))
              · exact Or.inr ((hw.2.2.2.2.1 _ A1).1 (Or.inr (Or.inr w)))
              · exact Or.inl w
              · exact absurd (hgo.2.2.2 w) hne
            have hfin := tail _ o.2 g1 (fun q hq => ?_) (fun _ _ => ⟨hgo, fun m q q2 hq hq2 => ?_⟩) ?_ c gd o2 c2 ho
            · exact ⟨by have := hfin.1; omega, hfin.2⟩
            · obtain ⟨m, hm⟩ := List.getElem?_of_mem hq
              rw [List.getElem?_zipWith] at hm
              cases ha : (a_fl z (bod a))[m]? with
              | none => rw [ha] at hm; simp at hm
              | some qa =>
                cases hb : (a_fl z (bod b))[m]? with
                | none => rw [ha, hb] at hm; simp at hm
                | some qb =>
                  rw [ha, hb] at hm
                  have hm2 : (qa.2, qb.2) = q := Option.some.inj hm
                  rw [← hm2]
                  rcases h3 with w | w
                  · exact ⟨(hw.2.2.2.2.1 _ A1).2.2 qa (List.mem_of_getElem? ha), (hw.2.2.2.2.1 _ B1).2.2 qb (List.mem_of_getElem? hb), E.2.2.2 _ _ m qa qb A1 B1 w eAB hgo ha hb⟩
                  · rw [w] at ha; simp at ha
            · refine List.mem_of_getElem? (i := m) ?_
              rw [List.getElem?_zipWith, hq, hq2]
            · rw [if_neg hA0, List.length_zipWith, a_go_len hgo, Nat.min_self]
              exact Nat.le_refl _
