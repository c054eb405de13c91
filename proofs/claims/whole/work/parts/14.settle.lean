theorem o_lowL {n : Nat} {s : S_No} {z : AS} {st bd : Nat → Nat} {u lw : Nat} (hC : CN s z st bd u lw) (hw : a_wf z) : ∀ (fuel i : Nat), a_t z - i < fuel → i ≤ a_t z → (∀ j, j < i → al z j) → xo (L_No_lowestFree_5 s n fuel (nI i)) (fun o c => c = 0 ∧ ∃ x, o = nI x ∧ z_least z x) := by
  obtain ⟨⟨k1, -⟩, -, ⟨hT, -⟩, hk, -, -, -, -, -, -, -, -, -, -, ht, -⟩ := hC
  intro fuel
  induction fuel with
  | zero => intro i h; omega
  | succ fuel ih =>
    intro i h1 h2 h3
    rw [L_No_lowestFree_5_s]
    refine xo_le (a_t z) i hT rfl (by omega) (by omega) (fun q => ?_) (fun q => ?_)
    · exact xo_p ⟨rfl, i, rfl, fun e => e (hw.1 i q), h3⟩
    · have hka := k1.2.2
      refine xo_rd i rfl (by omega) (by omega) ?_
      rw [hk i q]
      refine xo_if (fun e => ?_) (fun e => ?_)
      · exact xo_p ⟨rfl, i, rfl, fun e2 => e2 e, h3⟩
      · rw [nI_1]
        refine ih (i + 1) (by omega) (by omega) (fun j hj => ?_)
        by_cases e2 : j = i
        · subst e2; exact e
        · exact h3 j (by omega)
theorem o_low {n : Nat} {s : S_No} {z : AS} {st bd : Nat → Nat} {u lw : Nat} (hn : 100000 ≤ n) (hC : CN s z st bd u lw) (hw : a_wf z) : xo (m_No_lowestFree n s) (fun o c => c = 0 ∧ ∃ x, o = nI x ∧ z_least z x) := by
  unfold m_No_lowestFree
  have hlw := hC.2.2.2.2.2.2.2.2.2.2.2.2.2.1
  have ht := hC.2.2.2.2.2.2.2.2.2.2.2.2.2.2.1
  have hle : lw ≤ a_t z := Nat.le_of_not_lt (fun q => hlw (a_t z) q (hw.1 _ (Nat.le_refl _)))
  rw [hC.2.2.1.2.1]
  refine xo_b _ (o_lowL hC hw n lw (by omega) hle hlw) (fun a c h => ?_)
  obtain ⟨e1, e2⟩ := h
  exact xo_p ⟨by omega, e2⟩
theorem o_makeRoom {n : Nat} {s : S_No} {t m : Nat} (h : ArOk (No_kinds s) t ∧ ArOk (No_values s) t ∧ ArOk (No_starts s) t ∧ ArOk (No_sizes s) t ∧ ArOk (No_lead s) t ∧ ArOk (No_bodies s) t ∧ ArOk (No_needed s) t ∧ ArOk (No_marked s) t) (hm : m ≤ 2048) : xo (m_No_makeRoom n s (nI m)) (fun o c =>
    (ArOk (No_kinds o) m ∧ ArOk (No_values o) m ∧ ArOk (No_starts o) m ∧ ArOk (No_sizes o) m ∧ ArOk (No_lead o) m ∧ ArOk (No_bodies o) m ∧ ArOk (No_needed o) m ∧ ArOk (No_marked o) m) ∧
    (ArOk (No_kinds o) t ∧ ArOk (No_values o) t ∧ ArOk (No_starts o) t ∧ ArOk (No_sizes o) t ∧ ArOk (No_lead o) t ∧ ArOk (No_bodies o) t ∧ ArOk (No_needed o) t ∧ ArOk (No_marked o) t) ∧
    (∀ i, i < t → (No_kinds o).2 i = (No_kinds s).2 i ∧ (No_values o).2 i = (No_values s).2 i ∧ (No_starts o).2 i = (No_starts s).2 i ∧ (No_sizes o).2 i = (No_sizes s).2 i ∧ (No_lead o).2 i = (No_lead s).2 i ∧ (No_bodies o).2 i = (No_bodies s).2 i ∧ (No_needed o).2 i = (No_needed s).2 i ∧ (No_marked o).2 i = (No_marked s).2 i) ∧
    (No_top o = No_top s ∧ No_lowest o = No_lowest s ∧ No_alive o = No_alive s ∧ No_marks o = No_marks s ∧ No_fields o = No_fields s ∧ No_reached o = No_reached s) ∧ c + 2 * LNo s ≤ 2 * LNo o) := by
  obtain ⟨h1, h2, h3, h4, h5, h6, h7, h8⟩ := h
  unfold m_No_makeRoom
  refine xo_b _ (o_roomK h1 hm) (fun a1 c1 g1 => ?_)
  refine xo_b _ (o_roomK h2 hm) (fun a2 c2 g2 => ?_)
  refine xo_b _ (o_roomK h3 hm) (fun a3 c3 g3 => ?_)
  refine xo_b _ (o_roomK h4 hm) (fun a4 c4 g4 => ?_)
  refine xo_b _ (o_roomK h5 hm) (fun a5 c5 g5 => ?_)
  refine xo_b _ (o_roomK h6 hm) (fun a6 c6 g6 => ?_)
  refine xo_b _ (o_roomK h7 hm) (fun a7 c7 g7 => ?_)
  refine xo_b _ (o_roomK h8 hm) (fun a8 c8 g8 => ?_)
  obtain ⟨p1, q1, r1, t1⟩ := g1
  obtain ⟨p2, q2, r2, t2⟩ := g2
  obtain ⟨p3, q3, r3, t3⟩ := g3
  obtain ⟨p4, q4, r4, t4⟩ := g4
  obtain ⟨p5, q5, r5, t5⟩ := g5
  obtain ⟨p6, q6, r6, t6⟩ := g6
  obtain ⟨p7, q7, r7, t7⟩ := g7
  obtain ⟨p8, q8, r8, t8⟩ := g8
  have up : ∀ {x a : Ar}, ArOk x t → ArOk a m → x.1 ≤ a.1 → ArOk a t := fun hx ha hxa => ⟨ha.1, ha.2.1, Nat.le_trans hx.2.2 hxa⟩
  refine xo_p ⟨⟨p1, p2, p3, p4, p5, p6, p7, p8⟩, ⟨up h1 p1 q1, up h2 p2 q2, up h3 p3 q3, up h4 p4 q4, up h5 p5 q5, up h6 p6 q6, up h7 p7 q7, up h8 p8 q8⟩, fun i hi => ⟨r1 i (Nat.lt_of_lt_of_le hi h1.2.2), r2 i (Nat.lt_of_lt_of_le hi h2.2.2), r3 i (Nat.lt_of_lt_of_le hi h3.2.2), r4 i (Nat.lt_of_lt_of_le hi h4.2.2), r5 i (Nat.lt_of_lt_of_le hi h5.2.2), r6 i (Nat.lt_of_lt_of_le hi h6.2.2), r7 i (Nat.lt_of_lt_of_le hi h7.2.2), r8 i (Nat.lt_of_lt_of_le hi h8.2.2)⟩, ⟨rfl, rfl, rfl, rfl, rfl, rfl⟩, ?_⟩
  show c1 + (c2 + (c3 + (c4 + (c5 + (c6 + (c7 + (c8 + 0))))))) + 2 * LNo s ≤ 2 * (a1.1 + a2.1 + a3.1 + a4.1 + a5.1 + a6.1 + a7.1 + a8.1 + (Fi_features (No_fields s)).1 + (Fi_parts (No_fields s)).1 + (Fi_nextFeatures (No_fields s)).1 + (Fi_nextParts (No_fields s)).1 + (Ld_row (No_reached s)).1)
  unfold LNo
  omega
theorem o_vacate {n : Nat} {s : S_No} {x : Nat} (h : ArOk (No_kinds s) (x + 1) ∧ ArOk (No_values s) (x + 1) ∧ ArOk (No_starts s) (x + 1) ∧ ArOk (No_sizes s) (x + 1) ∧ ArOk (No_lead s) (x + 1) ∧ ArOk (No_bodies s) (x + 1) ∧ ArOk (No_needed s) (x + 1) ∧ ArOk (No_marked s) (x + 1)) : xo (m_No_vacate n s (nI x)) (fun o c => c = 0 ∧ o = (((No_kinds s).1, upd (No_kinds s).2 x (-1)), ((No_values s).1, upd (No_values s).2 x 0), ((No_starts s).1, upd (No_starts s).2 x 0), ((No_sizes s).1, upd (No_sizes s).2 x 0), ((No_lead s).1, upd (No_lead s).2 x (nI x)), ((No_bodies s).1, upd (No_bodies s).2 x (nI x)), ((No_needed s).1, upd (No_needed s).2 x 0), ((No_marked s).1, upd (No_marked s).2 x 0), No_top s, No_lowest s, No_alive s, No_marks s, No_fields s, No_reached s)) := by
  obtain ⟨⟨-, b1, h1⟩, ⟨-, b2, h2⟩, ⟨-, b3, h3⟩, ⟨-, b4, h4⟩, ⟨-, b5, h5⟩, ⟨-, b6, h6⟩, ⟨-, b7, h7⟩, ⟨-, b8, h8⟩⟩ := h
  unfold m_No_vacate
  refine xo_wr x rfl (by omega) (by omega) ?_
  refine xo_wr x rfl (by omega) (by omega) ?_
  refine xo_wr x rfl (by omega) (by omega) ?_
  refine xo_wr x rfl (by omega) (by omega) ?_
  refine xo_wr x rfl (by omega) (by omega) ?_
  refine xo_wr x rfl (by omega) (by omega) ?_
  refine xo_wr x rfl (by omega) (by omega) ?_
  refine xo_wr x rfl (by omega) (by omega) ?_
  exact xo_p ⟨rfl, rfl⟩
theorem cnt_add {z : AS} (hw : a_wf z) {x : Nat} {k v : Int32} {f : List (Int32 × Nat)} (hx : z_least z x) (hk : k ≠ -1) : cnt (fun i => decide (a_kd (z_add z x k v f) i ≠ -1)) (a_t (z_add z x k v f)) = cnt (fun i => decide (a_kd z i ≠ -1)) (a_t z) + 1 := by
  have hxt := z_least_le hw hx
  have h0 : a_kd z x = -1 := Decidable.byContradiction hx.1
  have e1 : ∀ i, i ≠ x → (fun i => decide (a_kd z i ≠ -1)) i = (fun i => decide (a_kd (z_add z x k v f) i ≠ -1)) i := by
    intro i hi
    show decide (a_kd z i ≠ -1) = decide ((if i = x then k else a_kd z i) ≠ -1)
    rw [if_neg hi]
  have ef : (fun i => decide (a_kd z i ≠ -1)) x = false := by simp [h0]
  have eg : (fun i => decide (a_kd (z_add z x k v f) i ≠ -1)) x = true := by
    show decide ((if x = x then k else a_kd z x) ≠ -1) = true
    rw [if_pos rfl]
    exact decide_eq_true hk
  show cnt _ (max (a_t z) (x + 1)) = _
  by_cases e : x < a_t z
  · rw [Nat.max_eq_left (by omega)]
    exact cnt_set e ef eg e1
  · have e2 : x = a_t z := by omega
    rw [Nat.max_eq_right (by omega), ← e2]
    show cnt _ x + (if _ then 1 else 0) = _
    rw [eg, cnt_congr (t := x) (fun i hi => (e1 i (by omega)).symm)]
    rfl
theorem o_settle {n : Nat} (hn : 100000 ≤ n) {s : S_No} {z : AS} {st bd : Nat → Nat} {u lw : Nat} {mk : Nat → Bool} {ld : Nat → Nat} {nd : Nat → Prop} (hC : CN s z st bd u lw) (hM : CM s (a_t z) mk ld) (hD : CD s z nd) (hw : a_wf z) (ht : a_t z < 512) {x : Nat} (hx : z_least z x) {k v : Int32} (hk : k = 0 ∨ k = 1 ∨ k = 2 ∨ k = 3 ∨ k = 4) : xo (m_No_settleAt n s (nI x) k v) (fun o c => o.1 = nI x ∧ CN o.2 (z_add z x k v []) (fun i => if i = x then 0 else st i) (fun i => if i = x then x else bd i) u (x + 1) ∧ CM o.2 (a_t (z_add z x k v [])) (fun _ => false) (a_ld (z_add z x k v [])) ∧ CD o.2 (z_add z x k v []) (fun r => r ≠ x ∧ nd r) ∧ No_fields o.2 = No_fields s ∧ No_reached o.2 = No_reached s ∧ c + 2 * LNo s ≤ 2 * LNo o.2) := by
  have hxt := z_least_le hw hx
  have hk1 : k ≠ -1 := by rcases hk with rfl | rfl | rfl | rfl | rfl <;> decide
  obtain ⟨hA, hF, ⟨hT, hL, hV, hU⟩, c1, c2, c3, c4, c5, c6, c7, c8, c9, c10, c11, c12⟩ := hC
  unfold m_No_settleAt
  rw [nI1, nI_add]
  refine xo_b _ (o_makeRoom hA (m := x + 1) (by omega)) (fun o1 d1 g1 => ?_)
  obtain ⟨g1a, g1b, g1c, ⟨g1t, g1l, g1v, g1m, g1f, g1r⟩, g1n⟩ := g1
  have hM1 : CM o1 (a_t z) mk ld := ⟨fun i hi => by rw [(g1c i hi).2.2.2.2.2.2.2]; exact hM.1 i hi, by rw [g1m]; exact hM.2⟩
  refine xo_b _ (o_drop hn (by omega) hM1 (by rw [g1t]; exact hT) g1b.2.2.2.2.2.2.2) (fun o2 d2 g2 => ?_)
  obtain ⟨g2c, g2m, g2l, g2e⟩ := g2
  have hA2 : ArOk (No_marked o2) (x + 1) := by
    obtain ⟨q1, q2, q3⟩ := g1a.2.2.2.2.2.2.2
    exact ⟨by rw [g2l]; exact q1, by rw [g2l]; exact q2, by rw [g2l]; exact q3⟩
  have hg2 : ArOk (No_kinds o2) (x + 1) ∧ ArOk (No_values o2) (x + 1) ∧ ArOk (No_starts o2) (x + 1) ∧ ArOk (No_sizes o2) (x + 1) ∧ ArOk (No_lead o2) (x + 1) ∧ ArOk (No_bodies o2) (x + 1) ∧ ArOk (No_needed o2) (x + 1) ∧ ArOk (No_marked o2) (x + 1) := by
    refine ⟨?_, ?_, ?_, ?_, ?_, ?_, ?_, hA2⟩
    · rw [g2e]; exact g1a.1
    · rw [g2e]; exact g1a.2.1
    · rw [g2e]; exact g1a.2.2.1
    · rw [g2e]; exact g1a.2.2.2.1
    · rw [g2e]; exact g1a.2.2.2.2.1
    · rw [g2e]; exact g1a.2.2.2.2.2.1
    · rw [g2e]; exact g1a.2.2.2.2.2.2.1
  refine xo_b _ (o_vacate hg2) (fun o3 d3 g3 => ?_)
  obtain ⟨g3c, g3e⟩ := g3
  subst g3e
  refine xo_wr x rfl hg2.1.2.2 (by omega) ?_
  refine xo_wr x rfl hg2.2.1.2.2 (by omega) ?_
  have ek : No_kinds o2 = No_kinds o1 := by rw [g2e]
  have ev : No_values o2 = No_values o1 := by rw [g2e]
  have es : No_starts o2 = No_starts o1 := by rw [g2e]
  have ez : No_sizes o2 = No_sizes o1 := by rw [g2e]
  have el : No_lead o2 = No_lead o1 := by rw [g2e]
  have eb : No_bodies o2 = No_bodies o1 := by rw [g2e]
  have en : No_needed o2 = No_needed o1 := by rw [g2e]
  have et : No_top o2 = nI (a_t z) := by rw [g2e]; exact g1t.trans hT
  have ea : No_alive o2 = No_alive s := by rw [g2e]; exact g1v
  have ef : No_fields o2 = No_fields s := by rw [g2e]; exact g1f
  have er : No_reached o2 = No_reached s := by rw [g2e]; exact g1r
  have ht' : a_t (z_add z x k v []) = max (a_t z) (x + 1) := rfl
  have hlt : ∀ i, i < a_t (z_add z x k v []) → i ≠ x → i < a_t z := fun i hi e => by rw [ht'] at hi; omega
  have hal := fun i => z_add_al (z := z) (x := x) (v := v) (f := []) hk1 i
  have old : ∀ i, al (z_add z x k v []) i → i ≠ x → al z i := fun i hi e => ((hal i).mp hi).resolve_left e
  have okm : ∀ {a : Ar} {f : Nat → Int32}, ArOk a (x + 1) → ArOk a (a_t z) → ArOk (a.1, f) (a_t (z_add z x k v [])) := fun h1 h2 => ⟨h1.1, h1.2.1, by rw [ht']; exact Nat.max_le.mpr ⟨h2.2.2, h1.2.2⟩⟩
  refine xo_p ⟨rfl, ⟨?_, ?_, ?_, ?_, ?_, ?_, ?_, ?_, ?_, ?_, ?_, ?_, ?_, ?_, ?_⟩, ⟨?_, ?_⟩, ⟨?_, ?_⟩, ef, er, ?_⟩
  · refine ⟨okm (a := No_kinds o2) (by rw [ek]; exact g1a.1) (by rw [ek]; exact g1b.1), okm (a := No_values o2) (by rw [ev]; exact g1a.2.1) (by rw [ev]; exact g1b.2.1), okm (a := No_starts o2) (by rw [es]; exact g1a.2.2.1) (by rw [es]; exact g1b.2.2.1), okm (a := No_sizes o2) (by rw [ez]; exact g1a.2.2.2.1) (by rw [ez]; exact g1b.2.2.2.1), okm (a := No_lead o2) (by rw [el]; exact g1a.2.2.2.2.1) (by rw [el]; exact g1b.2.2.2.2.1), okm (a := No_bodies o2) (by rw [eb]; exact g1a.2.2.2.2.2.1) (by rw [eb]; exact g1b.2.2.2.2.2.1), okm (a := No_needed o2) (by rw [en]; exact g1a.2.2.2.2.2.2.1) (by rw [en]; exact g1b.2.2.2.2.2.2.1), okm (a := No_marked o2) hA2 ?_⟩
    obtain ⟨q1, q2, q3⟩ := g1b.2.2.2.2.2.2.2
    exact ⟨by rw [g2l]; exact q1, by rw [g2l]; exact q2, by rw [g2l]; exact q3⟩
  · show (ArOk (Fi_features (No_fields o2)) u ∧ ArOk (Fi_parts (No_fields o2)) u ∧ ArOk (Fi_nextFeatures (No_fields o2)) 0 ∧ ArOk (Fi_nextParts (No_fields o2)) 0 ∧ ArOk (Ld_row (No_reached o2)) 0)
    rw [ef, er]
    exact hF
  · refine ⟨?_, rfl, ?_, ?_⟩
    · show (if No_top o2 < nI (x + 1) then nI (x + 1) else No_top o2) = nI (max (a_t z) (x + 1))
      rw [et]
      exact nI_max _ _ (by omega) (by omega)
    · show No_alive o2 + nI 1 = _
      rw [ea, hV, cnt_add hw hx hk1, nI_add]
    · show Fi_used (No_fields o2) = nI u
      rw [ef]
      exact hU
  · intro i hi
    show upd (upd (No_kinds o2).2 x (-1)) x k i = (if i = x then k else a_kd z i)
    rw [upd_at, upd_at]
    by_cases e : i = x
    · rw [if_pos e, if_pos e]
    · rw [if_neg e, if_neg e, if_neg e, ek, (g1c i (hlt i hi e)).1, c1 i (hlt i hi e)]
  · intro i hi
    show upd (upd (No_values o2).2 x 0) x v i = (if i = x then v else a_vl z i)
    rw [upd_at, upd_at]
    by_cases e : i = x
    · rw [if_pos e, if_pos e]
    · rw [if_neg e, if_neg e, if_neg e, ev, (g1c i (al_lt hw (old i hi e))).2.1, c2 i (old i hi e)]
  · intro i hi
    show upd (No_sizes o2).2 x 0 i = nI (if i = x then ([] : List (Int32 × Nat)) else a_fl z i).length
    rw [upd_at]
    by_cases e : i = x
    · rw [if_pos e, if_pos e]; exact nI0
    · rw [if_neg e, if_neg e, ez, (g1c i (hlt i hi e)).2.2.2.1, c3 i (hlt i hi e)]
  · intro i hi
    show upd (No_starts o2).2 x 0 i = nI (if i = x then 0 else st i)
    rw [upd_at]
    by_cases e : i = x
    · rw [if_pos e, if_pos e]; exact nI0
    · rw [if_neg e, if_neg e, es, (g1c i (al_lt hw (old i hi e))).2.2.1, c4 i (old i hi e)]
  · intro i hi
    show upd (No_lead o2).2 x (nI x) i = nI (if i = x then x else a_ld z i)
    rw [upd_at]
    by_cases e : i = x
    · rw [if_pos e, if_pos e]
    · rw [if_neg e, if_neg e, el, (g1c i (hlt i hi e)).2.2.2.2.1, c5 i (hlt i hi e)]
  · intro i hi
    show upd (No_bodies o2).2 x (nI x) i = nI (if i = x then x else bd i) ∧ (if i = x then x else bd i) < max (a_t z) (x + 1)
    rw [upd_at]
    by_cases e : i = x
    · rw [if_pos e, if_pos e]; exact ⟨rfl, by omega⟩
    · have q := c6 i (hlt i hi e)
      rw [if_neg e, if_neg e, eb, (g1c i (hlt i hi e)).2.2.2.2.2.1, q.1]
      exact ⟨rfl, by omega⟩
  · intro r hr hrl
    have hrl' : (if r = x then x else a_ld z r) = r := hrl
    by_cases e : r = x
    · subst e
      refine ⟨?_, ?_, ?_⟩
      · show al _ (if r = r then r else bd r)
        rw [if_pos rfl]; exact (hal r).mpr (Or.inl rfl)
      · show (if (if r = r then r else bd r) = r then r else _) = r
        rw [if_pos rfl, if_pos rfl]
      · intro h0 j hj hjl
        have hjl' : (if j = r then r else a_ld z j) = r := hjl
        by_cases e2 : j = r
        · subst e2
          have h0' : a_kd (z_add z j k v []) (if j = j then j else bd j) = 0 := h0
          rw [if_pos rfl] at h0'
          exact h0'
        · rw [if_neg e2] at hjl'
          exact absurd (hjl' ▸ (hw.2.2.1 j (old j hj e2)).2.1) hx.1
    · rw [if_neg e] at hrl'
      obtain ⟨q1, q2, q3⟩ := c7 r (old r hr e) hrl'
      have eb2 : bd r ≠ x := fun q => hx.1 (q ▸ q1)
      refine ⟨?_, ?_, ?_⟩
      · show al _ (if r = x then x else bd r)
        rw [if_neg e]; exact (hal _).mpr (Or.inr q1)
      · show (if (if r = x then x else bd r) = x then x else a_ld z (if r = x then x else bd r)) = r
        rw [if_neg e, if_neg eb2]; exact q2
      · intro h0 j hj hjl
        have h0' : (if (if r = x then x else bd r) = x then k else a_kd z (if r = x then x else bd r)) = 0 := h0
        rw [if_neg e, if_neg eb2] at h0'
        have hjl' : (if j = x then x else a_ld z j) = r := hjl
        by_cases e2 : j = x
        · rw [if_pos e2] at hjl'; exact absurd hjl'.symm e
        · rw [if_neg e2] at hjl'
          show (if j = x then k else a_kd z j) = 0
          rw [if_neg e2]
          exact q3 h0' j (old j hj e2) hjl'
  · intro i hi
    show (if i = x then 0 else st i) + (if i = x then ([] : List (Int32 × Nat)) else a_fl z i).length ≤ u
    by_cases e : i = x
    · rw [if_pos e, if_pos e]; exact Nat.zero_le _
    · rw [if_neg e, if_neg e]; exact c8 i (old i hi e)
  · intro i m hi q hq
    have hq' : (if i = x then ([] : List (Int32 × Nat)) else a_fl z i)[m]? = some q := hq
    show (Fi_features (No_fields o2)).2 ((if i = x then 0 else st i) + m) = q.1 ∧ (Fi_parts (No_fields o2)).2 ((if i = x then 0 else st i) + m) = nI q.2
    by_cases e : i = x
    · rw [if_pos e] at hq'; simp at hq'
    · rw [if_neg e] at hq'
      rw [ef, if_neg e]
      exact c9 i m (old i hi e) q hq'
  · intro i j hi hj hij
    show (if i = x then 0 else st i) + (if i = x then ([] : List (Int32 × Nat)) else a_fl z i).length ≤ (if j = x then 0 else st j) ∨ (if j = x then 0 else st j) + (if j = x then ([] : List (Int32 × Nat)) else a_fl z j).length ≤ (if i = x then 0 else st i)
    by_cases e : i = x
    · rw [if_pos e, if_pos e]; exact Or.inl (Nat.zero_le _)
    · by_cases e2 : j = x
      · rw [if_pos e2, if_pos e2]; exact Or.inr (Nat.zero_le _)
      · rw [if_neg e, if_neg e, if_neg e2, if_neg e2]
        exact c10 i j (old i hi e) (old j hj e2) hij
  · intro i hi
    by_cases e : i = x
    · exact (hal i).mpr (Or.inl e)
    · exact (hal i).mpr (Or.inr (hx.2 i (by omega)))
  · show max (a_t z) (x + 1) ≤ 512 ∧ u ≤ 512
    exact ⟨by omega, c12.2⟩
  · intro i hi
    show upd (No_marked o2).2 x 0 i = _
    rw [upd_at]
    by_cases e : i = x
    · rw [if_pos e]; rfl
    · rw [if_neg e]; exact (g2m _).1 i (hlt i hi e)
  · show No_marks o2 = _
    rw [(g2m id).2, cnt_false, cnt_false]
  · intro r hr hrl hrv
    have hrl' : (if r = x then x else a_ld z r) = r := hrl
    show upd (No_needed o2).2 x 0 r = 1 ↔ r ≠ x ∧ nd r
    rw [upd_at]
    by_cases e : r = x
    · rw [if_pos e]
      exact ⟨fun q => absurd q (by decide), fun q => absurd e q.1⟩
    · rw [if_neg e] at hrl'
      rw [if_neg e, en, (g1c r (al_lt hw (old r hr e))).2.2.2.2.2.2.1]
      have hv : a_var z r := fun j hj hjl => by
        have hjx : j ≠ x := fun q => hx.1 (q ▸ hj)
        have := hrv j ((hal j).mpr (Or.inr hj)) (by show (if j = x then x else a_ld z j) = r; rw [if_neg hjx]; exact hjl)
        have this' : (if j = x then k else a_kd z j) = 0 := this
        rw [if_neg hjx] at this'
        exact this'
      rw [hD.1 r (old r hr e) hrl' hv]
      exact ⟨fun q => ⟨e, q⟩, fun q => q.2⟩
  · intro i hi hiv hin
    have hin' : upd (No_needed o2).2 x 0 i = 1 := hin
    show upd (No_needed o2).2 x 0 (if i = x then x else a_ld z i) = 1
    rw [upd_at] at hin' ⊢
    by_cases e : i = x
    · rw [if_pos e] at hin'; exact absurd hin' (by decide)
    · have hia := old i hi e
      have hlx : a_ld z i ≠ x := fun q => hx.1 (q ▸ (hw.2.2.1 i hia).2.1)
      have hla := (hw.2.2.1 i hia).2.1
      rw [if_neg e] at hin'
      rw [if_neg e, if_neg hlx]
      rw [en, (g1c i (al_lt hw hia)).2.2.2.2.2.2.1] at hin'
      rw [en, (g1c _ (al_lt hw hla)).2.2.2.2.2.2.1]
      refine hD.2 i hia (fun j hj hjl => ?_) hin'
      have hjx : j ≠ x := fun q => hx.1 (q ▸ hj)
      have := hiv j ((hal j).mpr (Or.inr hj)) (by show (if j = x then x else a_ld z j) = (if i = x then x else a_ld z i); rw [if_neg hjx, if_neg e]; exact hjl)
      have this' : (if j = x then k else a_kd z j) = 0 := this
      rw [if_neg hjx] at this'
      exact this'
  · show d1 + (d2 + (d3 + 0)) + 2 * LNo s ≤ 2 * ((No_kinds o2).1 + (No_values o2).1 + (No_starts o2).1 + (No_sizes o2).1 + (No_lead o2).1 + (No_bodies o2).1 + (No_needed o2).1 + (No_marked o2).1 + (Fi_features (No_fields o2)).1 + (Fi_parts (No_fields o2)).1 + (Fi_nextFeatures (No_fields o2)).1 + (Fi_nextParts (No_fields o2)).1 + (Ld_row (No_reached o2)).1)
    rw [ek, ev, es, ez, el, eb, en, g2l, ef, er]
    unfold LNo at g1n ⊢
    rw [g1f, g1r] at g1n
    omega
