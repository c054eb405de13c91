/-! part, touched, need -/
/-- a row's place of a feature is one -/
theorem nodup_at {l : List (Int32 × Nat)} (h : (l.map Prod.fst).Nodup) {i j : Nat} {a b : Int32 × Nat} (ha : l[i]? = some a) (hb : l[j]? = some b) (e : a.1 = b.1) : i = j := by
  have h1 : (l.map Prod.fst)[i]? = some a.1 := by rw [List.getElem?_map, ha]; rfl
  have h2 : (l.map Prod.fst)[j]? = some a.1 := by rw [List.getElem?_map, hb, e]; rfl
  obtain ⟨l1, e1⟩ := List.getElem?_eq_some_iff.mp h1
  obtain ⟨l2, e2⟩ := List.getElem?_eq_some_iff.mp h2
  exact (List.getElem_inj (h₀ := l1) (h₁ := l2) h).mp (e1.trans e2.symm)
def spi_part (F : FS) (p f r : Int32) : Prop := ((∀ x, ¬ a_is (f_z F) p x) ∧ r = -1) ∨ ∃ x b, a_is (f_z F) p x ∧ a_bd (f_z F) x b ∧ ((f ∉ (a_fl (f_z F) b).map Prod.fst ∧ r = -1) ∨ ∃ (j : Nat) (q : Int32 × Nat), (a_fl (f_z F) b)[j]? = some q ∧ q.1 = f ∧ r = nI (a_ld (f_z F) q.2))
theorem ok_part {F : FS} {c : Nat} (h : FI F c) {p f r r2 : Int32} (h1 : spi_part F p f r) (h2 : spi_part F p f r2) : r = r2 := by
  have hw := h.1
  have hb := h.2.2.2.2.1
  rcases h1 with ⟨a, e1⟩ | ⟨x, b, a1, a2, a3⟩ <;> rcases h2 with ⟨a', e2⟩ | ⟨x', b', b1, b2, b3⟩
  · rw [e1, e2]
  · exact absurd b1 (a x')
  · exact absurd a1 (a' x)
  · have := a_is_inj hw (by omega) a1 b1
    subst this
    have hf := (a_bd_eq hw a2 b2).2.2.1
    rcases a3 with ⟨n1, e1⟩ | ⟨j, q, c1, c2, e1⟩ <;> rcases b3 with ⟨n2, e2⟩ | ⟨j', q', d1, d2, e2⟩
    · rw [e1, e2]
    · exact absurd (hf ▸ List.mem_map.mpr ⟨q', List.mem_of_getElem? d1, d2⟩) n1
    · exact absurd (hf.symm ▸ List.mem_map.mpr ⟨q, List.mem_of_getElem? c1, c2⟩) n2
    · obtain ⟨q2, g1, g2, g3⟩ := a_fl_at hw a2 b2 c1
      have := nodup_at (hw.2.2.2.2.1 b' b2.1).2.1 g1 d1 (g2.trans (c2.trans d2.symm))
      subst this
      rw [g1] at d1
      cases d1
      rw [e1, e2, g3]
theorem c_part {n : Nat} (hn : 100000 ≤ n) {s : S_Ts} {F : FS} {c : Nat} (hC : CT s F) (hF : FI F c) {p f : Int32} : xo (m_Ts_part n s p f) (fun o d => d = 0 ∧ spi_part F p f o) := by
  obtain ⟨⟨st, bd, lw, h1⟩, -⟩ := hC
  have hw := hF.1
  unfold m_Ts_part
  rcases o_has (n := n) h1 hw p with ⟨x, hx, e⟩ | ⟨hx, e⟩
  · rw [e, xm_b_p, if_neg (by decide), hx.1]
    refine xo_b _ (o_placeOf hn h1 hw hx.2 (f := f)) (fun o d g => ?_)
    obtain ⟨rfl, b, hb, g⟩ := g
    rcases g with ⟨rfl, g⟩ | ⟨j, q, g1, g2, rfl⟩
    · rw [if_pos rfl]
      exact xo_p ⟨rfl, Or.inr ⟨x, b, ⟨rfl, hx.2⟩, hb, Or.inl ⟨g, rfl⟩⟩⟩
    · have h8 := h1.2.2.2.2.2.2.2.2.2.2.1 _ hb.1
      have hu := h1.2.2.2.2.2.2.2.2.2.2.2.2.2.2.2
      have hj := (List.getElem?_eq_some_iff.mp g1).1
      rw [if_neg (fun e => by
        have h0 := nI_pos' (n := st b + j) (by omega)
        rw [e] at h0
        exact absurd h0 (by decide)), o_partLeader h1 hw hb.1 g1, xm_b_p]
      exact xo_p ⟨rfl, Or.inr ⟨x, b, ⟨rfl, hx.2⟩, hb, Or.inr ⟨j, q, g1, g2, rfl⟩⟩⟩
  · rw [e, xm_b_p, if_pos rfl]
    exact xo_p ⟨rfl, Or.inl ⟨hx, rfl⟩⟩
theorem r_part {n : Nat} (hn : 100000 ≤ n) {m : S_Md} {F : FS} {c : Nat} (hC : RM m F) (hF : FI F c) {p f : Int32} : xo (m_Md_part n m p f) (fun o d => d = 0 ∧ spi_part F p f o) := by
  obtain ⟨h1, ⟨st, h2⟩, -⟩ := hC
  have hw := hF.1
  have hb0 := hF.2.2.2.2.1
  obtain ⟨l1, l2, l3, l4, l5, l6, l7, l8⟩ := r_lens h1
  unfold m_Md_part
  refine xo_b _ (r_field hn h1 h2 hw (by omega) (by omega) (p := p) (f := f)) (fun o d g => ?_)
  obtain ⟨rfl, g⟩ := g
  rcases g with ⟨rfl, g⟩ | ⟨x, b, hx, hb, g⟩
  · rw [if_pos rfl]
    exact xo_p ⟨rfl, Or.inl ⟨g, rfl⟩⟩
  · rcases g with ⟨rfl, g⟩ | ⟨j, q, g1, g2, rfl⟩
    · rw [if_pos rfl]
      exact xo_p ⟨rfl, Or.inr ⟨x, b, hx, hb, Or.inl ⟨g, rfl⟩⟩⟩
    · have h6 := h2.2.2.2.2.2.2.1 b hb.1
      have hj := (List.getElem?_eq_some_iff.mp g1).1
      have hq := (hw.2.2.2.2.1 b hb.1).2.2 q (List.mem_of_getElem? g1)
      have hql := al_lt hw hq
      rw [if_neg (fun e => by
        have h0 := nI_pos' (n := st b + j) (by omega)
        rw [e] at h0
        exact absurd h0 (by decide))]
      refine xo_rd _ rfl (by omega) (by omega) ?_
      rw [(h2.2.2.2.2.2.2.2.1 b j hb.1 q g1).2]
      refine xo_rd _ rfl (by omega) (by omega) ?_
      rw [h2.2.2.2.2.2.1 _ hq]
      exact xo_p ⟨rfl, Or.inr ⟨x, b, hx, hb, Or.inr ⟨j, q, g1, g2, rfl⟩⟩⟩
def spi_touched (F : FS) (p r : Int32) : Prop := ((∀ k x, (f_to F)[k]? = some x → p ≠ nI k) ∧ r = -1) ∨ ∃ k x, p = nI k ∧ (f_to F)[k]? = some x ∧ r = nI x
theorem ok_touched {F : FS} {c : Nat} (h : FI F c) {p r r2 : Int32} (h1 : spi_touched F p r) (h2 : spi_touched F p r2) : r = r2 := by
  have hb := h.2.2.2.2.1
  rcases h1 with ⟨a, e1⟩ | ⟨k, x, a1, a2, e1⟩ <;> rcases h2 with ⟨b, e2⟩ | ⟨k', x', b1, b2, e2⟩
  · rw [e1, e2]
  · exact absurd b1 (a k' x' b2)
  · exact absurd a1 (b k x a2)
  · have l1 := (List.getElem?_eq_some_iff.mp a2).1
    have l2 := (List.getElem?_eq_some_iff.mp b2).1
    have : k = k' := (nI_eq (by omega) (by omega)).mp (a1.symm.trans b1)
    subst this
    rw [a2] at b2
    cases b2
    rw [e1, e2]
theorem o_numbered {n : Nat} {s : S_Ld} {to : List Nat} (h : CW s to) (p : Int32) : xo (m_Ld_numbered n s p) (fun o d => d = 0 ∧ (((∀ k x, to[k]? = some x → p ≠ nI k) ∧ o = -1) ∨ ∃ k x, p = nI k ∧ to[k]? = some x ∧ o = nI x)) := by
  obtain ⟨h1, h2, h3, h4⟩ := h
  have hl := h1.2.2
  unfold m_Ld_numbered
  have lt : ∀ k x, to[k]? = some x → k < to.length := fun k x hx => (List.getElem?_eq_some_iff.mp hx).1
  refine xo_if (fun q => ?_) (fun q => ?_)
  · exact xo_p ⟨rfl, Or.inl ⟨fun k x hx e => by have := lt k x hx; exact nI_pos (n := k) (by omega) (e ▸ q), rfl⟩⟩
  · obtain ⟨k, hk, rfl⟩ := nI_of q
    refine xo_le to.length k h2 rfl (by omega) (by omega) (fun q2 => ?_) (fun q2 => ?_)
    · refine xo_p ⟨rfl, Or.inl ⟨fun j x hx e => ?_, rfl⟩⟩
      have := lt j x hx
      have := (nI_eq (by omega) (by omega)).mp e
      omega
    · have hg : to[k]? = some to[k] := List.getElem?_eq_getElem q2
      refine xo_rd k rfl (by omega) (by omega) ?_
      exact xo_p ⟨rfl, Or.inr ⟨k, _, rfl, hg, h4 k _ hg⟩⟩
theorem c_touched {n : Nat} {s : S_Ts} {F : FS} (hC : CT s F) {p : Int32} : xo (m_Ts_touched n s p) (fun o d => d = 0 ∧ spi_touched F p o) := by
  unfold m_Ts_touched
  refine xo_b _ (o_numbered hC.2.2.2.2.1 p) (fun o d g => ?_)
  exact xo_p ⟨by have := g.1; omega, g.2⟩
theorem r_touched {n : Nat} {m : S_Md} {F : FS} (hC : RM m F) {p : Int32} : xo (m_Md_touched n m p) (fun o d => d = 0 ∧ spi_touched F p o) := by
  obtain ⟨h1, h2, h3⟩ := hC.2.2.2.2.2
  have l := hC.1.2.2.1.1
  unfold m_Md_touched
  have lt : ∀ k x, (f_to F)[k]? = some x → k < (f_to F).length := fun k x hx => (List.getElem?_eq_some_iff.mp hx).1
  refine xo_if (fun q => ?_) (fun q => ?_)
  · exact xo_p ⟨rfl, Or.inl ⟨fun k x hx e => by have := lt k x hx; exact nI_pos (n := k) (by omega) (e ▸ q), rfl⟩⟩
  · obtain ⟨k, hk, rfl⟩ := nI_of q
    refine xo_lt k (f_to F).length rfl h1 (by omega) (by omega) (fun q2 => ?_) (fun q2 => ?_)
    · have hg : (f_to F)[k]? = some (f_to F)[k] := List.getElem?_eq_getElem q2
      refine xo_rd k rfl (by omega) (by omega) ?_
      exact xo_p ⟨rfl, Or.inr ⟨k, _, rfl, hg, h3 k _ hg⟩⟩
    · refine xo_p ⟨rfl, Or.inl ⟨fun j x hx e => ?_, rfl⟩⟩
      have := lt j x hx
      have := (nI_eq (by omega) (by omega)).mp e
      omega
def sp_need (F : FS) (p r : Int32) (F' : FS) : Prop := (∃ x, a_is (f_z F) p x ∧ ¬ a_nd (f_z F) (f_nd F) x ∧ r = 1 ∧ F' = (f_z F, fun i => i = a_ld (f_z F) x ∨ f_nd F i, f_mk F, f_pu F, [a_ld (f_z F) x])) ∨ ((∀ x, a_is (f_z F) p x → a_nd (f_z F) (f_nd F) x) ∧ sp_same F 0 r F')
theorem ok_need {F : FS} {c : Nat} (h : FI F c) (hc : c < 512) {p : Int32} : spOk F c (sp_need F p) := by
  have hb := h.2.2.2.2.1
  refine ⟨fun r r2 F1 F2 g1 g2 => ?_, fun r F1 g => ?_⟩
  · rcases g1 with ⟨x, a1, a2, a3, a4⟩ | ⟨a, a3, a4⟩ <;> rcases g2 with ⟨y, b1, b2, b3, b4⟩ | ⟨b, b3, b4⟩
    · have := a_is_inj h.1 (by omega) a1 b1
      subst this
      exact ⟨a3.trans b3.symm, a4.trans b4.symm⟩
    · exact absurd (b x a1) a2
    · exact absurd (a y b1) b2
    · exact ⟨a3.trans b3.symm, a4.trans b4.symm⟩
  · rcases g with ⟨x, a1, a2, a3, rfl⟩ | ⟨-, g⟩
    · obtain ⟨h1, h2, h3, h4, h5, h6⟩ := h
      have := al_lt h1 a1.2
      exact ⟨h1, h2, h3, h4, ⟨by show a_t (f_z F) ≤ c + 1; omega, by show a_sum (f_z F) + (f_pu F).length ≤ c + 1; omega, by show 1 ≤ c + 1; omega, by omega⟩, h6⟩
    · rw [g.2]; exact FI_up h hc
theorem o_append {n : Nat} {s : S_Ld} {to : List Nat} {x : Nat} (h : CW s to) (hl : to.length < 512) : xo (m_Ld_append n s (nI x)) (fun o d => CW o (to ++ [x]) ∧ d + 2 * (Ld_row s).1 ≤ 2 * (Ld_row o).1) := by
  obtain ⟨h1, h2, h3, h4⟩ := h
  unfold m_Ld_append
  rw [h2, nI_1]
  refine xo_b _ (o_roomK h1 (m := to.length + 1) (by omega)) (fun a d g => ?_)
  obtain ⟨p1, q1, r1, t1⟩ := g
  have b1 := p1.2.2
  have b2 := h1.2.2
  refine xo_wr to.length rfl (by omega) (by omega) ?_
  refine xo_p ⟨⟨⟨p1.1, p1.2.1, by rw [List.length_append]; exact p1.2.2⟩, by rw [List.length_append]; rfl, by rw [List.length_append]; show to.length + 1 ≤ 512; omega, fun k y hy => ?_⟩, ?_⟩
  · show upd a.2 to.length (nI x) k = nI y
    rw [upd_at]
    by_cases e : k = to.length
    · subst e
      rw [if_pos rfl]
      rw [List.getElem?_append_right (Nat.le_refl _), Nat.sub_self] at hy
      cases hy
      rfl
    · have hk := (List.getElem?_eq_some_iff.mp hy).1
      rw [List.length_append] at hk
      have hk' : k < to.length := by have : k < to.length + 1 := hk; omega
      rw [if_neg e, r1 k (by omega)]
      rw [List.getElem?_append_left hk'] at hy
      exact h4 k y hy
  · show d + 0 + 2 * (Ld_row s).1 ≤ 2 * a.1
    omega
theorem c_need {n : Nat} {s : S_Ts} {F : FS} {c : Nat} (hC : CT s F) (hF : FI F c) {p : Int32} : xoC (m_Ts_need n s p) s (sp_need F p) := by
  have hC0 := hC
  obtain ⟨⟨st, bd, lw, h1⟩, h2, h3, h4, h5, h6, h7⟩ := hC
  have hw := hF.1
  have hb := hF.2.2.2.2.1
  unfold m_Ts_need
  rcases o_has (n := n) h1 hw p with ⟨x, hx, e⟩ | ⟨hx, e⟩
  · rw [e, xm_b_p, if_neg (by decide), hx.1]
    obtain ⟨e1, e2, e3, l1, l2, l3, l4, l5, l6, l7, l8, l9, l10, l11⟩ := o_bd h1 hw hx.2
    rcases o_isNeeded (n := n) h1 h3 hw hx.2 with ⟨hn, e4⟩ | ⟨hn, e4⟩
    · rw [e4, xm_b_p, if_neg (by decide)]
      exact o_same hC0 (Or.inr ⟨fun y hy => by rw [a_is_inj hw (by omega) hy ⟨rfl, hx.2⟩]; exact hn, rfl, rfl⟩)
    · rw [e4, xm_b_p, if_pos rfl, xm_rd_eq (by omega) (by omega), e1]
      refine xo_wr (a_ld (f_z F) x) rfl (by omega) (by omega) ?_
      have he : m_Ld_empty n (Ts_touchedLeaders s) = xm_p (Ld_row (Ts_touchedLeaders s), 0) := rfl
      rw [he, xm_b_p]
      have hW : CW (Ld_row (Ts_touchedLeaders s), 0) [] := ⟨⟨h5.1.1, h5.1.2.1, Nat.zero_le _⟩, nI0, Nat.zero_le _, fun k y hy => absurd hy (by simp)⟩
      refine xo_b _ (o_append (n := n) (x := a_ld (f_z F) x) hW (by show 0 < 512; omega)) (fun o d g => ?_)
      obtain ⟨g1, g2⟩ := g
      refine xo_p ⟨_, Or.inl ⟨x, ⟨rfl, hx.2⟩, hn, rfl, rfl⟩, ⟨⟨st, bd, lw, h1⟩, h2, ⟨?_, ?_⟩, h4, g1, h6, h7⟩, ?_⟩
      · intro r hr hrl hrv
        show upd (No_needed (Ts_nodes s)).2 (a_ld (f_z F) x) 1 r = 1 ↔ r = a_ld (f_z F) x ∨ f_nd F r
        rw [upd_at]
        by_cases e5 : r = a_ld (f_z F) x
        · rw [if_pos e5]
          exact ⟨fun _ => Or.inl e5, fun _ => rfl⟩
        · rw [if_neg e5, h3.1 r hr hrl hrv]
          exact ⟨Or.inr, fun q => q.resolve_left e5⟩
      · intro i hi hiv hin
        have hin' : upd (No_needed (Ts_nodes s)).2 (a_ld (f_z F) x) 1 i = 1 := hin
        show upd (No_needed (Ts_nodes s)).2 (a_ld (f_z F) x) 1 (a_ld (f_z F) i) = 1
        rw [upd_at] at hin' ⊢
        by_cases e5 : a_ld (f_z F) i = a_ld (f_z F) x
        · rw [if_pos e5]
        · rw [if_neg e5]
          have e6 : i ≠ a_ld (f_z F) x := fun q => e5 (by rw [q]; exact (hw.2.2.1 x hx.2).2.2)
          rw [if_neg e6] at hin'
          exact h3.2 i hi hiv hin'
      · show d + 0 + 2 * LTs s ≤ 2 * (LNo (Ts_nodes s) + LPu (Ts_pushed s) + LTr (Ts_trial s) + LLk (Ts_likeness s) + (Ld_row o).1)
        have g2' : d + 2 * (Ld_row (Ts_touchedLeaders s)).1 ≤ 2 * (Ld_row o).1 := g2
        unfold LTs
        omega
  · rw [e, xm_b_p, if_pos rfl]
    exact o_same hC0 (Or.inr ⟨fun y hy => absurd hy (hx y), rfl, rfl⟩)
theorem r_need {n : Nat} (hn : 100000 ≤ n) {m : S_Md} {F : FS} {c : Nat} (hC : RM m F) (hF : FI F c) {p : Int32} : xoM (m_Md_need n m p) m (sp_need F p) := by
  have hC0 := hC
  obtain ⟨h1, ⟨st, h2⟩, h3, h4, h5, h6⟩ := hC
  have hw := hF.1
  have hb := hF.2.2.2.2.1
  obtain ⟨l1, l2, l3, l4, l5, l6, l7, l8⟩ := r_lens h1
  unfold m_Md_need
  rcases r_has (n := n) h1 h2 hw (by omega) p with ⟨x, hx, e⟩ | ⟨hx, e⟩
  · rw [e, xm_b_p, if_neg (by decide), hx.1]
    have hxl := al_lt hw hx.2
    refine xo_b _ (r_isNeeded hn h1 h2 h4 hw (by omega) hx.2) (fun o d g => ?_)
    obtain ⟨rfl, g⟩ := g
    rcases g with ⟨rfl, g⟩ | ⟨rfl, g⟩
    · rw [if_neg (by decide)]
      exact r_sm rfl hC0 (Or.inr ⟨fun y hy => by rw [a_is_inj hw (by omega) hy ⟨rfl, hx.2⟩]; exact g, rfl, rfl⟩)
    · rw [if_pos rfl, nb_1]
      refine xo_wr x rfl (by omega) (by omega) ?_
      refine xo_rd x rfl (by omega) (by omega) ?_
      rw [h2.2.2.2.2.2.1 x hx.2]
      refine xo_wr 0 nI0 (by rw [h1.2.2.1.1]; omega) (by omega) ?_
      refine xo_p ⟨_, Or.inl ⟨x, ⟨rfl, hx.2⟩, g, rfl, rfl⟩, ⟨?_, ⟨st, h2⟩, h3, ⟨?_, ?_⟩, h5, ⟨nI1, by show 1 ≤ 512; omega, ?_⟩⟩, by show 0 + 0 + 2 * LMd m ≤ 2 * LMd m; omega⟩
      · exact h1
      · intro i hi
        show upd (Md_said m).2 x 1 i = 0 ∨ upd (Md_said m).2 x 1 i = 1
        rw [upd_at]
        by_cases e5 : i = x
        · rw [if_pos e5]; exact Or.inr rfl
        · rw [if_neg e5]; exact h4.1 i hi
      · intro r hr hrl hrv
        show (∃ j, al (f_z F) j ∧ a_ld (f_z F) j = r ∧ upd (Md_said m).2 x 1 j = 1) ↔ r = a_ld (f_z F) x ∨ f_nd F r
        have hh := h4.2 r hr hrl hrv
        constructor
        · rintro ⟨j, w1, w2, w3⟩
          rw [upd_at] at w3
          by_cases e5 : j = x
          · subst e5; exact Or.inl w2.symm
          · rw [if_neg e5] at w3
            exact Or.inr (hh.mp ⟨j, w1, w2, w3⟩)
        · rintro (w | w)
          · exact ⟨x, hx.2, w.symm, by rw [upd_at, if_pos rfl]⟩
          · obtain ⟨j, w1, w2, w3⟩ := hh.mpr w
            refine ⟨j, w1, w2, ?_⟩
            rw [upd_at]
            by_cases e5 : j = x
            · rw [if_pos e5]
            · rw [if_neg e5]; exact w3
      · intro k y hy
        show upd (Md_touched m).2 0 (nI (a_ld (f_z F) x)) k = nI y
        have hk : ([a_ld (f_z F) x] : List Nat)[k]? = some y := hy
        have hl := (List.getElem?_eq_some_iff.mp hk).1
        have e5 : k = 0 := by have : k < 1 := hl; omega
        subst e5
        cases hk
        rw [upd_at, if_pos rfl]
  · rw [e, xm_b_p, if_pos rfl]
    exact r_same hC0 (Or.inr ⟨fun y hy => absurd hy (hx y), rfl, rfl⟩)
