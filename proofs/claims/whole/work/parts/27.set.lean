/-! set -/
def z_set (z : AS) (b j y : Nat) (f : Int32) : AS := (a_t z, a_kd z, a_vl z, a_ld z, fun i => if i = b then (a_fl z b).set j (f, y) else a_fl z i)
theorem z_set_len {z : AS} {b j y : Nat} {f : Int32} (i : Nat) : (a_fl (z_set z b j y f) i).length = (a_fl z i).length := by
  show (if i = b then (a_fl z b).set j (f, y) else a_fl z i).length = _
  by_cases e : i = b
  · rw [if_pos e, List.length_set, e]
  · rw [if_neg e]
theorem z_set_sum {z : AS} {b j y : Nat} {f : Int32} : a_sum (z_set z b j y f) = a_sum z := sumf_congr (fun i _ => z_set_len i)
theorem z_set_at {z : AS} {b j y : Nat} {f : Int32} (i k : Nat) (hj : j < (a_fl z b).length) : (a_fl (z_set z b j y f) i)[k]? = if i = b ∧ k = j then some (f, y) else (a_fl z i)[k]? := by
  show (if i = b then (a_fl z b).set j (f, y) else a_fl z i)[k]? = _
  by_cases e : i = b
  · subst e
    rw [if_pos rfl]
    by_cases e2 : k = j
    · subst e2
      rw [if_pos ⟨rfl, rfl⟩, List.getElem?_set_self hj]
    · rw [if_neg (fun q => e2 q.2), List.getElem?_set_ne (fun q => e2 q.symm)]
  · rw [if_neg e, if_neg (fun q => e q.1)]
theorem z_set_fst {z : AS} {b j y : Nat} {q : Int32 × Nat} (hq : (a_fl z b)[j]? = some q) (i : Nat) : (a_fl (z_set z b j y q.1) i).map Prod.fst = (a_fl z i).map Prod.fst := by
  have hj := (List.getElem?_eq_some_iff.mp hq).1
  apply List.ext_getElem?
  intro k
  rw [List.getElem?_map, List.getElem?_map, z_set_at i k hj]
  by_cases e : i = b ∧ k = j
  · rw [if_pos e, e.1, e.2, hq]; rfl
  · rw [if_neg e]
theorem z_set_wf {z : AS} (h : a_wf z) {b j y : Nat} {q : Int32 × Nat} (hb : al z b) (hk : a_kd z b = 4) (hq : (a_fl z b)[j]? = some q) (hy : al z y) : a_wf (z_set z b j y q.1) := by
  obtain ⟨h1, h2, h3, h4, h5, h6, h7, h8⟩ := h
  have hj := (List.getElem?_eq_some_iff.mp hq).1
  refine ⟨h1, h2, h3, ?_, ?_, h6, ?_, h8⟩
  · intro i hi
    have e : i ≠ b := fun q => hi (q ▸ hb)
    refine ⟨(h4 i hi).1, ?_⟩
    show (if i = b then _ else a_fl z i) = []
    rw [if_neg e]
    exact (h4 i hi).2
  · intro i hi
    refine ⟨fun hk0 => ?_, by rw [z_set_fst hq]; exact (h5 i hi).2.1, fun w hw => ?_⟩
    · have e : i ≠ b := fun q2 => by
        have hk0' : a_kd z i = 0 ∨ a_kd z i = 1 ∨ a_kd z i = 2 := hk0
        rw [q2, hk] at hk0'
        exact absurd hk0' (by decide)
      show (if i = b then _ else a_fl z i) = []
      rw [if_neg e]
      exact (h5 i hi).1 hk0
    · obtain ⟨k, hk2⟩ := List.getElem?_of_mem hw
      rw [z_set_at i k hj] at hk2
      by_cases e : i = b ∧ k = j
      · rw [if_pos e] at hk2
        cases hk2
        exact hy
      · rw [if_neg e] at hk2
        exact (h5 i hi).2.2 w (List.mem_of_getElem? hk2)
  · intro i i2 hi hi2 hk1 hk2 hl
    obtain ⟨⟨g1, g2, g3, g4⟩, g5⟩ := h7 i i2 hi hi2 hk1 hk2 hl
    by_cases e : i = b
    · have e2 := g4 (by rw [e]; exact hk)
      subst e2
      exact ⟨⟨rfl, rfl, rfl, fun _ => rfl⟩, rfl⟩
    · by_cases e2 : i2 = b
      · have := g4 (by rw [g1, e2]; exact hk)
        exact absurd (this.trans e2) e
      · refine ⟨⟨g1, g2, by rw [z_set_fst hq, z_set_fst hq]; exact g3, g4⟩, ?_⟩
        show (if i = b then _ else a_fl z i).map _ = (if i2 = b then _ else a_fl z i2).map _
        rw [if_neg e, if_neg e2]
        exact g5
def sp_set (F : FS) (p f v r : Int32) (F' : FS) : Prop :=
  (∃ (x b y j : Nat) (q : Int32 × Nat), a_is (f_z F) p x ∧ a_is (f_z F) v y ∧ a_bd (f_z F) x b ∧ a_kd (f_z F) b = 4 ∧ (a_fl (f_z F) b)[j]? = some q ∧ q.1 = f ∧ r = nI (a_ld (f_z F) q.2) ∧ F' = (z_set (f_z F) b j y f, f_nd F, fun _ => false, f_pu F, f_to F)) ∨
  (¬ (∃ (x b y j : Nat) (q : Int32 × Nat), a_is (f_z F) p x ∧ a_is (f_z F) v y ∧ a_bd (f_z F) x b ∧ a_kd (f_z F) b = 4 ∧ (a_fl (f_z F) b)[j]? = some q ∧ q.1 = f) ∧ sp_same F (-1) r F')
theorem ok_set {F : FS} {c : Nat} (h : FI F c) (hc : c < 512) {p f v : Int32} : spOk F c (sp_set F p f v) := by
  have hb0 := h.2.2.2.2.1
  have hw := h.1
  refine ⟨fun r r2 F1 F2 g1 g2 => ?_, fun r F1 g => ?_⟩
  · rcases g1 with ⟨x, b, y, j, q, a1, a2, a3, a4, a5, a6, a7, a8⟩ | ⟨a, a7, a8⟩ <;> rcases g2 with ⟨x', b', y', j', q', b1, b2, b3, b4, b5, b6, b7, b8⟩ | ⟨nb, b7, b8⟩
    · have e1 := a_is_inj hw (by omega) a1 b1
      have e2 := a_is_inj hw (by omega) a2 b2
      subst e1; subst e2
      have e3 := (a_bd_eq hw a3 b3).2.2.2.2 a4
      subst e3
      have e4 := nodup_at (hw.2.2.2.2.1 b a3.1).2.1 a5 b5 (a6.trans b6.symm)
      subst e4
      rw [a5] at b5
      cases b5
      exact ⟨a7.trans b7.symm, a8.trans b8.symm⟩
    · exact absurd ⟨x, b, y, j, q, a1, a2, a3, a4, a5, a6⟩ nb
    · exact absurd ⟨x', b', y', j', q', b1, b2, b3, b4, b5, b6⟩ a
    · exact ⟨a7.trans b7.symm, a8.trans b8.symm⟩
  · rcases g with ⟨x, b, y, j, q, a1, a2, a3, a4, a5, rfl, a7, rfl⟩ | ⟨-, g⟩
    · obtain ⟨h1, h2, h3, h4, h5, h6, h7, h8⟩ := h
      exact ⟨z_set_wf h1 a3.1 a4 a5 a2.2, h2, h3, h4, ⟨by show a_t (f_z F) ≤ c + 1; omega, by show a_sum (z_set _ _ _ _ _) + (f_pu F).length ≤ c + 1; rw [z_set_sum]; omega, by show (f_to F).length ≤ c + 1; omega, by omega⟩, fun i hi => absurd hi (by simp), fun i j hi => absurd hi (by simp), fun i q hi => absurd hi (by simp)⟩
    · rw [g.2]; exact FI_up h hc
theorem c_set {n : Nat} (hn : 100000 ≤ n) {s : S_Ts} {F : FS} {c : Nat} (hC : CT s F) (hF : FI F c) {p f v : Int32} : xoC (m_Ts_set n s p f v) s (sp_set F p f v) := by
  have hC0 := hC
  obtain ⟨⟨st, bd, lw, h1⟩, h2, h3, h4, h5, h6, h7⟩ := hC
  have hw := hF.1
  have hb0 := hF.2.2.2.2.1
  unfold m_Ts_set
  rcases o_has (n := n) h1 hw p with ⟨x, hx, e⟩ | ⟨hx, e⟩
  · rw [e, xm_b_p, if_neg (by decide)]
    rcases o_has (n := n) h1 hw v with ⟨y, hy, e2⟩ | ⟨hy, e2⟩
    · rw [e2, xm_b_p, if_neg (by decide), hx.1, hy.1]
      obtain ⟨b0, hb, ek⟩ := o_kindOf (n := n) h1 hw hx.2
      rw [ek, xm_b_p]
      refine xo_if (fun k4 => ?_) (fun k4 => ?_)
      · refine xo_b _ (o_placeOf hn h1 hw hx.2 (f := f)) (fun o d g => ?_)
        obtain ⟨rfl, b, hb', g⟩ := g
        have eb := (a_bd_eq hw hb hb').2.2.2.2 k4
        subst eb
        rcases g with ⟨rfl, g⟩ | ⟨j, q, g1, rfl, rfl⟩
        · rw [if_pos rfl]
          refine xo_p ⟨F, Or.inr ⟨fun ⟨x', b', y', j', q', w1, w2, w3, w4, w5, w6⟩ => ?_, rfl, rfl⟩, hC0, by show 0 + 0 + 2 * LTs s ≤ 2 * LTs s; omega⟩
          have e1 := a_is_inj hw (by omega) w1 ⟨rfl, hx.2⟩
          subst e1
          have e3 := (a_bd_eq hw w3 hb).2.2.2.2 w4
          subst e3
          exact g (List.mem_map.mpr ⟨q', List.mem_of_getElem? w5, w6⟩)
        · have h8 := h1.2.2.2.2.2.2.2.2.2.2.1 _ hb.1
          have hu := h1.2.2.2.2.2.2.2.2.2.2.2.2.2.2.2
          have hj := (List.getElem?_eq_some_iff.mp g1).1
          have hpl := h1.2.1.2.1.2.2
          rw [if_neg (fun e => by
            have h0 := nI_pos' (n := st b0 + j) (by omega)
            rw [e] at h0
            exact absurd h0 (by decide)), o_partLeader h1 hw hb.1 g1, xm_b_p]
          refine xo_wr (st b0 + j) rfl (by omega) (by omega) ?_
          obtain ⟨hA, hFi, hS, c1, c2, c3, c4, c5, c6, c7, c8, c9, c10, c11, c12⟩ := h1
          obtain ⟨s1, es1⟩ : ∃ s1 : S_No, s1 = (No_kinds (Ts_nodes s), No_values (Ts_nodes s), No_starts (Ts_nodes s), No_sizes (Ts_nodes s), No_lead (Ts_nodes s), No_bodies (Ts_nodes s), No_needed (Ts_nodes s), No_marked (Ts_nodes s), No_top (Ts_nodes s), No_lowest (Ts_nodes s), No_alive (Ts_nodes s), No_marks (Ts_nodes s), (Fi_features (No_fields (Ts_nodes s)), ((Fi_parts (No_fields (Ts_nodes s))).1, upd (Fi_parts (No_fields (Ts_nodes s))).2 (st b0 + j) (nI y)), Fi_used (No_fields (Ts_nodes s)), Fi_nextFeatures (No_fields (Ts_nodes s)), Fi_nextParts (No_fields (Ts_nodes s)), Fi_nextUsed (No_fields (Ts_nodes s))), No_reached (Ts_nodes s)) := ⟨_, rfl⟩
          have hM1 : CM s1 (a_t (f_z F)) (f_mk F) (a_ld (f_z F)) := by subst es1; exact h2
          have hT1 : No_top s1 = nI (a_t (f_z F)) := by subst es1; exact hS.1
          have hA1 : ArOk (No_marked s1) (a_t (f_z F)) := by subst es1; exact hA.2.2.2.2.2.2.2
          have hdr := o_drop (n := n) hn (by omega) hM1 hT1 hA1
          rw [es1] at hdr
          refine xo_b _ hdr (fun o2 d2 g2 => ?_)
          obtain ⟨rfl, g3, g4, g5⟩ := g2
          have hD2 : CD o2 (z_set (f_z F) b0 j y q.1) (f_nd F) := by rw [g5]; exact h3
          have hN : CN o2 (z_set (f_z F) b0 j y q.1) st bd (a_sum (z_set (f_z F) b0 j y q.1)) lw := by
            rw [z_set_sum]
            have hmk : ArOk (No_marked o2) (a_t (f_z F)) := ⟨by rw [g4]; exact hA.2.2.2.2.2.2.2.1, by rw [g4]; exact hA.2.2.2.2.2.2.2.2.1, by rw [g4]; exact hA.2.2.2.2.2.2.2.2.2⟩
            rw [g5]
            refine ⟨⟨hA.1, hA.2.1, hA.2.2.1, hA.2.2.2.1, hA.2.2.2.2.1, hA.2.2.2.2.2.1, hA.2.2.2.2.2.2.1, hmk⟩, ⟨hFi.1, ⟨hFi.2.1.1, hFi.2.1.2.1, hFi.2.1.2.2⟩, hFi.2.2⟩, hS, c1, c2, ?_, c4, c5, c6, c7, ?_, ?_, ?_, c11, c12⟩
            · intro i hi
              rw [z_set_len]
              exact c3 i hi
            · intro i hi
              rw [z_set_len]
              exact c8 i hi
            · intro i k hi w hw2
              rw [z_set_at i k hj] at hw2
              show (Fi_features (No_fields (Ts_nodes s))).2 (st i + k) = w.1 ∧ upd (Fi_parts (No_fields (Ts_nodes s))).2 (st b0 + j) (nI y) (st i + k) = nI w.2
              rw [upd_at]
              by_cases e5 : i = b0 ∧ k = j
              · rw [if_pos e5] at hw2
                cases hw2
                rw [e5.1, e5.2, if_pos rfl]
                exact ⟨(c9 b0 j hb.1 q g1).1, rfl⟩
              · rw [if_neg e5] at hw2
                have hk := (List.getElem?_eq_some_iff.mp hw2).1
                have hne : st i + k ≠ st b0 + j := by
                  by_cases e6 : i = b0
                  · subst e6
                    intro w2
                    exact e5 ⟨rfl, by omega⟩
                  · rcases c10 i b0 hi hb.1 e6 with w2 | w2 <;> omega
                rw [if_neg hne]
                exact c9 i k hi w hw2
            · intro i i2 hi hi2 hne
              rw [z_set_len, z_set_len]
              exact c10 i i2 hi hi2 hne
          refine xo_p ⟨_, Or.inl ⟨x, b0, y, j, q, ⟨rfl, hx.2⟩, ⟨rfl, hy.2⟩, hb, k4, g1, rfl, rfl, rfl⟩, ⟨⟨st, bd, lw, hN⟩, g3 _, hD2, h4, h5, h6, h7⟩, ?_⟩
          show 0 + (0 + 0) + 2 * LTs s ≤ 2 * (LNo o2 + LPu (Ts_pushed s) + LTr (Ts_trial s) + LLk (Ts_likeness s) + (Ld_row (Ts_touchedLeaders s)).1)
          have eL : LNo o2 = LNo (Ts_nodes s) := by
            unfold LNo
            rw [g4, g5]
          rw [eL]
          unfold LTs
          omega
      · refine o_same hC0 (Or.inr ⟨fun ⟨x', b', y', j', q', w1, w2, w3, w4, w5, w6⟩ => ?_, rfl, rfl⟩)
        have e1 := a_is_inj hw (by omega) w1 ⟨rfl, hx.2⟩
        subst e1
        exact k4 ((a_bd_eq hw hb w3).1.trans w4)
    · rw [e2, xm_b_p, if_pos rfl]
      exact o_same hC0 (Or.inr ⟨fun ⟨x', b', y', j', q', w1, w2, w3⟩ => hy y' w2, rfl, rfl⟩)
  · rw [e, xm_b_p, if_pos rfl]
    exact o_same hC0 (Or.inr ⟨fun ⟨x', b', y', j', q', w1, w2⟩ => hx x' w1, rfl, rfl⟩)
theorem r_set {n : Nat} (hn : 100000 ≤ n) {m : S_Md} {F : FS} {c : Nat} (hC : RM m F) (hF : FI F c) {p f v : Int32} : xoM (m_Md_set n m p f v) m (sp_set F p f v) := by
  have hC0 := hC
  obtain ⟨h1, ⟨st, h2⟩, h3, h4, h5, h6⟩ := hC
  have hw := hF.1
  have hb0 := hF.2.2.2.2.1
  obtain ⟨l1, l2, l3, l4, l5, l6, l7, l8⟩ := r_lens h1
  unfold m_Md_set
  refine xo_b _ (r_field hn h1 h2 hw (by omega) (by omega) (p := p) (f := f)) (fun o d g => ?_)
  obtain ⟨rfl, g⟩ := g
  rcases g with ⟨rfl, g⟩ | ⟨x, b, hx, hb, g⟩
  · rw [if_pos rfl]
    exact r_sm rfl hC0 (Or.inr ⟨fun ⟨x', b', y', j', q', w1, w2⟩ => g x' w1, rfl, rfl⟩)
  · rcases g with ⟨rfl, g⟩ | ⟨j, q, g1, rfl, rfl⟩
    · rw [if_pos rfl]
      refine r_sm rfl hC0 (Or.inr ⟨fun ⟨x', b', y', j', q', w1, w2, w3, w4, w5, w6⟩ => ?_, rfl, rfl⟩)
      have e1 := a_is_inj hw (by omega) w1 hx
      subst e1
      exact g ((a_bd_eq hw w3 hb).2.2.1 ▸ List.mem_map.mpr ⟨q', List.mem_of_getElem? w5, w6⟩)
    · have h6' := h2.2.2.2.2.2.2.1 b hb.1
      have hj := (List.getElem?_eq_some_iff.mp g1).1
      have hq := (hw.2.2.2.2.1 b hb.1).2.2 q (List.mem_of_getElem? g1)
      have hql := al_lt hw hq
      rw [if_neg (fun e => by
        have h0 := nI_pos' (n := st b + j) (by omega)
        rw [e] at h0
        exact absurd h0 (by decide)), hx.1]
      refine xo_b _ (r_meant hn h1 h2 hw (by omega) hx.2) (fun o d g => ?_)
      obtain ⟨rfl, b2, hb2, rfl⟩ := g
      have hbl2 := al_lt hw hb2.1
      refine xo_rd b2 rfl (by omega) (by omega) ?_
      rw [h2.2.1 b2 (by omega)]
      refine xo_if (fun k4 => ?_) (fun k4 => ?_)
      · have eb := (a_bd_eq hw hb2 hb).2.2.2.2 k4
        subst eb
        rcases r_has (n := n) h1 h2 hw (by omega) v with ⟨y, hy, e2⟩ | ⟨hy, e2⟩
        · rw [e2, xm_b_p, if_neg (by decide), hy.1]
          refine xo_rd _ rfl (by omega) (by omega) ?_
          rw [(h2.2.2.2.2.2.2.2.1 b2 j hb.1 q g1).2]
          refine xo_rd _ rfl (by omega) (by omega) ?_
          rw [h2.2.2.2.2.2.1 _ hq]
          refine xo_wr (st b2 + j) rfl (by omega) (by omega) ?_
          have hu := r_unmark (n := n) (t := a_t (f_z F)) (m := Md_set_parts m ((Md_parts m).1, upd (Md_parts m).2 (st b2 + j) (nI y))) hn (by omega) h2.1.1 h1.1.2.2.2.2.2.1
          refine xo_b _ hu (fun m1 d1 g3 => ?_)
          obtain ⟨rfl, gg, rfl, g0⟩ := g3
          obtain ⟨hS, c1, c2, c3, c4, c5, c6, c7, c8⟩ := h2
          refine xo_p ⟨_, Or.inl ⟨x, b2, y, j, q, ⟨rfl, hx.2⟩, ⟨rfl, hy.2⟩, hb, k4, g1, rfl, rfl, rfl⟩, ⟨?_, ⟨st, ⟨hS.1, hS.2.1, ?_⟩, c1, c2, ?_, ?_, c5, ?_, ?_, ?_⟩, fun i hi => g0 i (al_lt hw hi), h4, h5, h6⟩, by show 0 + (0 + (0 + 0)) + 2 * LMd m ≤ 2 * LMd m; omega⟩
          · exact ⟨⟨h1.1.1, h1.1.2.1, h1.1.2.2.1, h1.1.2.2.2.1, h1.1.2.2.2.2.1, rfl, h1.1.2.2.2.2.2.2⟩, ⟨h1.2.1.1, h1.2.1.2.1, h1.2.1.2.2⟩, h1.2.2⟩
          · rw [z_set_sum]; exact hS.2.2
          · intro i hi
            rw [z_set_len]
            exact c3 i hi
          · intro i hi hne
            refine c4 i hi (fun qe => hne ?_)
            have hl : (a_fl (z_set (f_z F) b2 j y q.1) i).length = (a_fl (f_z F) i).length := z_set_len i
            rw [qe, List.length_nil] at hl
            exact List.length_eq_zero_iff.mp hl
          · intro i hi
            rw [z_set_len, z_set_sum]
            exact c6 i hi
          · intro i k hi w hw2
            have hw3 : (a_fl (z_set (f_z F) b2 j y q.1) i)[k]? = some w := hw2
            rw [z_set_at i k hj] at hw3
            show (Md_features m).2 (st i + k) = w.1 ∧ upd (Md_parts m).2 (st b2 + j) (nI y) (st i + k) = nI w.2
            rw [upd_at]
            by_cases e5 : i = b2 ∧ k = j
            · rw [if_pos e5] at hw3
              cases hw3
              rw [e5.1, e5.2, if_pos rfl]
              exact ⟨(c7 b2 j hb.1 q g1).1, rfl⟩
            · rw [if_neg e5] at hw3
              have hk := (List.getElem?_eq_some_iff.mp hw3).1
              have hne : st i + k ≠ st b2 + j := by
                by_cases e6 : i = b2
                · subst e6
                  intro w2
                  exact e5 ⟨rfl, by omega⟩
                · rcases c8 i b2 hi hb.1 e6 with w2 | w2 <;> omega
              rw [if_neg hne]
              exact c7 i k hi w hw3
          · intro i i2 hi hi2 hne
            rw [z_set_len, z_set_len]
            exact c8 i i2 hi hi2 hne
        · rw [e2, xm_b_p, if_pos rfl]
          exact xo_p ⟨F, Or.inr ⟨fun ⟨x', b', y', j', q', w1, w2, w3⟩ => hy y' w2, rfl, rfl⟩, hC0, by show 0 + (0 + 0) + 2 * LMd m ≤ 2 * LMd m; omega⟩
      · refine xo_p ⟨F, Or.inr ⟨fun ⟨x', b', y', j', q', w1, w2, w3, w4, w5, w6⟩ => ?_, rfl, rfl⟩, hC0, by show 0 + (0 + 0) + 2 * LMd m ≤ 2 * LMd m; omega⟩
        have e1 := a_is_inj hw (by omega) w1 ⟨rfl, hx.2⟩
        subst e1
        exact k4 ((a_bd_eq hw hb2 w3).1.trans w4)
