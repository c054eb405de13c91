/-! paths -/
def a_wk (z : AS) : Nat → Nat → Nat → Option Nat → Prop
  | 0, _, x, r => r = some (a_ld z x)
  | k + 1, w, x, r => (w % 256 = 0 ∧ r = some (a_ld z x)) ∨ (w % 256 ≠ 0 ∧ ∃ b, a_bd z x b ∧ (((a_fl z b).length < w % 256 ∧ r = none) ∨ ∃ q : Int32 × Nat, (a_fl z b)[w % 256 - 1]? = some q ∧ a_wk z k (w / 256) q.2 r))
theorem a_wk_det {z : AS} (hw : a_wf z) : ∀ (k w x y : Nat) (r r2 : Option Nat), al z x → al z y → a_ld z x = a_ld z y → a_wk z k w x r → a_wk z k w y r2 → r = r2 := by
  intro k
  induction k with
  | zero => intro w x y r r2 hx hy hxy h1 h2; unfold a_wk at h1 h2; rw [h1, h2, hxy]
  | succ k ih =>
    intro w x y r r2 hx hy hxy h1 h2
    unfold a_wk at h1 h2
    rcases h1 with ⟨z1, h1⟩ | ⟨z1, b, hb, h1⟩ <;> rcases h2 with ⟨z2, h2⟩ | ⟨z2, c, hc, h2⟩
    · rw [h1, h2, hxy]
    · exact absurd z1 z2
    · exact absurd z2 z1
    · have hc' : a_bd z x c := ⟨hc.1, hc.2.1.trans hxy.symm, fun q => by rw [hxy]; exact hc.2.2 q⟩
      have hl := a_fl_len hw hb hc'
      rcases h1 with ⟨n1, e1⟩ | ⟨q, g1, h1⟩ <;> rcases h2 with ⟨n2, e2⟩ | ⟨q2, g2, h2⟩
      · rw [e1, e2]
      · have := (List.getElem?_eq_some_iff.mp g2).1
        omega
      · have := (List.getElem?_eq_some_iff.mp g1).1
        omega
      · obtain ⟨q3, k1, k2, k3⟩ := a_fl_at hw hb hc' g1
        rw [g2] at k1
        cases k1
        exact ih _ _ _ _ _ ((hw.2.2.2.2.1 b hb.1).2.2 q (List.mem_of_getElem? g1)) ((hw.2.2.2.2.1 c hc.1).2.2 q2 (List.mem_of_getElem? g2)) k3.symm h1 h2
theorem a_wk_ld {z : AS} (hw : a_wf z) {k w x : Nat} {r : Option Nat} (hx : al z x) : a_wk z k w (a_ld z x) r ↔ a_wk z k w x r := by
  have e := (hw.2.2.1 x hx).2.2
  cases k with
  | zero => unfold a_wk; rw [e]
  | succ k => unfold a_wk a_bd; rw [e]
theorem a_wk_al {z : AS} (hw : a_wf z) : ∀ (k w x : Nat) (l : Nat), al z x → a_wk z k w x (some l) → al z l ∧ a_ld z l = l := by
  intro k
  induction k with
  | zero =>
    intro w x l hx h
    unfold a_wk at h
    cases h
    exact (hw.2.2.1 x hx).2
  | succ k ih =>
    intro w x l hx h
    unfold a_wk at h
    rcases h with ⟨-, h⟩ | ⟨-, b, hb, h⟩
    · cases h
      exact (hw.2.2.1 x hx).2
    · rcases h with ⟨-, h⟩ | ⟨q, g, h⟩
      · exact absurd h (by simp)
      · exact ih _ _ _ ((hw.2.2.2.2.1 b hb.1).2.2 q (List.mem_of_getElem? g)) h
def w_res (r : Option Nat) : Int32 := match r with
  | some l => nI l
  | none => -1
theorem nI_m1 {k : Nat} (hk : k < 2 ^ 31) : nI k ≠ -1 := fun e => by
  have h0 := nI_pos' (n := k) hk
  rw [e] at h0
  exact absurd h0 (by decide)
theorem c_followL {n : Nat} {s : S_Ts} {z : AS} {st bd : Nat → Nat} {u lw : Nat} (hC : CN (Ts_nodes s) z st bd u lw) (hw : a_wf z) (y1 : Int32) (p : Int64) : ∀ (fuel k x i : Nat), k < fuel → k + i = 8 → al z x → a_ld z x = x → xo (L_Ts_follow_27 y1 p s n fuel (nI x) (nI i)) (fun o c => c = 0 ∧ ∃ r, a_wk z k (wN p / 256 ^ i) x r ∧ Sum.elim (fun e => e.1) (fun v => v) o = w_res r) := by
  have h8 : (8 : Int32) = nI 8 := by decide +kernel
  have hu := hC.2.2.2.2.2.2.2.2.2.2.2.2.2.2.2
  intro fuel
  induction fuel with
  | zero => intro k x i h; omega
  | succ fuel ih =>
    intro k x i h1 h2 hx hl
    rw [L_Ts_follow_27_s]
    refine xo_le 8 i h8 rfl (by omega) (by omega) (fun q => ?_) (fun q => ?_)
    · have : k = 0 := by omega
      subst this
      refine xo_p ⟨rfl, some x, ?_, rfl⟩
      unfold a_wk
      rw [hl]
    · obtain ⟨k, rfl⟩ : ∃ j, k = j + 1 := ⟨k - 1, by omega⟩
      rw [w_at p q]
      have hlt : wN p / 256 ^ i % 256 < 256 := Nat.mod_lt _ (by decide)
      have hdd : wN p / 256 ^ (i + 1) = wN p / 256 ^ i / 256 := by rw [Nat.pow_succ, Nat.div_div_eq_div_mul]
      generalize hW : wN p / 256 ^ i = W at hlt hdd ⊢
      refine xo_eq _ 0 rfl nI0 (by omega) (by omega) (fun e => ?_) (fun e => ?_)
      · refine xo_p ⟨rfl, some x, ?_, rfl⟩
        unfold a_wk
        exact Or.inl ⟨e, by rw [hl]⟩
      · have e1 : nI (W % 256) - (1 : Int32) = nI (W % 256 - 1) := by
          obtain ⟨j, hj⟩ : ∃ j, W % 256 = j + 1 := ⟨W % 256 - 1, by omega⟩
          rw [hj]
          exact nI_pred j
        rw [e1]
        obtain ⟨b, hb, g⟩ := o_place (n := n) hC hw hx (nI (W % 256 - 1))
        rcases g with ⟨g, -⟩ | ⟨j, hj, ej, g⟩
        · exact absurd g (nI_pos (by omega))
        · have ej2 := (nI_eq (by omega) hj).mp ej
          subst ej2
          rcases g with ⟨g, ge⟩ | ⟨g, ge⟩
          · rw [ge, xm_b_p, if_pos rfl]
            refine xo_p ⟨rfl, none, ?_, rfl⟩
            unfold a_wk
            exact Or.inr ⟨e, b, hb, Or.inl ⟨by omega, rfl⟩⟩
          · have h8 := hC.2.2.2.2.2.2.2.2.2.2.1 _ hb.1
            have hq : (a_fl z b)[W % 256 - 1]? = some (a_fl z b)[W % 256 - 1] := List.getElem?_eq_getElem g
            generalize (a_fl z b)[W % 256 - 1] = q2 at hq
            have hal := (hw.2.2.2.2.1 b hb.1).2.2 q2 (List.mem_of_getElem? hq)
            rw [ge, xm_b_p, if_neg (nI_m1 (by omega)), o_partLeader hC hw hb.1 hq, xm_b_p, nI_1]
            refine xo_m (ih k (a_ld z q2.2) (i + 1) (by omega) (by omega) (hw.2.2.1 _ hal).2.1 (hw.2.2.1 _ hal).2.2) (fun o c g2 => ?_)
            obtain ⟨g3, r, g4, g5⟩ := g2
            refine ⟨g3, r, ?_, g5⟩
            rw [hdd] at g4
            unfold a_wk
            exact Or.inr ⟨e, b, hb, Or.inr ⟨q2, hq, (a_wk_ld hw hal).mp g4⟩⟩
theorem c_follow {n : Nat} (hn : 100000 ≤ n) {s : S_Ts} {z : AS} {st bd : Nat → Nat} {u lw : Nat} (hC : CN (Ts_nodes s) z st bd u lw) (hw : a_wf z) (p : Int32) (w : Int64) : xo (m_Ts_follow n s p w) (fun o c => c = 0 ∧ (((∀ x, ¬ a_is z p x) ∧ o = -1) ∨ ∃ x r, a_is z p x ∧ a_wk z 8 (wN w) x r ∧ o = w_res r)) := by
  unfold m_Ts_follow
  rcases o_has (n := n) hC hw p with ⟨x, hx, e⟩ | ⟨hx, e⟩
  · obtain ⟨e1, e2, e3, l1, l2, l3, l4, l5, l6, l7, l8, l9, l10, l11⟩ := o_bd hC hw hx.2
    rw [e, xm_b_p, if_neg (by decide), hx.1]
    refine xo_rd x rfl (by omega) (by omega) ?_
    rw [e1]
    have hh := c_followL (n := n) hC hw (nI x) w n 8 (a_ld z x) 0 (by omega) (by omega) (hw.2.2.1 x hx.2).2.1 (hw.2.2.1 x hx.2).2.2
    rw [← nI0, Nat.pow_zero, Nat.div_one] at hh
    refine xo_b _ hh (fun o c g => ?_)
    obtain ⟨rfl, r, g1, g2⟩ := g
    refine xo_elim (fun a ha => ?_) (fun b hb => ?_)
    · refine xo_p ⟨rfl, Or.inr ⟨x, r, ⟨rfl, hx.2⟩, (a_wk_ld hw hx.2).mp g1, ?_⟩⟩
      rw [ha] at g2
      exact g2
    · refine xo_p ⟨rfl, Or.inr ⟨x, r, ⟨rfl, hx.2⟩, (a_wk_ld hw hx.2).mp g1, ?_⟩⟩
      rw [hb] at g2
      exact g2
  · rw [e, xm_b_p, if_pos rfl]
    exact xo_p ⟨rfl, Or.inl ⟨hx, rfl⟩⟩
theorem r_atL {n : Nat} (hn : 100000 ≤ n) {m : S_Md} {z : AS} {st : Nat → Nat} (hL : RL m) (hZ : RZ m z st) (hw : a_wf z) (ht : a_t z ≤ 512) (hs : a_sum z ≤ 512) (y1 : Int32) (y2 : Int64) : ∀ (fuel k x : Nat) (w : Int64), k < fuel → wN w < 256 ^ k → al z x → xo (L_Md_at_16 y1 y2 m n fuel (nI x) w) (fun o c => c = 0 ∧ ((a_wk z k (wN w) x none ∧ o = .inr (-1)) ∨ ∃ y e, al z y ∧ a_wk z k (wN w) x (some (a_ld z y)) ∧ o = .inl (nI y, e))) := by
  obtain ⟨l1, l2, l3, l4, l5, l6, l7, l8⟩ := r_lens hL
  intro fuel
  induction fuel with
  | zero => intro k x w h; omega
  | succ fuel ih =>
    intro k x w h1 h2 hx
    rw [L_Md_at_16_s]
    refine xo_if (fun q => ?_) (fun q => ?_)
    · rw [w_z] at q
      refine xo_p ⟨rfl, Or.inr ⟨x, _, hx, ?_, rfl⟩⟩
      cases k with
      | zero => unfold a_wk; rfl
      | succ k => unfold a_wk; exact Or.inl ⟨q, rfl⟩
    · rw [w_z] at q
      cases k with
      | zero =>
        rw [Nat.pow_zero] at h2
        exact absurd (by rw [show wN w = 0 by omega]) q
      | succ k =>
        have hlt : wN w % 256 < 256 := Nat.mod_lt _ (by decide)
        refine xo_b _ (r_meant hn hL hZ hw ht hx) (fun o c g => ?_)
        obtain ⟨rfl, b, hb, rfl⟩ := g
        have hbl := al_lt hw hb.1
        have h6 := hZ.2.2.2.2.2.2.1 b hb.1
        refine xo_rd b rfl (by omega) (by omega) ?_
        rw [hZ.2.1 b (by omega)]
        refine xo_if (fun e => ?_) (fun e => ?_)
        · refine xo_p ⟨rfl, Or.inl ⟨?_, rfl⟩⟩
          unfold a_wk
          refine Or.inr ⟨q, b, hb, Or.inl ⟨?_, rfl⟩⟩
          rw [a_kd_3 hw hb.1 e]
          show 0 < _
          omega
        · refine xo_rd b rfl (by omega) (by omega) ?_
          rw [hZ.2.2.2.1 b hb.1, w_byte]
          refine xo_le _ _ rfl rfl (by omega) (by omega) (fun w1 => ?_) (fun w1 => ?_)
          · refine xo_rd b rfl (by omega) (by omega) ?_
            rw [hZ.2.2.2.2.1 b hb.1 (ne_of_lt (k := 0) (by omega))]
            obtain ⟨j, hj⟩ : ∃ j, wN w % 256 = j + 1 := ⟨wN w % 256 - 1, by omega⟩
            have e1 : nI (st b) + nI (wN w % 256) - (1 : Int32) = nI (st b + j) := by
              rw [nI_add, hj, ← Nat.add_assoc]
              exact nI_pred _
            rw [e1]
            refine xo_rd (st b + j) rfl (by omega) (by omega) ?_
            have hq : (a_fl z b)[j]? = some (a_fl z b)[j] := List.getElem?_eq_getElem (by omega)
            generalize (a_fl z b)[j]'(by omega) = q2 at hq
            have hal := (hw.2.2.2.2.1 b hb.1).2.2 q2 (List.mem_of_getElem? hq)
            rw [(hZ.2.2.2.2.2.2.2.1 b j hb.1 q2 hq).2]
            have h8 := w_sh8 w
            refine xo_m (ih k q2.2 _ (by omega) (by rw [h8]; rw [Nat.pow_succ] at h2; omega) hal) (fun o c g => ?_)
            obtain ⟨g1, g⟩ := g
            rw [h8] at g
            have hj1 : wN w % 256 - 1 = j := by omega
            refine ⟨by omega, ?_⟩
            rcases g with ⟨g2, g3⟩ | ⟨y, e2, g2, g3, g4⟩
            · refine Or.inl ⟨?_, g3⟩
              unfold a_wk
              exact Or.inr ⟨q, b, hb, Or.inr ⟨q2, by rw [hj1]; exact hq, g2⟩⟩
            · refine Or.inr ⟨y, e2, g2, ?_, g4⟩
              unfold a_wk
              exact Or.inr ⟨q, b, hb, Or.inr ⟨q2, by rw [hj1]; exact hq, g3⟩⟩
          · refine xo_p ⟨rfl, Or.inl ⟨?_, rfl⟩⟩
            unfold a_wk
            exact Or.inr ⟨q, b, hb, Or.inl ⟨w1, rfl⟩⟩
theorem r_at {n : Nat} (hn : 100000 ≤ n) {m : S_Md} {z : AS} {st : Nat → Nat} (hL : RL m) (hZ : RZ m z st) (hw : a_wf z) (ht : a_t z ≤ 512) (hs : a_sum z ≤ 512) (p : Int32) (w : Int64) : xo (m_Md_at n m p w) (fun o c => c = 0 ∧ (((∀ x, ¬ a_is z p x) ∧ o = -1) ∨ ∃ x, a_is z p x ∧ ((a_wk z 8 (wN w) x none ∧ o = -1) ∨ ∃ y, al z y ∧ a_wk z 8 (wN w) x (some (a_ld z y)) ∧ o = nI y))) := by
  unfold m_Md_at
  rcases r_has (n := n) hL hZ hw ht p with ⟨x, hx, e⟩ | ⟨hx, e⟩
  · rw [e, xm_b_p, if_neg (by decide), hx.1]
    refine xo_b _ (r_atL (n := n) hn hL hZ hw ht hs (nI x) w n 8 x w (by omega) (Nat.lt_of_lt_of_le (wN_lt w) (by decide)) hx.2) (fun o c g => ?_)
    obtain ⟨rfl, g⟩ := g
    rcases g with ⟨g1, rfl⟩ | ⟨y, e2, g1, g2, rfl⟩
    · exact xo_p ⟨rfl, Or.inr ⟨x, ⟨rfl, hx.2⟩, Or.inl ⟨g1, rfl⟩⟩⟩
    · exact xo_p ⟨rfl, Or.inr ⟨x, ⟨rfl, hx.2⟩, Or.inr ⟨y, g1, g2, rfl⟩⟩⟩
  · rw [e, xm_b_p, if_pos rfl]
    exact xo_p ⟨rfl, Or.inl ⟨hx, rfl⟩⟩
noncomputable def l_val (F : FS) (l b : Nat) (t : Int32) : Int32 := if t = 0 then a_kd (f_z F) b else if t = 1 then a_vl (f_z F) b else if t = 2 then nI (a_fl (f_z F) b).length else if t = 3 then nI l else if t = 4 then (if pb (a_nd (f_z F) (f_nd F) l) then 1 else 0) else -1
def spi_look (F : FS) (p : Int32) (w : Int64) (t r : Int32) : Prop := ((∀ x, ¬ a_is (f_z F) p x) ∧ r = -1) ∨ ∃ x, a_is (f_z F) p x ∧ ((a_wk (f_z F) 8 (wN w) x none ∧ r = -1) ∨ ∃ l b, a_wk (f_z F) 8 (wN w) x (some l) ∧ a_bd (f_z F) l b ∧ r = l_val F l b t)
def spi_feature (F : FS) (p : Int32) (w : Int64) (i r : Int32) : Prop := ((∀ x, ¬ a_is (f_z F) p x) ∧ r = 0) ∨ ∃ x, a_is (f_z F) p x ∧ ((a_wk (f_z F) 8 (wN w) x none ∧ r = 0) ∨ ∃ l b, a_wk (f_z F) 8 (wN w) x (some l) ∧ a_bd (f_z F) l b ∧ (((¬ ∃ (k : Nat) (q : Int32 × Nat), k < 2 ^ 31 ∧ i = nI k ∧ (a_fl (f_z F) b)[k]? = some q) ∧ r = 0) ∨ ∃ (k : Nat) (q : Int32 × Nat), k < 2 ^ 31 ∧ i = nI k ∧ (a_fl (f_z F) b)[k]? = some q ∧ r = q.1))
theorem ok_look {F : FS} {c : Nat} (h : FI F c) {p : Int32} {w : Int64} {t r r2 : Int32} (h1 : spi_look F p w t r) (h2 : spi_look F p w t r2) : r = r2 := by
  have hw := h.1
  have hb := h.2.2.2.2.1
  rcases h1 with ⟨a, e1⟩ | ⟨x, a1, g1⟩ <;> rcases h2 with ⟨a', e2⟩ | ⟨x', b1, g2⟩
  · rw [e1, e2]
  · exact absurd b1 (a x')
  · exact absurd a1 (a' x)
  · have := a_is_inj hw (by omega) a1 b1
    subst this
    rcases g1 with ⟨k1, e1⟩ | ⟨l, b, k1, k2, e1⟩ <;> rcases g2 with ⟨m1, e2⟩ | ⟨l', b', m1, m2, e2⟩
    · rw [e1, e2]
    · exact absurd (a_wk_det hw _ _ _ _ _ _ a1.2 a1.2 rfl k1 m1) (by simp)
    · exact absurd (a_wk_det hw _ _ _ _ _ _ a1.2 a1.2 rfl k1 m1) (by simp)
    · have := a_wk_det hw _ _ _ _ _ _ a1.2 a1.2 rfl k1 m1
      cases this
      obtain ⟨q1, q2, q3, q4, q5⟩ := a_bd_eq hw k2 m2
      have hl := a_fl_len hw k2 m2
      rw [e1, e2]
      unfold l_val
      rw [q1, q2, hl]
theorem ok_feature {F : FS} {c : Nat} (h : FI F c) {p : Int32} {w : Int64} {i r r2 : Int32} (h1 : spi_feature F p w i r) (h2 : spi_feature F p w i r2) : r = r2 := by
  have hw := h.1
  have hb := h.2.2.2.2.1
  rcases h1 with ⟨a, e1⟩ | ⟨x, a1, g1⟩ <;> rcases h2 with ⟨a', e2⟩ | ⟨x', b1, g2⟩
  · rw [e1, e2]
  · exact absurd b1 (a x')
  · exact absurd a1 (a' x)
  · have := a_is_inj hw (by omega) a1 b1
    subst this
    rcases g1 with ⟨k1, e1⟩ | ⟨l, b, k1, k2, e1⟩ <;> rcases g2 with ⟨m1, e2⟩ | ⟨l', b', m1, m2, e2⟩
    · rw [e1, e2]
    · exact absurd (a_wk_det hw _ _ _ _ _ _ a1.2 a1.2 rfl k1 m1) (by simp)
    · exact absurd (a_wk_det hw _ _ _ _ _ _ a1.2 a1.2 rfl k1 m1) (by simp)
    · have := a_wk_det hw _ _ _ _ _ _ a1.2 a1.2 rfl k1 m1
      cases this
      rcases e1 with ⟨n1, e1⟩ | ⟨k, q, c1, c2, c3, e1⟩ <;> rcases e2 with ⟨n2, e2⟩ | ⟨k', q', d1, d2, d3, e2⟩
      · rw [e1, e2]
      · obtain ⟨q3, u1, u2, u3⟩ := a_fl_at hw m2 k2 d3
        exact absurd ⟨k', q3, d1, d2, u1⟩ n1
      · obtain ⟨q3, u1, u2, u3⟩ := a_fl_at hw k2 m2 c3
        exact absurd ⟨k, q3, c1, c2, u1⟩ n2
      · have := (nI_eq c1 d1).mp (c2.symm.trans d2)
        subst this
        obtain ⟨q3, u1, u2, u3⟩ := a_fl_at hw k2 m2 c3
        rw [d3] at u1
        cases u1
        rw [e1, e2, u2]
theorem c_look {n : Nat} (hn : 100000 ≤ n) {s : S_Ts} {F : FS} {c : Nat} (hC : CT s F) (hF : FI F c) {p : Int32} {w : Int64} {t : Int32} : xo (m_Ts_look n s p w t) (fun o d => d = 0 ∧ spi_look F p w t o) := by
  obtain ⟨⟨st, bd, lw, h1⟩, h2, h3, -⟩ := hC
  have hw := hF.1
  unfold m_Ts_look
  refine xo_b _ (c_follow hn h1 hw p w) (fun o d g => ?_)
  obtain ⟨rfl, g⟩ := g
  rcases g with ⟨g, rfl⟩ | ⟨x, r, hx, g1, rfl⟩
  · rw [if_pos rfl]
    exact xo_p ⟨rfl, Or.inl ⟨g, rfl⟩⟩
  · cases r with
    | none =>
      rw [show w_res none = -1 from rfl, if_pos rfl]
      exact xo_p ⟨rfl, Or.inr ⟨x, hx, Or.inl ⟨g1, rfl⟩⟩⟩
    | some l =>
      obtain ⟨al1, al2⟩ := a_wk_al hw _ _ _ _ hx.2 g1
      obtain ⟨e1, e2, e3, l1, l2, l3, l4, l5, l6, l7, l8, l9, l10, l11⟩ := o_bd h1 hw al1
      rw [al2] at e2 e3 l2
      rw [show w_res (some l) = nI l from rfl, if_neg (nI_m1 (by omega))]
      refine xo_rd l rfl (by omega) (by omega) ?_
      rw [e2]
      have fin : ∀ v, v = l_val F l (bd l) t → spi_look F p w t v := fun v hv => Or.inr ⟨x, hx, Or.inr ⟨l, _, g1, e3, hv⟩⟩
      unfold l_val at fin
      by_cases t0 : t = 0
      · rw [if_pos t0] at fin ⊢
        refine xo_rd _ rfl (by omega) (by omega) ?_
        exact xo_p ⟨rfl, fin _ (h1.2.2.2.1 _ l2)⟩
      rw [if_neg t0] at fin ⊢
      by_cases t1 : t = 1
      · rw [if_pos t1] at fin ⊢
        refine xo_rd _ rfl (by omega) (by omega) ?_
        exact xo_p ⟨rfl, fin _ (h1.2.2.2.2.1 _ e3.1)⟩
      rw [if_neg t1] at fin ⊢
      by_cases t2 : t = 2
      · rw [if_pos t2] at fin ⊢
        refine xo_rd _ rfl (by omega) (by omega) ?_
        exact xo_p ⟨rfl, fin _ (h1.2.2.2.2.2.1 _ l2)⟩
      rw [if_neg t2] at fin ⊢
      by_cases t3 : t = 3
      · rw [if_pos t3] at fin ⊢
        exact xo_p ⟨rfl, fin _ rfl⟩
      rw [if_neg t3] at fin ⊢
      by_cases t4 : t = 4
      · rw [if_pos t4] at fin ⊢
        rcases o_isNeeded (n := n) h1 h3 hw al1 with ⟨k1, k2⟩ | ⟨k1, k2⟩
        · rw [k2, xm_b_p, if_neg (by decide)]
          exact xo_p ⟨rfl, fin _ (by rw [pb_t k1]; rfl)⟩
        · rw [k2, xm_b_p, if_pos rfl]
          exact xo_p ⟨rfl, fin _ (by rw [pb_f k1]; rfl)⟩
      rw [if_neg t4] at fin ⊢
      exact xo_p ⟨rfl, fin _ rfl⟩
theorem c_feature {n : Nat} (hn : 100000 ≤ n) {s : S_Ts} {F : FS} {c : Nat} (hC : CT s F) (hF : FI F c) {p : Int32} {w : Int64} {i : Int32} : xo (m_Ts_feature n s p w i) (fun o d => d = 0 ∧ spi_feature F p w i o) := by
  obtain ⟨⟨st, bd, lw, h1⟩, h2, h3, -⟩ := hC
  have hw := hF.1
  have hu := h1.2.2.2.2.2.2.2.2.2.2.2.2.2.2.2
  have hfl := h1.2.1.1.2.2
  unfold m_Ts_feature
  refine xo_b _ (c_follow hn h1 hw p w) (fun o d g => ?_)
  obtain ⟨rfl, g⟩ := g
  rcases g with ⟨g, rfl⟩ | ⟨x, r, hx, g1, rfl⟩
  · rw [if_pos rfl]
    exact xo_p ⟨rfl, Or.inl ⟨g, rfl⟩⟩
  · cases r with
    | none =>
      rw [show w_res none = -1 from rfl, if_pos rfl]
      exact xo_p ⟨rfl, Or.inr ⟨x, hx, Or.inl ⟨g1, rfl⟩⟩⟩
    | some l =>
      obtain ⟨al1, al2⟩ := a_wk_al hw _ _ _ _ hx.2 g1
      have l3 := al_lt hw al1
      have l4 := h1.2.2.2.2.2.2.2.2.2.2.2.2.2.2.1
      rw [show w_res (some l) = nI l from rfl, if_neg (nI_m1 (by omega))]
      obtain ⟨b, hb, g⟩ := o_place (n := n) h1 hw al1 i
      have h8 := h1.2.2.2.2.2.2.2.2.2.2.1 _ hb.1
      rcases g with ⟨g, ge⟩ | ⟨k, hk, rfl, g⟩
      · rw [ge, xm_b_p, if_pos rfl]
        exact xo_p ⟨rfl, Or.inr ⟨x, hx, Or.inr ⟨l, b, g1, hb, Or.inl ⟨fun ⟨k, q, w1, w2, w3⟩ => nI_pos w1 (w2 ▸ g), rfl⟩⟩⟩⟩
      · rcases g with ⟨g, ge⟩ | ⟨g, ge⟩
        · rw [ge, xm_b_p, if_pos rfl]
          refine xo_p ⟨rfl, Or.inr ⟨x, hx, Or.inr ⟨l, b, g1, hb, Or.inl ⟨fun ⟨k2, q, w1, w2, w3⟩ => ?_, rfl⟩⟩⟩⟩
          have := (nI_eq hk w1).mp w2
          subst this
          have := (List.getElem?_eq_some_iff.mp w3).1
          omega
        · rw [ge, xm_b_p, if_neg (nI_m1 (by omega))]
          refine xo_rd _ rfl (by omega) (by omega) ?_
          have hq : (a_fl (f_z F) b)[k]? = some (a_fl (f_z F) b)[k] := List.getElem?_eq_getElem g
          exact xo_p ⟨rfl, Or.inr ⟨x, hx, Or.inr ⟨l, b, g1, hb, Or.inr ⟨k, _, hk, rfl, hq, (h1.2.2.2.2.2.2.2.2.2.2.2.1 b k hb.1 _ hq).1⟩⟩⟩⟩
theorem r_look {n : Nat} (hn : 100000 ≤ n) {m : S_Md} {F : FS} {c : Nat} (hC : RM m F) (hF : FI F c) {p : Int32} {w : Int64} {t : Int32} : xo (m_Md_look n m p w t) (fun o d => d = 0 ∧ spi_look F p w t o) := by
  obtain ⟨h1, ⟨st, h2⟩, h3, h4, h5, h6⟩ := hC
  have hw := hF.1
  have hb0 := hF.2.2.2.2.1
  obtain ⟨l1, l2, l3, l4, l5, l6, l7, l8⟩ := r_lens h1
  unfold m_Md_look
  refine xo_b _ (r_at hn h1 h2 hw (by omega) (by omega) p w) (fun o d g => ?_)
  obtain ⟨rfl, g⟩ := g
  rcases g with ⟨g, rfl⟩ | ⟨x, hx, g⟩
  · rw [if_pos rfl]
    exact xo_p ⟨rfl, Or.inl ⟨g, rfl⟩⟩
  · rcases g with ⟨g1, rfl⟩ | ⟨y, hy, g1, rfl⟩
    · rw [if_pos rfl]
      exact xo_p ⟨rfl, Or.inr ⟨x, hx, Or.inl ⟨g1, rfl⟩⟩⟩
    · have hyl := al_lt hw hy
      rw [if_neg (nI_m1 (by omega))]
      refine xo_b _ (r_meant hn h1 h2 hw (by omega) hy) (fun o d g => ?_)
      obtain ⟨rfl, b, hb, rfl⟩ := g
      have hbl := al_lt hw hb.1
      have fin : ∀ v, v = l_val F (a_ld (f_z F) y) b t → spi_look F p w t v := fun v hv => Or.inr ⟨x, hx, Or.inr ⟨_, b, g1, (a_bd_ld hw hy).mpr hb, hv⟩⟩
      unfold l_val at fin
      by_cases t0 : t = 0
      · rw [if_pos t0] at fin ⊢
        refine xo_rd _ rfl (by omega) (by omega) ?_
        exact xo_p ⟨rfl, fin _ (h2.2.1 _ (by omega))⟩
      rw [if_neg t0] at fin ⊢
      by_cases t1 : t = 1
      · rw [if_pos t1] at fin ⊢
        refine xo_rd _ rfl (by omega) (by omega) ?_
        rw [h2.2.1 b (by omega)]
        refine xo_if (fun e => ?_) (fun e => ?_)
        · exact xo_p ⟨rfl, fin _ (hw.2.2.2.2.2.1 b hb.1 e).symm⟩
        · refine xo_rd _ rfl (by omega) (by omega) ?_
          exact xo_p ⟨rfl, fin _ (h2.2.2.1 _ hb.1)⟩
      rw [if_neg t1] at fin ⊢
      by_cases t2 : t = 2
      · rw [if_pos t2] at fin ⊢
        refine xo_rd _ rfl (by omega) (by omega) ?_
        rw [h2.2.1 b (by omega)]
        refine xo_if (fun e => ?_) (fun e => ?_)
        · refine xo_rd _ rfl (by omega) (by omega) ?_
          exact xo_p ⟨rfl, fin _ (h2.2.2.2.1 _ hb.1)⟩
        · refine xo_p ⟨rfl, fin _ ?_⟩
          rw [a_kd_3 hw hb.1 (by rw [toInt_lt]; rw [toInt_le] at e; omega)]
          exact nI0
      rw [if_neg t2] at fin ⊢
      by_cases t3 : t = 3
      · rw [if_pos t3] at fin ⊢
        refine xo_rd _ rfl (by omega) (by omega) ?_
        exact xo_p ⟨rfl, fin _ (h2.2.2.2.2.2.1 y hy)⟩
      rw [if_neg t3] at fin ⊢
      by_cases t4 : t = 4
      · rw [if_pos t4] at fin ⊢
        have en : a_nd (f_z F) (f_nd F) (a_ld (f_z F) y) ↔ a_nd (f_z F) (f_nd F) y := by
          unfold a_nd
          rw [(hw.2.2.1 y hy).2.2]
        refine xo_b _ (r_isNeeded hn h1 h2 h4 hw (by omega) hy) (fun o d g => ?_)
        obtain ⟨rfl, g⟩ := g
        rcases g with ⟨rfl, g⟩ | ⟨rfl, g⟩
        · rw [if_neg (by decide)]
          exact xo_p ⟨rfl, fin _ (by rw [pb_t (en.mpr g)]; rfl)⟩
        · rw [if_pos rfl]
          exact xo_p ⟨rfl, fin _ (by rw [pb_f (fun q => g (en.mp q))]; rfl)⟩
      rw [if_neg t4] at fin ⊢
      exact xo_p ⟨rfl, fin _ rfl⟩
theorem r_feature {n : Nat} (hn : 100000 ≤ n) {m : S_Md} {F : FS} {c : Nat} (hC : RM m F) (hF : FI F c) {p : Int32} {w : Int64} {i : Int32} : xo (m_Md_feature n m p w i) (fun o d => d = 0 ∧ spi_feature F p w i o) := by
  obtain ⟨h1, ⟨st, h2⟩, h3, h4, h5, h6⟩ := hC
  have hw := hF.1
  have hb0 := hF.2.2.2.2.1
  obtain ⟨l1, l2, l3, l4, l5, l6, l7, l8⟩ := r_lens h1
  unfold m_Md_feature
  refine xo_b _ (r_at hn h1 h2 hw (by omega) (by omega) p w) (fun o d g => ?_)
  obtain ⟨rfl, g⟩ := g
  rcases g with ⟨g, rfl⟩ | ⟨x, hx, g⟩
  · rw [if_pos rfl, xm_b_p, if_pos rfl]
    exact xo_p ⟨rfl, Or.inl ⟨g, rfl⟩⟩
  · rcases g with ⟨g1, rfl⟩ | ⟨y, hy, g1, rfl⟩
    · rw [if_pos rfl, xm_b_p, if_pos rfl]
      exact xo_p ⟨rfl, Or.inr ⟨x, hx, Or.inl ⟨g1, rfl⟩⟩⟩
    · have hyl := al_lt hw hy
      rw [if_neg (nI_m1 (by omega))]
      refine xo_b (fun o c => c = 0 ∧ ∃ b, a_bd (f_z F) y b ∧ o = nI b) (xo_b _ (r_meant hn h1 h2 hw (by omega) hy) (fun o c g => xo_p ⟨by have := g.1; omega, g.2⟩)) (fun o d g => ?_)
      obtain ⟨rfl, b, hb, rfl⟩ := g
      have hbl := al_lt hw hb.1
      have hb6 := h2.2.2.2.2.2.2.1 b hb.1
      rw [if_neg (nI_m1 (by omega))]
      refine xo_rd _ rfl (by omega) (by omega) ?_
      rw [h2.2.1 b (by omega)]
      have no : ∀ (Q : ¬ ∃ (k : Nat) (q : Int32 × Nat), k < 2 ^ 31 ∧ i = nI k ∧ (a_fl (f_z F) b)[k]? = some q), spi_feature F p w i 0 := fun Q => Or.inr ⟨x, hx, Or.inr ⟨_, b, g1, (a_bd_ld hw hy).mpr hb, Or.inl ⟨Q, rfl⟩⟩⟩
      refine xo_if (fun e => ?_) (fun e => ?_)
      · refine xo_p ⟨rfl, no (fun ⟨k, q, w1, w2, w3⟩ => ?_)⟩
        rw [a_kd_3 hw hb.1 e] at w3
        simp at w3
      · refine xo_if (fun e2 => ?_) (fun e2 => ?_)
        · exact xo_p ⟨rfl, no (fun ⟨k, q, w1, w2, w3⟩ => nI_pos w1 (w2 ▸ e2))⟩
        · obtain ⟨k, hk, rfl⟩ := nI_of e2
          refine xo_rd _ rfl (by omega) (by omega) ?_
          rw [h2.2.2.2.1 b hb.1]
          refine xo_lt _ _ rfl rfl hk (by omega) (fun e3 => ?_) (fun e3 => ?_)
          · refine xo_rd _ rfl (by omega) (by omega) ?_
            rw [h2.2.2.2.2.1 b hb.1 (ne_of_lt e3), nI_add]
            refine xo_rd _ rfl (by omega) (by omega) ?_
            have hq : (a_fl (f_z F) b)[k]? = some (a_fl (f_z F) b)[k] := List.getElem?_eq_getElem e3
            exact xo_p ⟨rfl, Or.inr ⟨x, hx, Or.inr ⟨_, b, g1, (a_bd_ld hw hy).mpr hb, Or.inr ⟨k, _, hk, rfl, hq, (h2.2.2.2.2.2.2.2.1 b k hb.1 _ hq).1⟩⟩⟩⟩
          · refine xo_p ⟨rfl, no (fun ⟨k2, q, w1, w2, w3⟩ => ?_)⟩
            have := (nI_eq hk w1).mp w2
            subst this
            have := (List.getElem?_eq_some_iff.mp w3).1
            omega
