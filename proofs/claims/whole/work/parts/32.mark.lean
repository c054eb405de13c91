/-! mark -/
abbrev No_set_M (s : S_No) (a : Ar) (k : Int32) (r : S_Ld) : S_No := (No_kinds s, No_values s, No_starts s, No_sizes s, No_lead s, No_bodies s, No_needed s, a, No_top s, No_lowest s, No_alive s, k, No_fields s, r)
theorem CN_M {s : S_No} {z : AS} {st bd : Nat → Nat} {u lw : Nat} (hC : CN s z st bd u lw) {a : Ar} {k : Int32} {r : S_Ld} (ha : ArOk a (a_t z)) (hr : ArOk (Ld_row r) 0) : CN (No_set_M s a k r) z st bd u lw := by
  obtain ⟨hA, hF, hS, c⟩ := hC
  exact ⟨⟨hA.1, hA.2.1, hA.2.2.1, hA.2.2.2.1, hA.2.2.2.2.1, hA.2.2.2.2.2.1, hA.2.2.2.2.2.2.1, ha⟩, ⟨hF.1, hF.2.1, hF.2.2.1, hF.2.2.2.1, hr⟩, hS, c⟩
theorem LNo_M {s : S_No} {g : Nat → Int32} {k : Int32} {r : S_Ld} : LNo (No_set_M s ((No_marked s).1, g) k r) + (Ld_row (No_reached s)).1 = LNo s + (Ld_row r).1 := by
  show (No_kinds s).1 + (No_values s).1 + (No_starts s).1 + (No_sizes s).1 + (No_lead s).1 + (No_bodies s).1 + (No_needed s).1 + (No_marked s).1 + (Fi_features (No_fields s)).1 + (Fi_parts (No_fields s)).1 + (Fi_nextFeatures (No_fields s)).1 + (Fi_nextParts (No_fields s)).1 + (Ld_row r).1 + (Ld_row (No_reached s)).1 = LNo s + (Ld_row r).1
  unfold LNo
  omega
def MI (s0 : S_No) (z : AS) (x : Nat) (mk : Nat → Bool) (s : S_No) (R : List Nat) (M : Nat → Bool) : Prop :=
  (∃ g r, s = No_set_M s0 ((No_marked s0).1, g) (No_marks s0) r ∧ (∀ i, i < a_t z → g i = if M i then 1 else 0) ∧ CW r R) ∧ R.Nodup ∧ (∀ r ∈ R, al z r ∧ a_ld z r = r ∧ a_rch z x r ∧ M r = true) ∧ (∀ i, mk i = true → M i = true) ∧ (∀ i, M i = true → mk i = true ∨ i ∈ R)
theorem CW_0 {s : S_Ld} {to : List Nat} (h : CW s to) : ArOk (Ld_row s) 0 := ⟨h.1.1, h.1.2.1, Nat.zero_le _⟩
theorem MI_C {s0 s : S_No} {z : AS} {x : Nat} {mk M : Nat → Bool} {R : List Nat} {st bd : Nat → Nat} {u lw : Nat} (hC : CN s0 z st bd u lw) (h : MI s0 z x mk s R M) : CN s z st bd u lw := by
  obtain ⟨⟨g, r, rfl, h1, h2⟩, -⟩ := h
  exact CN_M hC ⟨hC.1.2.2.2.2.2.2.2.1, hC.1.2.2.2.2.2.2.2.2.1, hC.1.2.2.2.2.2.2.2.2.2⟩ (CW_0 h2)
theorem MI_len {s0 s : S_No} {z : AS} {x : Nat} {mk M : Nat → Bool} {R : List Nat} (hw : a_wf z) (h : MI s0 z x mk s R M) : R.length ≤ a_t z := nodup_len h.2.1 (fun r hr => al_lt hw (h.2.2.1 r hr).1)
theorem o_markLeader {n : Nat} {s0 s : S_No} {z : AS} {x : Nat} {mk M : Nat → Bool} {R : List Nat} {st bd : Nat → Nat} {u lw : Nat} (hC : CN s0 z st bd u lw) (hw : a_wf z) (h : MI s0 z x mk s R M) {v : Nat} (hv : al z v) (hvl : a_ld z v = v) (hvr : a_rch z x v) : xo (m_No_markLeader n s (nI v)) (fun o c => ∃ R2 M2, MI s0 z x mk o R2 M2 ∧ M2 v = true ∧ (∀ i, M i = true → M2 i = true) ∧ (∃ E, R2 = R ++ E) ∧ c + 2 * (Ld_row (No_reached s)).1 ≤ 2 * (Ld_row (No_reached o)).1) := by
  have h0 := h
  have hlen := MI_len hw h
  have hl := hC.1.2.2.2.2.2.2.2.2.2
  have ht := hC.2.2.2.2.2.2.2.2.2.2.2.2.2.2.1
  have hvt := al_lt hw hv
  obtain ⟨⟨g, r, rfl, h1, h2⟩, h3, h4, h5, h6⟩ := h
  unfold m_No_markLeader
  refine xo_rd v rfl (by show v < (No_marked s0).1; omega) (by omega) ?_
  show xo (if g v = 0 then _ else _) _
  rw [h1 v hvt]
  by_cases e : M v = true
  · rw [if_pos e, if_neg (by decide)]
    exact xo_p ⟨R, M, h0, e, fun _ q => q, ⟨[], (List.append_nil R).symm⟩, by show 0 + 2 * (Ld_row r).1 ≤ 2 * (Ld_row r).1; omega⟩
  · rw [if_neg e, if_pos rfl]
    refine xo_wr v rfl (by show v < (No_marked s0).1; omega) (by omega) ?_
    have hnd : (R ++ [v]).Nodup := by
      rw [List.nodup_append]
      refine ⟨h3, by simp, fun a ha c hc => ?_⟩
      rw [List.mem_singleton] at hc
      subst hc
      exact fun e2 => e (e2 ▸ (h4 a ha).2.2.2)
    have hR4 : ∀ r ∈ R ++ [v], al z r ∧ a_ld z r = r ∧ a_rch z x r := fun r hr => by
      rcases List.mem_append.mp hr with hr | hr
      · exact ⟨(h4 r hr).1, (h4 r hr).2.1, (h4 r hr).2.2.1⟩
      · rw [List.mem_singleton] at hr
        subst hr
        exact ⟨hv, hvl, hvr⟩
    have hl2 := nodup_len hnd (fun r hr => al_lt hw (hR4 r hr).1)
    rw [List.length_append, List.length_singleton] at hl2
    refine xo_b _ (o_append (n := n) (x := v) h2 (by omega)) (fun o c g2 => ?_)
    obtain ⟨g2, g3⟩ := g2
    refine xo_p ⟨R ++ [v], fun i => decide (i = v) || M i, ⟨⟨upd g v 1, o, rfl, fun i hi => ?_, g2⟩, hnd, fun r hr => ?_, fun i hi => by simp [h5 i hi], fun i hi => ?_⟩, by simp, fun i hi => by simp [hi], ⟨[v], rfl⟩, by show c + 0 + 2 * (Ld_row r).1 ≤ 2 * (Ld_row o).1; omega⟩
    · rw [upd_at]
      by_cases e2 : i = v
      · subst e2; simp
      · simp only [if_neg e2, decide_eq_false e2, Bool.false_or]
        exact h1 i hi
    · obtain ⟨k1, k2, k3⟩ := hR4 r hr
      refine ⟨k1, k2, k3, ?_⟩
      rcases List.mem_append.mp hr with hr | hr
      · simp [(h4 r hr).2.2.2]
      · rw [List.mem_singleton] at hr
        subst hr
        simp
    · by_cases e2 : i = v
      · subst e2; exact Or.inr (by simp)
      · simp only [decide_eq_false e2, Bool.false_or] at hi
        exact (h6 i hi).imp id (fun q => List.mem_append.mpr (Or.inl q))
theorem o_markParts {n : Nat} {s0 : S_No} {z : AS} {x : Nat} {mk : Nat → Bool} {st bd : Nat → Nat} {u lw : Nat} (hC : CN s0 z st bd u lw) (hw : a_wf z) {i b : Nat} (hi : a_rch z x i) (hb : a_bd z i b) (y1 y2 : Int32) : ∀ (fuel k : Nat) (s : S_No) (R : List Nat) (M : Nat → Bool), (a_fl z b).length - k < fuel → k ≤ (a_fl z b).length → MI s0 z x mk s R M → (∀ (j : Nat) (q : Int32 × Nat), j < k → (a_fl z b)[j]? = some q → M (a_ld z q.2) = true) → xo (L_No_markFrom_54 y1 y2 (nI b) n fuel (nI k) s) (fun o c => ∃ R2 M2, MI s0 z x mk o.2 R2 M2 ∧ (∀ i, M i = true → M2 i = true) ∧ (∃ E, R2 = R ++ E) ∧ (∀ q ∈ a_fl z b, M2 (a_ld z q.2) = true) ∧ c + 2 * (Ld_row (No_reached s)).1 ≤ 2 * (Ld_row (No_reached o.2)).1) := by
  have hbl := al_lt hw hb.1
  have h8 := hC.2.2.2.2.2.2.2.2.2.2.1 _ hb.1
  have hu := hC.2.2.2.2.2.2.2.2.2.2.2.2.2.2.2
  have ht := hC.2.2.2.2.2.2.2.2.2.2.2.2.2.2.1
  intro fuel
  induction fuel with
  | zero => intro k s R M h; omega
  | succ fuel ih =>
    intro k s R M h1 h2 hI hp
    have hCs := MI_C hC hI
    have l1 := hCs.1.2.2.1.2.2
    have l2 := hCs.1.2.2.2.1.2.2
    rw [L_No_markFrom_54_s]
    refine xo_rd b rfl (by omega) (by omega) ?_
    rw [hCs.2.2.2.2.2.1 b hbl]
    refine xo_le _ _ rfl rfl (by omega) (by omega) (fun q => ?_) (fun q => ?_)
    · refine xo_p ⟨R, M, hI, fun _ w => w, ⟨[], (List.append_nil R).symm⟩, fun q2 hq2 => ?_, by show 0 + 2 * (Ld_row (No_reached s)).1 ≤ 2 * (Ld_row (No_reached s)).1; omega⟩
      obtain ⟨j, hj⟩ := List.getElem?_of_mem hq2
      have := (List.getElem?_eq_some_iff.mp hj).1
      exact hp j q2 (by omega) hj
    · refine xo_rd b rfl (by omega) (by omega) ?_
      rw [hCs.2.2.2.2.2.2.1 b hb.1, nI_add]
      have hq : (a_fl z b)[k]? = some (a_fl z b)[k] := List.getElem?_eq_getElem q
      generalize (a_fl z b)[k] = q2 at hq
      have hal := (hw.2.2.2.2.1 b hb.1).2.2 q2 (List.mem_of_getElem? hq)
      have hv := hw.2.2.1 _ hal
      rw [o_partLeader hCs hw hb.1 hq, xm_b_p]
      refine xo_b _ (o_markLeader hC hw hI hv.2.1 hv.2.2 (a_rch_s hi hb (List.mem_of_getElem? hq))) (fun o c g => ?_)
      obtain ⟨R2, M2, g1, g2, g3, ⟨E, g4⟩, g5⟩ := g
      rw [nI_1]
      refine xo_m (ih (k + 1) o R2 M2 (by omega) (by omega) g1 (fun j q3 hj hq3 => ?_)) (fun o2 c2 w => ?_)
      · by_cases e : j = k
        · subst e; rw [hq] at hq3; cases hq3; exact g2
        · exact g3 _ (hp j q3 (by omega) hq3)
      · obtain ⟨R3, M3, w1, w2, ⟨E2, w3⟩, w4, w5⟩ := w
        exact ⟨R3, M3, w1, fun i hi => w2 i (g3 i hi), ⟨E ++ E2, by rw [w3, g4, List.append_assoc]⟩, w4, by omega⟩
theorem o_markL {n : Nat} {s0 : S_No} {z : AS} {x : Nat} {mk : Nat → Bool} {st bd : Nat → Nat} {u lw : Nat} (hn : 100000 ≤ n) (hC : CN s0 z st bd u lw) (hw : a_wf z) (y1 : Int32) : ∀ (fuel i : Nat) (s : S_No) (R : List Nat) (M : Nat → Bool), a_t z - i < fuel → i ≤ R.length → MI s0 z x mk s R M → (∀ j r b, j < i → R[j]? = some r → a_bd z r b → ∀ q ∈ a_fl z b, M (a_ld z q.2) = true) → xo (L_No_markFrom_19 y1 n fuel (nI i) s) (fun o c => ∃ R2 M2, MI s0 z x mk o.2 R2 M2 ∧ (∀ i, M i = true → M2 i = true) ∧ (∀ r b, r ∈ R2 → a_bd z r b → ∀ q ∈ a_fl z b, M2 (a_ld z q.2) = true) ∧ c + 2 * (Ld_row (No_reached s)).1 ≤ 2 * (Ld_row (No_reached o.2)).1) := by
  have ht := hC.2.2.2.2.2.2.2.2.2.2.2.2.2.2.1
  have hu := hC.2.2.2.2.2.2.2.2.2.2.2.2.2.2.2
  intro fuel
  induction fuel with
  | zero => intro i s R M h; omega
  | succ fuel ih =>
    intro i s R M h1 h2 hI hp
    have hCs := MI_C hC hI
    have hlen := MI_len hw hI
    have hcw : CW (No_reached s) R := by obtain ⟨⟨g, r, rfl, -, k⟩, -⟩ := hI; exact k
    rw [L_No_markFrom_19_s]
    refine xo_le 32768 _ (by decide +kernel) rfl (by omega) (by omega) (fun q => absurd q (by omega)) (fun _ => ?_)
    refine xo_le _ _ hcw.2.1 rfl (by omega) (by omega) (fun q => ?_) (fun q => ?_)
    · refine xo_p ⟨R, M, hI, fun _ w => w, fun r b hr => ?_, by show 0 + 2 * (Ld_row (No_reached s)).1 ≤ 2 * (Ld_row (No_reached s)).1; omega⟩
      obtain ⟨j, hj⟩ := List.getElem?_of_mem hr
      have := (List.getElem?_eq_some_iff.mp hj).1
      exact hp j r b (by omega) hj
    · have hg : R[i]? = some R[i] := List.getElem?_eq_getElem q
      generalize R[i] = r at hg
      obtain ⟨ra, rl, rr, -⟩ := hI.2.2.1 r (List.mem_of_getElem? hg)
      have hrow := hcw.1.2.2
      obtain ⟨e1, e2, e3, l1, l2, l3, l4, l5, l6, l7, l8, l9, l10, l11⟩ := o_bd hCs hw ra
      rw [rl] at e2 e3 l2
      refine xo_rd i rfl (by omega) (by omega) ?_
      rw [hcw.2.2.2 i r hg]
      refine xo_rd r rfl (by omega) (by omega) ?_
      rw [e2]
      have h8 := hCs.2.2.2.2.2.2.2.2.2.2.1 _ e3.1
      have hh := o_markParts (n := n) (mk := mk) hC hw rr e3 y1 (nI i) n 0 s R M (by omega) (Nat.zero_le _) hI (fun j q hj => by omega)
      rw [← nI0] at hh
      refine xo_b _ hh (fun o c g => ?_)
      obtain ⟨R2, M2, g1, g2, ⟨E, g3⟩, g4, g5⟩ := g
      rw [nI_1]
      refine xo_m (ih (i + 1) o.2 R2 M2 (by omega) (by rw [g3, List.length_append]; omega) g1 (fun j r2 b2 hj hr2 hb2 q2 hq2 => ?_)) (fun o2 c2 w => ?_)
      · have hr3 : R[j]? = some r2 := by
          rw [g3, List.getElem?_append_left (by omega)] at hr2
          exact hr2
        by_cases e : j = i
        · subst e
          rw [hg] at hr3
          cases hr3
          obtain ⟨q3, k1, k2⟩ := a_bd_mem hw hb2 e3 hq2
          rw [← k2]
          exact g4 q3 k1
        · exact g2 _ (hp j r2 b2 (by omega) hr3 hb2 q2 hq2)
      · obtain ⟨R3, M3, w1, w2, w3, w4⟩ := w
        exact ⟨R3, M3, w1, fun i hi => w2 i (g2 i hi), w3, by omega⟩
noncomputable def mk_all (z : AS) (M : Nat → Bool) : Nat → Bool := fun i => pb (al z i ∧ M (a_ld z i) = true)
theorem o_allL {n : Nat} {s : S_No} {z : AS} {M : Nat → Bool} {st bd : Nat → Nat} {u lw : Nat} (hC : CN s z st bd u lw) (hw : a_wf z) (hM : ∀ i, i < a_t z → (No_marked s).2 i = if M i then 1 else 0) : ∀ (fuel i : Nat), a_t z - i < fuel → i ≤ a_t z → xo (L_No_allMarked_4 s n fuel (nI (cnt (mk_all z M) i)) (nI i)) (fun o c => c = 0 ∧ o.1 = nI (cnt (mk_all z M) (a_t z))) := by
  have hlm := hC.1.2.2.2.2.2.2.2
  have ht := hC.2.2.2.2.2.2.2.2.2.2.2.2.2.2.1
  intro fuel
  induction fuel with
  | zero => intro i h; omega
  | succ fuel ih =>
    intro i h1 h2
    rw [L_No_allMarked_4_s]
    refine xo_le (a_t z) i hC.2.2.1.1 rfl (by omega) (by omega) (fun q => ?_) (fun q => ?_)
    · have : i = a_t z := by omega
      subst this
      exact xo_p ⟨rfl, rfl⟩
    · have stepN : mk_all z M i = false → xo (L_No_allMarked_4 s n fuel (nI (cnt (mk_all z M) i)) (nI i + 1)) (fun o c => c = 0 ∧ o.1 = nI (cnt (mk_all z M) (a_t z))) := by
        intro hno
        have := ih (i + 1) (by omega) (by omega)
        rw [cnt_s, hno] at this
        rw [nI_1]
        exact this
      rcases o_has (n := n) hC hw (nI i) with ⟨j, hj, e⟩ | ⟨hj, e⟩
      · have ej : i = j := (nI_eq (by omega) (by have := al_lt hw hj.2; omega)).mp hj.1
        subst ej
        have hi := hj.2
        obtain ⟨e1, e2, e3, l1, l2, l3, l4, l5, l6, l7, l8, l9, l10, l11⟩ := o_bd hC hw hi
        rw [e, xm_b_p, if_neg (by decide)]
        refine xo_rd i rfl (by omega) (by omega) ?_
        rw [e1]
        refine xo_rd (a_ld z i) rfl (by have := hlm.2.2; omega) (by omega) ?_
        rw [hM _ l1]
        by_cases w : M (a_ld z i) = true
        · rw [if_pos w, if_pos rfl]
          have := ih (i + 1) (by omega) (by omega)
          rw [cnt_s, show mk_all z M i = true from pb_t ⟨hi, w⟩] at this
          rw [nI_1, nI_1]
          exact this
        · rw [if_neg w, if_neg (by decide)]
          exact stepN (pb_f (fun q => w q.2))
      · rw [e, xm_b_p, if_pos rfl]
        exact stepN (pb_f (fun q => hj i ⟨rfl, q.1⟩))
noncomputable def mk_new (F : FS) (x : Nat) : Nat → Bool := fun i => pb (f_mk F i = true ∨ (al (f_z F) i ∧ a_rch (f_z F) x (a_ld (f_z F) i)))
def sp_mark (F : FS) (p r : Int32) (F' : FS) : Prop := (∃ x, a_is (f_z F) p x ∧ r = nI (a_ld (f_z F) x) ∧ F' = (f_z F, f_nd F, mk_new F x, f_pu F, f_to F)) ∨ ((∀ x, ¬ a_is (f_z F) p x) ∧ sp_same F (-1) r F')
theorem ok_mark {F : FS} {c : Nat} (h : FI F c) (hc : c < 512) {p : Int32} : spOk F c (sp_mark F p) := by
  have hb := h.2.2.2.2.1
  refine ⟨fun r r2 F1 F2 g1 g2 => ?_, fun r F1 g => ?_⟩
  · rcases g1 with ⟨x, a1, a2, a3⟩ | ⟨a, a2, a3⟩ <;> rcases g2 with ⟨y, b1, b2, b3⟩ | ⟨b, b2, b3⟩
    · have := a_is_inj h.1 (by omega) a1 b1
      subst this
      exact ⟨a2.trans b2.symm, a3.trans b3.symm⟩
    · exact absurd a1 (b x)
    · exact absurd b1 (a y)
    · exact ⟨a2.trans b2.symm, a3.trans b3.symm⟩
  · rcases g with ⟨x, a1, -, rfl⟩ | ⟨-, g⟩
    · obtain ⟨h1, h2, h3, h4, h5, h6, h7, h8⟩ := h
      refine ⟨h1, h2, h3, h4, ⟨by show a_t (f_z F) ≤ c + 1; omega, by show a_sum (f_z F) + (f_pu F).length ≤ c + 1; omega, by show (f_to F).length ≤ c + 1; omega, by omega⟩, fun i hi => ?_, fun i j hi hj hij => ?_, fun i q hi hq => ?_⟩
      · rcases pb_iff.mp hi with w | w
        · exact h6 i w
        · exact w.1
      · rcases pb_iff.mp hi with w | w
        · exact pb_t (Or.inl (h7 i j w hj hij))
        · refine pb_t (Or.inr ⟨hj, ?_⟩)
          have hij' : a_ld (f_z F) j = a_ld (f_z F) i := hij
          rw [hij']
          exact w.2
      · have hq' : q ∈ a_fl (f_z F) i := hq
        rcases pb_iff.mp hi with w | w
        · exact pb_t (Or.inl (h8 i q w hq'))
        · refine pb_t (Or.inr ⟨(h1.2.2.2.2.1 i w.1).2.2 q hq', ?_⟩)
          refine a_rch_s w.2 ((a_bd_ld h1 w.1).mpr ⟨w.1, rfl, fun e => ?_⟩) hq'
          rw [(h1.2.2.2.2.1 i w.1).1 (Or.inl e)] at hq'
          exact absurd hq' List.not_mem_nil
    · rw [g.2]; exact FI_up h hc
theorem c_mark {n : Nat} (hn : 100000 ≤ n) {s : S_Ts} {F : FS} {c : Nat} (hC : CT s F) (hF : FI F c) {p : Int32} : xoC (m_Ts_mark n s p) s (sp_mark F p) := by
  have hC0 := hC
  obtain ⟨⟨st, bd, lw, h1⟩, h2, h3, h4, h5, h6, h7⟩ := hC
  have hw := hF.1
  unfold m_Ts_mark
  rcases o_has (n := n) h1 hw p with ⟨x, hx, e⟩ | ⟨hx, e⟩
  · rw [e, xm_b_p, if_neg (by decide), hx.1]
    obtain ⟨e1, e2, e3, l1, l2, l3, l4, l5, l6, l7, l8, l9, l10, l11⟩ := o_bd h1 hw hx.2
    have hv := hw.2.2.1 _ hx.2
    have hlm := h1.1.2.2.2.2.2.2.2
    have hre := h1.2.1.2.2.2.2
    obtain ⟨-, -, -, -, -, f6, f7, f8⟩ := hF
    refine xo_b (fun o d => ∃ g r, o = No_set_M (Ts_nodes s) ((No_marked (Ts_nodes s)).1, g) (nI (cnt (mk_new F x) (a_t (f_z F)))) r ∧ (∀ j, j < a_t (f_z F) → g j = if mkL (mk_new F x) (a_ld (f_z F)) j = true then 1 else 0) ∧ ArOk (Ld_row r) 0 ∧ d + 2 * (Ld_row (No_reached (Ts_nodes s))).1 ≤ 2 * (Ld_row r).1) ?_ (fun o d g => ?_)
    · unfold m_No_markFrom m_Ld_empty
      rw [xm_b_p]
      refine xo_rd x rfl (by omega) (by omega) ?_
      rw [e1]
      have hI0 : MI (Ts_nodes s) (f_z F) x (mkL (f_mk F) (a_ld (f_z F))) (No_set_M (Ts_nodes s) (No_marked (Ts_nodes s)) (No_marks (Ts_nodes s)) (Ld_row (No_reached (Ts_nodes s)), 0)) [] (mkL (f_mk F) (a_ld (f_z F))) := ⟨⟨(No_marked (Ts_nodes s)).2, _, rfl, h2.1, ⟨⟨hre.1, hre.2.1, Nat.zero_le _⟩, nI0, Nat.zero_le _, fun k x hx => absurd hx (by simp)⟩⟩, List.nodup_nil, fun r hr => absurd hr List.not_mem_nil, fun _ q => q, fun _ q => Or.inl q⟩
      refine xo_b _ (o_markLeader (n := n) h1 hw hI0 hv.2.1 hv.2.2 a_rch_0) (fun o1 d1 g1 => ?_)
      obtain ⟨R1, M1, k1, k2, k3, -, k5⟩ := g1
      have k5' : d1 + 2 * (Ld_row (No_reached (Ts_nodes s))).1 ≤ 2 * (Ld_row (No_reached o1)).1 := k5
      have hh := o_markL (n := n) hn h1 hw (nI x) n 0 o1 R1 M1 (by omega) (Nat.zero_le _) k1 (fun j r b hj => by omega)
      rw [← nI0] at hh
      refine xo_b _ hh (fun o2 d2 g2 => ?_)
      obtain ⟨R2, M2, m1, m2, m3, m4⟩ := g2
      have hC2 := MI_C h1 m1
      unfold m_No_allMarked
      obtain ⟨⟨g0, r0, em, q1, q2⟩, q3, q4, q5, q6⟩ := m1
      have mkl : ∀ i, mkL (f_mk F) (a_ld (f_z F)) i = true ↔ (f_mk F i = true ∧ a_ld (f_z F) i = i) := fun i => by
        unfold mkL
        rw [Bool.and_eq_true, decide_eq_true_iff]
      have q5l : ∀ i, f_mk F i = true → M2 (a_ld (f_z F) i) = true := fun i w => q5 _ ((mkl _).mpr ⟨f7 i _ w (hw.2.2.1 i (f6 i w)).2.1 (hw.2.2.1 i (f6 i w)).2.2, (hw.2.2.1 i (f6 i w)).2.2⟩)
      have hM2 : ∀ i, M2 i = true → al (f_z F) i ∧ a_ld (f_z F) i = i := fun i hi => by
        rcases q6 i hi with w | w
        · exact ⟨f6 i ((mkl i).mp w).1, ((mkl i).mp w).2⟩
        · exact ⟨(q4 i w).1, (q4 i w).2.1⟩
      have key : ∀ i, (al (f_z F) i ∧ M2 (a_ld (f_z F) i) = true) ↔ (f_mk F i = true ∨ (al (f_z F) i ∧ a_rch (f_z F) x (a_ld (f_z F) i))) := fun i => by
        constructor
        · rintro ⟨w1, w2⟩
          rcases q6 _ w2 with w | w
          · exact Or.inl (f7 _ i ((mkl _).mp w).1 w1 (hw.2.2.1 i w1).2.2.symm)
          · exact Or.inr ⟨w1, (q4 _ w).2.2.1⟩
        · rintro (w | ⟨w1, w2⟩)
          · exact ⟨f6 i w, q5l i w⟩
          · refine ⟨w1, w2 (fun l => M2 l = true) (m2 _ k2) (fun j b q hj hb hq => ?_)⟩
            rcases q6 j hj with w | w
            · have w3 := f7 j b ((mkl j).mp w).1 hb.1 hb.2.1
              exact q5l _ (f8 b q w3 hq)
            · exact m3 j b w hb q hq
      have emk : mk_all (f_z F) M2 = mk_new F x := by
        funext i
        unfold mk_all mk_new
        by_cases w : al (f_z F) i ∧ M2 (a_ld (f_z F) i) = true
        · rw [pb_t w, pb_t ((key i).mp w)]
        · rw [pb_f w, pb_f (fun q => w ((key i).mpr q))]
      have eM : ∀ i, M2 i = mkL (mk_new F x) (a_ld (f_z F)) i := fun i => by
        unfold mkL
        rw [Bool.eq_iff_iff, Bool.and_eq_true, decide_eq_true_iff, ← emk]
        unfold mk_all
        rw [pb_iff]
        constructor
        · intro w
          have := hM2 i w
          exact ⟨⟨this.1, by rw [this.2]; exact w⟩, this.2⟩
        · rintro ⟨⟨w1, w2⟩, w3⟩
          rw [w3] at w2
          exact w2
      have ha := o_allL (n := n) (s := o2.2) (M := M2) hC2 hw (fun i hi => by rw [em]; exact q1 i hi) n 0 (by omega) (Nat.zero_le _)
      rw [show cnt (mk_all (f_z F) M2) 0 = 0 from rfl, ← nI0, emk] at ha
      have er : (Ld_row (No_reached o2.2)).1 = (Ld_row r0).1 := by rw [em]
      refine xo_b (fun o d => d = 0 ∧ o = nI (cnt (mk_new F x) (a_t (f_z F)))) (xo_b _ ha (fun o3 d3 g3 => xo_p ⟨by have := g3.1; omega, g3.2⟩)) (fun o3 d3 g3 => ?_)
      obtain ⟨rfl, rfl⟩ := g3
      refine xo_p ⟨g0, r0, by rw [em], fun i hi => by rw [q1 i hi, eM i], CW_0 q2, ?_⟩
      omega
    · obtain ⟨g0, r0, rfl, k1, k2, k3⟩ := g
      refine xo_rd x rfl (by show x < (No_lead (Ts_nodes s)).1; omega) (by omega) ?_
      refine xo_p ⟨_, Or.inl ⟨x, ⟨rfl, hx.2⟩, ?_, rfl⟩, ⟨⟨st, bd, lw, CN_M h1 ⟨hlm.1, hlm.2.1, hlm.2.2⟩ k2⟩, ⟨k1, rfl⟩, h3, h4, h5, h6, h7⟩, ?_⟩
      · exact e1
      · show d + 0 + 2 * LTs s ≤ 2 * (LNo (No_set_M (Ts_nodes s) ((No_marked (Ts_nodes s)).1, g0) (nI (cnt (mk_new F x) (a_t (f_z F)))) r0) + LPu (Ts_pushed s) + LTr (Ts_trial s) + LLk (Ts_likeness s) + (Ld_row (Ts_touchedLeaders s)).1)
        unfold LTs
        have eL : LNo (No_set_M (Ts_nodes s) ((No_marked (Ts_nodes s)).1, g0) (nI (cnt (mk_new F x) (a_t (f_z F)))) r0) + (Ld_row (No_reached (Ts_nodes s))).1 = LNo (Ts_nodes s) + (Ld_row r0).1 := by
          exact LNo_M
        omega
  · rw [e, xm_b_p, if_pos rfl]
    exact o_same hC0 (Or.inr ⟨hx, rfl, rfl⟩)

theorem r_markKL {n : Nat} {m : S_Md} {z : AS} {st : Nat → Nat} {j l : Nat} (hL : RL m) (hZ : RZ m z st) (hw : a_wf z) (ht : a_t z ≤ 512) (hj : j < 32768) (hl : l < 2 ^ 31) (hr : (Md_reached m).2 j = nI l) (y1 y2 : Int32) {M : Nat → Bool} : ∀ (fuel i : Nat) (s : S_Md) (g : Nat → Int32), a_t z - i < fuel → i ≤ a_t z → s = Md_set_marked m (32768, g) → (∀ k, al z k → g k = if M k = true ∨ (k < i ∧ a_ld z k = l) then 1 else 0) → xo (L_Md_mark_26 y1 y2 (nI j) n fuel (nI i) s) (fun o c => c = 0 ∧ ∃ g2, o.2 = Md_set_marked m (32768, g2) ∧ ∀ k, al z k → g2 k = if M k = true ∨ a_ld z k = l then 1 else 0) := by
  obtain ⟨l1, l2, l3, l4, l5, l6, l7, l8⟩ := r_lens hL
  have l9 : (Md_reached m).1 = 32768 := hL.2.2.1.2.1
  intro fuel
  induction fuel with
  | zero => intro i s g h; omega
  | succ fuel ih =>
    intro i s g h1 h2 h3 h4
    subst h3
    rw [L_Md_mark_26_s]
    refine xo_le (a_t z) i hZ.1.1 rfl (by omega) (by omega) (fun q => ?_) (fun q => ?_)
    · refine xo_p ⟨rfl, g, rfl, fun k hk => ?_⟩
      have := al_lt hw hk
      rw [h4 k hk]
      by_cases w : M k = true ∨ a_ld z k = l
      · rw [if_pos w, if_pos (w.imp id (fun w => ⟨by omega, w⟩))]
      · rw [if_neg w, if_neg (fun w2 => w (w2.imp id (fun w2 => w2.2)))]
    · refine xo_rd i rfl (by show i < 32768; omega) (by omega) ?_
      refine xo_rd i rfl (by show i < (Md_kinds m).1; omega) (by omega) ?_
      show xo (xm_b (if (Md_kinds m).2 i = -1 then _ else _) _) _
      rw [hZ.2.1 i (by omega)]
      refine xo_b (fun v c => c = 0 ∧ ((v = 1 ∧ al z i ∧ a_ld z i = l) ∨ (v = 0 ∧ ¬ (al z i ∧ a_ld z i = l)))) ?_ (fun v c gv => ?_)
      · refine xo_if (fun e => xo_p ⟨rfl, Or.inr ⟨rfl, fun w => w.1 e⟩⟩) (fun e => ?_)
        refine xo_rd i rfl (by show i < (Md_leaders m).1; omega) (by omega) ?_
        refine xo_rd j rfl (by show j < (Md_reached m).1; omega) (by omega) ?_
        show xo (if (Md_leaders m).2 i = (Md_reached m).2 j then _ else _) _
        rw [hZ.2.2.2.2.2.1 i e, hr]
        have b1 := al_lt hw (hw.2.2.1 i e).2.1
        exact xo_eq _ _ rfl rfl (by omega) hl (fun w => xo_p ⟨rfl, Or.inl ⟨rfl, e, w⟩⟩) (fun w => xo_p ⟨rfl, Or.inr ⟨rfl, fun w2 => w w2.2⟩⟩)
      · obtain ⟨rfl, gv⟩ := gv
        refine xo_wr i rfl (by show i < 32768; omega) (by omega) ?_
        rw [nI_1]
        refine xo_m (ih (i + 1) _ (upd g i (vp_nar .boolean (g i ||| v))) (by omega) (by omega) rfl (fun k hk => ?_)) (fun o c g => ⟨by have := g.1; omega, g.2⟩)
        rw [upd_at]
        by_cases e : k = i
        · subst e
          rw [if_pos rfl, h4 k hk]
          have hm0 : ¬ (k < k ∧ a_ld z k = l) := fun w => by omega
          rcases gv with ⟨rfl, w⟩ | ⟨rfl, w⟩
          · rw [show (if M k = true ∨ (k < k + 1 ∧ a_ld z k = l) then (1 : Int32) else 0) = 1 from if_pos (Or.inr ⟨by omega, w.2⟩)]
            by_cases w2 : M k = true
            · rw [if_pos (Or.inl w2)]; decide +kernel
            · rw [if_neg (fun q => q.elim w2 hm0)]; decide +kernel
          · by_cases w2 : M k = true
            · rw [if_pos (Or.inl w2), if_pos (Or.inl w2)]; decide +kernel
            · rw [if_neg (fun q => q.elim w2 hm0), if_neg (fun q => q.elim w2 (fun q => w ⟨hk, q.2⟩))]; decide +kernel
        · rw [if_neg e, h4 k hk]
          by_cases w : M k = true ∨ (k < i ∧ a_ld z k = l)
          · rw [if_pos w, if_pos (w.imp id (fun w => ⟨by omega, w.2⟩))]
          · rw [if_neg w, if_neg (fun w2 => w (w2.imp id (fun w2 => ⟨by omega, w2.2⟩)))]
theorem r_markRL {n : Nat} (hn : 100000 ≤ n) {m : S_Md} {z : AS} {st : Nat → Nat} {R : List Nat} (hL : RL m) (hZ : RZ m z st) (hw : a_wf z) (ht : a_t z ≤ 512) (hR : ∀ k r, R[k]? = some r → (Md_reached m).2 k = nI r ∧ r < 2 ^ 31) (hlen : R.length ≤ 512) (y1 : Int32) {M : Nat → Bool} : ∀ (fuel i : Nat) (s : S_Md) (g : Nat → Int32), R.length - i < fuel → i ≤ R.length → s = Md_set_marked m (32768, g) → (∀ k, al z k → g k = if M k = true ∨ (∃ j, j < i ∧ R[j]? = some (a_ld z k)) then 1 else 0) → xo (L_Md_mark_18 y1 (nI R.length) n fuel (nI i) s) (fun o c => c = 0 ∧ ∃ g2, o.2 = Md_set_marked m (32768, g2) ∧ ∀ k, al z k → g2 k = if M k = true ∨ a_ld z k ∈ R then 1 else 0) := by
  intro fuel
  induction fuel with
  | zero => intro i s g h; omega
  | succ fuel ih =>
    intro i s g h1 h2 h3 h4
    subst h3
    rw [L_Md_mark_18_s]
    refine xo_le _ _ rfl rfl (by omega) (by omega) (fun q => ?_) (fun q => ?_)
    · refine xo_p ⟨rfl, g, rfl, fun k hk => ?_⟩
      rw [h4 k hk]
      have e : (∃ j, j < i ∧ R[j]? = some (a_ld z k)) ↔ a_ld z k ∈ R := ⟨fun ⟨_, _, h⟩ => List.mem_of_getElem? h, fun h => (List.getElem?_of_mem h).elim (fun j hj => ⟨j, by have := (List.getElem?_eq_some_iff.mp hj).1; omega, hj⟩)⟩
      by_cases w : M k = true ∨ a_ld z k ∈ R
      · rw [if_pos w, if_pos (w.imp id e.mpr)]
      · rw [if_neg w, if_neg (fun w2 => w (w2.imp id e.mp))]
    · have hg : R[i]? = some R[i] := List.getElem?_eq_getElem q
      generalize R[i] = r at hg
      obtain ⟨r1, r2⟩ := hR i r hg
      have hh := r_markKL (n := n) (M := fun k => pb (M k = true ∨ (∃ j, j < i ∧ R[j]? = some (a_ld z k)))) hL hZ hw ht (by omega : i < 32768) r2 r1 y1 (nI R.length) n 0 (Md_set_marked m (32768, g)) g (by omega) (Nat.zero_le _) rfl (fun k hk => by
        rw [h4 k hk]
        by_cases w : M k = true ∨ (∃ j, j < i ∧ R[j]? = some (a_ld z k))
        · rw [if_pos w, if_pos (Or.inl (pb_t w))]
        · rw [if_neg w, if_neg (fun q => q.elim (fun q => w (pb_iff.mp q)) (fun q => by omega))])
      rw [← nI0] at hh
      refine xo_b _ hh (fun o c g3 => ?_)
      obtain ⟨rfl, g2, k1, k2⟩ := g3
      rw [nI_1, k1]
      refine xo_m (ih (i + 1) _ g2 (by omega) (by omega) rfl (fun k hk => ?_)) (fun o c g => ⟨by have := g.1; omega, g.2⟩)
      rw [k2 k hk]
      have e : (pb (M k = true ∨ (∃ j, j < i ∧ R[j]? = some (a_ld z k))) = true ∨ a_ld z k = r) ↔ (M k = true ∨ ∃ j, j < i + 1 ∧ R[j]? = some (a_ld z k)) := by
        rw [pb_iff]
        constructor
        · rintro ((w | ⟨j, w1, w2⟩) | w)
          · exact Or.inl w
          · exact Or.inr ⟨j, by omega, w2⟩
          · exact Or.inr ⟨i, by omega, by rw [hg, w]⟩
        · rintro (w | ⟨j, w1, w2⟩)
          · exact Or.inl (Or.inl w)
          · by_cases e2 : j = i
            · subst e2; rw [hg] at w2; exact Or.inr (Option.some.inj w2).symm
            · exact Or.inl (Or.inr ⟨j, by omega, w2⟩)
      by_cases w : pb (M k = true ∨ (∃ j, j < i ∧ R[j]? = some (a_ld z k))) = true ∨ a_ld z k = r
      · rw [if_pos w, if_pos (e.mp w)]
      · rw [if_neg w, if_neg (fun q => w (e.mpr q))]
theorem r_mark {n : Nat} (hn : 100000 ≤ n) {m : S_Md} {F : FS} {c : Nat} (hC : RM m F) (hF : FI F c) {p : Int32} : xoM (m_Md_mark n m p) m (sp_mark F p) := by
  have hC0 := hC
  obtain ⟨h1, ⟨st, h2⟩, h3, h4, h5, h6⟩ := hC
  have hw := hF.1
  have hb0 := hF.2.2.2.2.1
  unfold m_Md_mark
  rcases r_has (n := n) h1 h2 hw (by omega) p with ⟨x, hx, e⟩ | ⟨hx, e⟩
  · rw [e, xm_b_p, if_neg (by decide), hx.1]
    have hxl := al_lt hw hx.2
    refine xo_b _ (r_reach hn h1 h2 hw (by omega) (by omega) hx.2) (fun o d g => ?_)
    obtain ⟨rfl, R, w1, w2, w3, w4⟩ := g
    have hR0 : a_ld (f_z F) x ∈ R := List.mem_of_getElem? w2.2.2.2
    have hRr : ∀ y, y ∈ R ↔ a_rch (f_z F) x y := fun y => ⟨fun q => (w2.2.2.1 y q).2.2, fun q => rch_of hR0 w3 q⟩
    have k1 := RR_L w2 h1
    have k2 := RR_Z w2 h2
    have k3 : RMk o.2 (f_z F) (f_mk F) := by obtain ⟨⟨g, q, -⟩, -⟩ := w2; rw [q]; exact h3
    have k4 : RD o.2 (f_z F) (f_nd F) := by obtain ⟨⟨g, q, -⟩, -⟩ := w2; rw [q]; exact h4
    have k5 : RP o.2 (f_pu F) := by obtain ⟨⟨g, q, -⟩, -⟩ := w2; rw [q]; exact h5
    have k6 : RT o.2 (f_to F) := by obtain ⟨⟨g, q, -⟩, -⟩ := w2; rw [q]; exact h6
    have k7 : LMd o.2 = LMd m := by obtain ⟨⟨g, q, -⟩, -⟩ := w2; rw [q]; rfl
    have k8 : (Md_marked o.2).1 = 32768 := k1.1.2.2.2.2.2.1
    rw [w1]
    have hh := r_markRL (n := n) (m := o.2) (M := f_mk F) hn k1 k2 hw (by omega) (R := R) (fun k r hk => ⟨RR_at w2 hk, by have := al_lt hw (w2.2.2.1 r (List.mem_of_getElem? hk)).1; omega⟩) (by omega) (nI x) n 0 o.2 (Md_marked o.2).2 (by omega) (Nat.zero_le _) (by rw [← k8]) (fun k hk => by
      rw [k3 k hk]
      by_cases w : f_mk F k = true
      · rw [if_pos w, if_pos (Or.inl w)]
      · rw [if_neg w, if_neg (fun q => q.elim w (fun ⟨j, q, _⟩ => by omega))])
    rw [← nI0] at hh
    refine xo_b _ hh (fun o2 d2 g => ?_)
    obtain ⟨rfl, g2, q1, q2⟩ := g
    rw [q1]
    have hld : (Md_leaders o.2).1 = 32768 := k1.1.2.2.2.2.2.2.1
    refine xo_rd x rfl (by show x < (Md_leaders o.2).1; omega) (by omega) ?_
    refine xo_p ⟨_, Or.inl ⟨x, ⟨rfl, hx.2⟩, k2.2.2.2.2.2.1 x hx.2, rfl⟩, ⟨⟨⟨k1.1.1, k1.1.2.1, k1.1.2.2.1, k1.1.2.2.2.1, k1.1.2.2.2.2.1, rfl, k1.1.2.2.2.2.2.2⟩, k1.2⟩, ⟨st, k2⟩, fun i hi => ?_, k4, k5, k6⟩, ?_⟩
    · show g2 i = if mk_new F x i = true then 1 else 0
      rw [q2 i hi]
      have key : (f_mk F i = true ∨ a_ld (f_z F) i ∈ R) ↔ mk_new F x i = true := by
        unfold mk_new
        rw [pb_iff, hRr]
        exact ⟨fun w => w.imp id (fun w => ⟨hi, w⟩), fun w => w.imp id (fun w => w.2)⟩
      by_cases w : f_mk F i = true ∨ a_ld (f_z F) i ∈ R
      · rw [if_pos w, if_pos (key.mp w)]
      · rw [if_neg w, if_neg (fun q => w (key.mpr q))]
    · show 0 + (0 + 0) + 2 * LMd m ≤ 2 * LMd o.2
      rw [k7]
      omega
  · rw [e, xm_b_p, if_pos rfl]
    exact r_same hC0 (Or.inr ⟨hx, rfl, rfl⟩)
