theorem o_addPlain {n : Nat} (hn : 100000 ≤ n) {s : S_No} {z : AS} {st bd : Nat → Nat} {u lw : Nat} {mk : Nat → Bool} {ld : Nat → Nat} {nd : Nat → Prop} (hC : CN s z st bd u lw) (hM : CM s (a_t z) mk ld) (hD : CD s z nd) (hw : a_wf z) (ht : a_t z < 512) {k v : Int32} (hk : k = 0 ∨ k = 1 ∨ k = 2 ∨ k = 3 ∨ k = 4) : xo (m_No_addPlain n s k v) (fun o c => ∃ x, z_least z x ∧ o.1 = nI x ∧ CN o.2 (z_add z x k v []) (fun i => if i = x then 0 else st i) (fun i => if i = x then x else bd i) u (x + 1) ∧ CM o.2 (a_t (z_add z x k v [])) (fun _ => false) (a_ld (z_add z x k v [])) ∧ CD o.2 (z_add z x k v []) (fun r => r ≠ x ∧ nd r) ∧ c + 2 * LNo s ≤ 2 * LNo o.2) := by
  unfold m_No_addPlain
  have hv := hC.2.2.1.2.2.1
  have hc := cnt_le (fun i => decide (a_kd z i ≠ -1)) (a_t z)
  refine xo_lt _ 32768 hv (by decide +kernel) (by omega) (by omega) (fun _ => ?_) (fun q => absurd q (by omega))
  refine xo_b _ (o_low hn hC hw) (fun a c1 h1 => ?_)
  obtain ⟨e1, x, rfl, hx⟩ := h1
  refine xo_b _ (o_settle hn hC hM hD hw ht hx hk) (fun b c2 h2 => ?_)
  obtain ⟨g1, g2, g3, g4, g5, g6, g7⟩ := h2
  exact xo_p ⟨x, hx, g1, g2, g3, g4, by show c1 + (c2 + 0) + 2 * LNo s ≤ 2 * LNo b.2; omega⟩
theorem toInt_le {a b : Int32} : a ≤ b ↔ a.toInt ≤ b.toInt := Int32.le_iff_toInt_le
theorem toInt_lt {a b : Int32} : a < b ↔ a.toInt < b.toInt := Int32.lt_iff_toInt_lt
theorem rk_sub {c : Int32} {m : Int} (hc : c.toInt = m) (h0 : 0 ≤ m) (h1 : m ≤ 20000) {f : Int32} (h2 : -8192 ≤ f.toInt) (h3 : f.toInt ≤ 0) : (c - f).toInt = m - f.toInt := by
  rw [Int32.toInt_sub, hc]
  exact Int.bmod_eq_of_le (by omega) (by omega)
theorem o_rank {n : Nat} {f : Int32} (hf : a_feat f) : ∃ r : Int32, m_Ts_rank n f = xm_p r ∧ r.toInt = a_rk f := by
  unfold m_Ts_rank a_rk
  rcases hf with ⟨h1, h2⟩ | ⟨h1, h2⟩
  · refine ⟨f, ?_, by rw [if_pos h1]⟩
    rw [if_neg (fun q => by rw [toInt_le] at q; simp at q; omega)]
  · refine ⟨_, by rw [if_pos (by rw [toInt_le]; simp; omega)], ?_⟩
    rw [if_neg (by omega)]
    exact rk_sub (by decide) (by omega) (by omega) h1 (by omega)
theorem xm_b_p {α β : Type} {a : α} {f : α → MO β} : xm_b (xm_p a) f = f a := by
  unfold xm_b xm_p
  cases h : f a with
  | none => simp [h]
  | some y => obtain ⟨b, k⟩ := y; simp [h]
/-- the row with a gap at i, what stood from i on moved up by one, up to m -/
def gapf (f : Nat → Int32) (i m : Nat) : Nat → Int32 := fun j => if i < j ∧ j ≤ m then f (j - 1) else f j
theorem o_insL {n : Nat} {pu : List (Int32 × Nat)} {f p : Int32} (hf : a_feat f) (hpu : ∀ q ∈ pu, a_feat q.1) (hl : pu.length ≤ 255) {F G : Nat → Int32} (hF : ∀ k q, pu[k]? = some q → F k = q.1) {lf lg : Nat} (hlf : pu.length + 1 ≤ lf) (hlg : pu.length + 1 ≤ lg) (z : Int32) : ∀ (fuel i : Nat) (s : S_Pu), i < fuel → i ≤ pu.length → s = ((lf, gapf F i pu.length), (lg, gapf G i pu.length), z) → xo (L_Pu_insert_39 f p n fuel (nI i) s) (fun o c => c = 0 ∧ o.1 = nI (p_at pu f i) ∧ o.2 = ((lf, gapf F (p_at pu f i) pu.length), (lg, gapf G (p_at pu f i) pu.length), z)) := by
  intro fuel
  induction fuel with
  | zero => intro i s h; omega
  | succ fuel ih =>
    intro i s h1 h2 h3
    rw [L_Pu_insert_39_s]
    refine xo_le i 0 rfl nI0 (by omega) (by omega) (fun q => ?_) (fun q => ?_)
    · have : i = 0 := by omega
      subst this
      exact xo_p ⟨rfl, rfl, h3⟩
    · obtain ⟨j, rfl⟩ : ∃ j, i = j + 1 := ⟨i - 1, by omega⟩
      have e1 : nI (j + 1) - (1 : Int32) = nI j := nI_pred j
      have e2 : nI (j + 1) + (-1 : Int32) = nI j := pk_m1 j
      rw [e1, e2]
      subst h3
      have hg : pu[j]? = some pu[j] := List.getElem?_eq_getElem (by omega)
      have hFj : gapf F (j + 1) pu.length j = F j := by unfold gapf; rw [if_neg (by omega)]
      have hGj : gapf G (j + 1) pu.length j = G j := by unfold gapf; rw [if_neg (by omega)]
      have hq := hF j _ hg
      refine xo_rd j rfl (by show j < lf; omega) (by omega) ?_
      show xo (xm_b (m_Ts_rank n (gapf F (j + 1) pu.length j)) _) _
      rw [hFj, hq]
      obtain ⟨r1, er1, hr1⟩ := o_rank (n := n) (hpu _ (List.getElem_mem (by omega : j < pu.length)))
      obtain ⟨r2, er2, hr2⟩ := o_rank (n := n) hf
      rw [er1, xm_b_p, er2, xm_b_p]
      have ep : p_at pu f (j + 1) = if a_rk f < a_rk pu[j].1 then p_at pu f j else j + 1 := by
        show (match pu[j]? with | some q => if a_rk f < a_rk q.1 then p_at pu f j else j + 1 | none => j + 1) = _
        rw [hg]
      refine xo_if (fun c => ?_) (fun c => ?_)
      · rw [toInt_le, hr1, hr2] at c
        rw [ep, if_neg (by omega)]
        exact xo_p ⟨rfl, rfl, rfl⟩
      · rw [toInt_le, hr1, hr2] at c
        rw [ep, if_pos (by omega)]
        refine xo_rd j rfl (by show j < lf; omega) (by omega) ?_
        refine xo_wr (j + 1) rfl (by show j + 1 < lf; omega) (by omega) ?_
        refine xo_rd j rfl (by show j < lg; omega) (by omega) ?_
        refine xo_wr (j + 1) rfl (by show j + 1 < lg; omega) (by omega) ?_
        refine ih j _ (by omega) (by omega) ?_
        have key : ∀ H : Nat → Int32, upd (gapf H (j + 1) pu.length) (j + 1) (gapf H (j + 1) pu.length j) = gapf H j pu.length := by
          intro H
          funext m
          unfold gapf
          rw [upd_at]
          by_cases a1 : m = j + 1
          · subst a1
            rw [if_pos rfl, if_neg (by omega), if_pos (by omega)]
            rfl
          · rw [if_neg a1]
            by_cases a2 : j + 1 < m ∧ m ≤ pu.length
            · rw [if_pos a2, if_pos (by omega)]
            · rw [if_neg a2, if_neg (by omega)]
        show (((lf, upd (gapf F (j + 1) pu.length) (j + 1) (gapf F (j + 1) pu.length j)) : Ar), ((lg, upd (gapf G (j + 1) pu.length) (j + 1) (gapf G (j + 1) pu.length j)) : Ar), z) = _
        rw [key F, key G]
theorem o_insert {n : Nat} {s : S_Pu} {pu : List (Int32 × Nat)} {f : Int32} {x : Nat} (hn : 100000 ≤ n) (h : CP s pu) (hf : a_feat f) (hpu : ∀ q ∈ pu, a_feat q.1) (hl : pu.length < 255) : xo (m_Pu_insert n s f (nI x)) (fun o c => CP o (p_ins pu (p_at pu f pu.length) (f, x)) ∧ c + 2 * LPu s ≤ 2 * LPu o) := by
  obtain ⟨h1, h2, h3, h4, h5⟩ := h
  unfold m_Pu_insert
  rw [h3, nI1, nI_add]
  refine xo_b _ (o_roomK h1 (m := pu.length + 1) (by omega)) (fun a1 c1 g1 => ?_)
  refine xo_b _ (o_roomK h2 (m := pu.length + 1) (by omega)) (fun a2 c2 g2 => ?_)
  obtain ⟨p1, q1, r1, t1⟩ := g1
  obtain ⟨p2, q2, r2, t2⟩ := g2
  have hlen : ∀ k q, pu[k]? = some q → k < pu.length := fun k q hq => (List.getElem?_eq_some_iff.mp hq).1
  have hgap : ∀ H : Nat → Int32, gapf H pu.length pu.length = H := fun H => by
    funext j
    unfold gapf
    rw [if_neg (by omega)]
  have hL := o_insL (n := n) (p := nI x) hf hpu (by omega) (F := a1.2) (G := a2.2) (fun k q hq => by rw [r1 k (Nat.lt_of_lt_of_le (hlen k q hq) h1.2.2)]; exact (h5 k q hq).1) p1.2.2 p2.2.2 (nI pu.length) n pu.length (a1, a2, nI pu.length) (by omega) (Nat.le_refl _) (by rw [hgap, hgap])
  have hle := p_at_le pu f pu.length
  generalize hi : p_at pu f pu.length = i at hL hle ⊢
  refine xo_b _ hL (fun o3 c3 g3 => ?_)
  obtain ⟨e1, e2, e3⟩ := g3
  rw [e2, e3]
  have b1 := p1.2.2
  have b2 := p2.2.2
  have b3 := p1.2.1
  have b4 := p2.2.1
  refine xo_wr i rfl (by show i < a1.1; omega) (by omega) ?_
  refine xo_wr i rfl (by show i < a2.1; omega) (by omega) ?_
  have hln := p_ins_len (q := (f, x)) hle
  refine xo_p ⟨⟨⟨p1.1, p1.2.1, by rw [hln]; exact b1⟩, ⟨p2.1, p2.2.1, by rw [hln]; exact b2⟩, ?_, by rw [hln]; omega, ?_⟩, ?_⟩
  · show nI pu.length + nI 1 = _
    rw [nI_add, hln]
  · intro k q hq
    rw [p_ins_at hle] at hq
    show upd (gapf a1.2 i pu.length) i f k = q.1 ∧ upd (gapf a2.2 i pu.length) i (nI x) k = nI q.2
    rw [upd_at, upd_at]
    by_cases k1 : k < i
    · rw [if_pos k1] at hq
      rw [if_neg (by omega), if_neg (by omega)]
      unfold gapf
      rw [if_neg (by omega), if_neg (by omega), r1 k (Nat.lt_of_lt_of_le (hlen k q hq) h1.2.2), r2 k (Nat.lt_of_lt_of_le (hlen k q hq) h2.2.2)]
      exact h5 k q hq
    · rw [if_neg k1] at hq
      by_cases k2 : k = i
      · rw [if_pos k2] at hq
        cases hq
        rw [if_pos k2, if_pos k2]
        exact ⟨rfl, rfl⟩
      · rw [if_neg k2] at hq
        have := hlen _ _ hq
        rw [if_neg k2, if_neg k2]
        unfold gapf
        rw [if_pos (by omega), if_pos (by omega), r1 (k - 1) (Nat.lt_of_lt_of_le this h1.2.2), r2 (k - 1) (Nat.lt_of_lt_of_le this h2.2.2)]
        exact h5 (k - 1) q hq
  · show c1 + (c2 + (c3 + 0)) + 2 * ((Pu_features s).1 + (Pu_parts s).1) ≤ 2 * (a1.1 + a2.1)
    omega
