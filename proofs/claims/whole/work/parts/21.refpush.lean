abbrev Md_set_PP (m : S_Md) (a b : Ar) : S_Md := (Md_kinds m, Md_values m, Md_firsts m, Md_manies m, Md_said m, Md_marked m, Md_leaders m, Md_trial m, Md_shown m, Md_end m, Md_nodes m, Md_features m, Md_parts m, Md_fields m, a, b, Md_pushed m, Md_touched m, Md_touches m, Md_reached m, Md_blocks m, Md_newBlocks m, Md_places m, Md_written m, Md_other m, Md_length m)
theorem r_has {n : Nat} {m : S_Md} {z : AS} {st : Nat → Nat} (hL : RL m) (hZ : RZ m z st) (hw : a_wf z) (ht : a_t z ≤ 512) (p : Int32) : (∃ j, a_is z p j ∧ m_Md_has n m p = xm_p 1) ∨ ((∀ j, ¬ a_is z p j) ∧ m_Md_has n m p = xm_p 0) := by
  have hl := hL.1.1
  have hT := hZ.1.1
  have hk := hZ.2.1
  unfold m_Md_has
  rcases pk_ix p (n := a_t z) (by omega) with h | h | ⟨j, hj, rfl⟩
  · rw [if_pos h]
    exact Or.inr ⟨fun j q => nI_pos (n := j) (by have := al_lt hw q.2; omega) (q.1 ▸ h), rfl⟩
  · have h0 : ¬ p < 0 := fun q => by
      rw [toInt_lt] at q
      rw [toInt_le, nI_toInt (by omega)] at h
      simp at q
      omega
    rw [if_neg h0, hT, if_pos h]
    refine Or.inr ⟨fun j q => ?_, rfl⟩
    have l := al_lt hw q.2
    rw [q.1] at h
    have := (nI_leI (by omega) (by omega)).mp h
    omega
  · rw [if_neg (nI_pos (by omega)), hT, if_neg (fun q => by have := (nI_leI (by omega) (by omega)).mp q; omega)]
    rw [xm_rd_eq (by omega) (by omega), hk j (by omega)]
    by_cases e : a_kd z j = -1
    · rw [if_pos e]
      refine Or.inr ⟨fun i q => ?_, rfl⟩
      have l := al_lt hw q.2
      have := (nI_eq (by omega) (by omega)).mp q.1
      subst this
      exact q.2 e
    · rw [if_neg e]
      exact Or.inl ⟨j, ⟨rfl, e⟩, rfl⟩
theorem r_rank {n : Nat} {f : Int32} (hf : a_feat f) : ∃ r : Int32, m_Md_rank n f = xm_p r ∧ r.toInt = if 0 < f.toInt then f.toInt else 10000 - f.toInt := by
  unfold m_Md_rank
  rcases hf with ⟨h1, h2⟩ | ⟨h1, h2⟩
  · refine ⟨f, ?_, by rw [if_pos h1]⟩
    rw [if_neg (fun q => by rw [toInt_le] at q; simp at q; omega)]
  · refine ⟨_, by rw [if_pos (by rw [toInt_le]; simp; omega)], ?_⟩
    rw [if_neg (by omega)]
    exact rk_sub (by decide) (by omega) (by omega) h1 (by omega)
theorem rk_cmp {f g : Int32} (hf : a_feat f) (hg : a_feat g) : ((if 0 < g.toInt then g.toInt else 10000 - g.toInt) ≤ (if 0 < f.toInt then f.toInt else 10000 - f.toInt)) ↔ a_rk g ≤ a_rk f := by
  unfold a_rk
  unfold a_feat at hf hg
  split <;> split <;> omega
/-- the first loop: is the feature free -/
theorem r_freeL {n : Nat} {m : S_Md} {pu : List (Int32 × Nat)} {f p : Int32} (hl : (Md_pushedFeatures m).1 = 255) (h : RP m pu) : ∀ (fuel i : Nat) (b : Int32), pu.length - i < fuel → i ≤ pu.length → b = 0 ∨ b = 1 → xo (L_Md_push_35 f p m n fuel b (nI i)) (fun o c => c = 0 ∧ ((o.1 = 1 ∧ b = 1 ∧ ∀ k q, i ≤ k → pu[k]? = some q → q.1 ≠ f) ∨ (o.1 = 0 ∧ ¬ (b = 1 ∧ ∀ k q, i ≤ k → pu[k]? = some q → q.1 ≠ f)))) := by
  obtain ⟨h1, h2, h3⟩ := h
  intro fuel
  induction fuel with
  | zero => intro i b h; omega
  | succ fuel ih =>
    intro i b g1 g2 hb
    rw [L_Md_push_35_s]
    refine xo_le pu.length i h1 rfl (by omega) (by omega) (fun q => ?_) (fun q => ?_)
    · have hv : ∀ k a, i ≤ k → pu[k]? = some a → a.1 ≠ f := fun k a hk ha => by
        have := (List.getElem?_eq_some_iff.mp ha).1
        omega
      rcases hb with rfl | rfl
      · exact xo_p ⟨rfl, Or.inr ⟨rfl, fun q => absurd q.1 (by decide)⟩⟩
      · exact xo_p ⟨rfl, Or.inl ⟨rfl, rfl, hv⟩⟩
    · rcases hb with rfl | rfl
      · rw [if_pos rfl]
        exact xo_p ⟨rfl, Or.inr ⟨rfl, fun q => absurd q.1 (by decide)⟩⟩
      · rw [if_neg (by decide)]
        refine xo_rd i rfl (by omega) (by omega) ?_
        have hg : pu[i]? = some pu[i] := List.getElem?_eq_getElem q
        rw [(h3 i _ hg).1]
        refine xo_b (fun v c => c = 0 ∧ ((v = 0 ∧ pu[i].1 = f) ∨ (v = 1 ∧ pu[i].1 ≠ f))) (xo_if (fun e => xo_p ⟨rfl, Or.inl ⟨rfl, e⟩⟩) (fun e => xo_p ⟨rfl, Or.inr ⟨rfl, e⟩⟩)) (fun v c1 gv => ?_)
        obtain ⟨rfl, gv⟩ := gv
        rw [nI_1]
        rcases gv with ⟨rfl, e⟩ | ⟨rfl, e⟩
        · refine xo_m (ih (i + 1) 0 (by omega) (by omega) (Or.inl rfl)) (fun o c g => ⟨by omega, ?_⟩)
          rcases g.2 with ⟨-, w, -⟩ | ⟨w, -⟩
          · exact absurd w (by decide)
          · exact Or.inr ⟨w, fun q => q.2 i _ (Nat.le_refl _) hg e⟩
        · refine xo_m (ih (i + 1) 1 (by omega) (by omega) (Or.inr rfl)) (fun o c g => ⟨by omega, ?_⟩)
          rcases g.2 with ⟨w, -, hv⟩ | ⟨w, hv⟩
          · refine Or.inl ⟨w, rfl, fun k a hk ha => ?_⟩
            by_cases e2 : k = i
            · subst e2; rw [hg] at ha; cases ha; exact e
            · exact hv k a (by omega) ha
          · exact Or.inr ⟨w, fun q => hv ⟨rfl, fun k a hk ha => q.2 k a (by omega) ha⟩⟩
theorem r_insL {n : Nat} {m : S_Md} {pu : List (Int32 × Nat)} {f p y : Int32} (hf : a_feat f) (hpu : ∀ q ∈ pu, a_feat q.1) (hl : pu.length < 255) {F G : Nat → Int32} (hF : ∀ k q, pu[k]? = some q → F k = q.1) : ∀ (fuel i : Nat) (s : S_Md), i < fuel → i ≤ pu.length → s = Md_set_PP m (255, gapf F i pu.length) (255, gapf G i pu.length) → xo (L_Md_push_96 f p y n fuel (nI i) s) (fun o c => c = 0 ∧ o.1 = nI (p_at pu f i) ∧ o.2 = Md_set_PP m (255, gapf F (p_at pu f i) pu.length) (255, gapf G (p_at pu f i) pu.length)) := by
  intro fuel
  induction fuel with
  | zero => intro i s h; omega
  | succ fuel ih =>
    intro i s h1 h2 h3
    rw [L_Md_push_96_s]
    refine xo_le i 0 rfl nI0 (by omega) (by omega) (fun q => ?_) (fun q => ?_)
    · have : i = 0 := by omega
      subst this
      exact xo_p ⟨rfl, rfl, h3⟩
    · obtain ⟨j, rfl⟩ : ∃ j, i = j + 1 := ⟨i - 1, by omega⟩
      have e1 : nI (j + 1) - (1 : Int32) = nI j := nI_pred j
      have e2 : nI (j + 1) + (-1 : Int32) = nI j := pk_m1 j
      rw [e1, e2]
      subst h3
      have hg : pu[j]? = some pu[j] := List.getElem?_eq_getElem (by omega)
      have hFj : gapf F (j + 1) pu.length j = F j := by unfold gapf; rw [if_neg (by omega)]
      have hq := hF j _ hg
      have hfj := hpu _ (List.getElem_mem (by omega : j < pu.length))
      refine xo_rd j rfl (by show j < 255; omega) (by omega) ?_
      show xo (xm_b (m_Md_rank n (gapf F (j + 1) pu.length j)) _) _
      rw [hFj, hq]
      obtain ⟨r1, er1, hr1⟩ := r_rank (n := n) hfj
      obtain ⟨r2, er2, hr2⟩ := r_rank (n := n) hf
      rw [er1, xm_b_p, er2, xm_b_p]
      have ep : p_at pu f (j + 1) = if a_rk f < a_rk pu[j].1 then p_at pu f j else j + 1 := by
        show (match pu[j]? with | some q => if a_rk f < a_rk q.1 then p_at pu f j else j + 1 | none => j + 1) = _
        rw [hg]
      refine xo_if (fun c => ?_) (fun c => ?_)
      · rw [toInt_le, hr1, hr2, rk_cmp hf hfj] at c
        rw [ep, if_neg (by omega)]
        exact xo_p ⟨rfl, rfl, rfl⟩
      · rw [toInt_le, hr1, hr2, rk_cmp hf hfj] at c
        rw [ep, if_pos (by omega)]
        refine xo_rd j rfl (by show j < 255; omega) (by omega) ?_
        refine xo_wr (j + 1) rfl (by show j + 1 < 255; omega) (by omega) ?_
        refine xo_rd j rfl (by show j < 255; omega) (by omega) ?_
        refine xo_wr (j + 1) rfl (by show j + 1 < 255; omega) (by omega) ?_
        refine ih j _ (by omega) (by omega) ?_
        have key : ∀ H : Nat → Int32, upd (gapf H (j + 1) pu.length) (j + 1) (gapf H (j + 1) pu.length j) = gapf H j pu.length := by
          intro H
          funext k
          unfold gapf
          rw [upd_at]
          by_cases a1 : k = j + 1
          · subst a1
            rw [if_pos rfl, if_neg (by omega), if_pos (by omega)]
            rfl
          · rw [if_neg a1]
            by_cases a2 : j + 1 < k ∧ k ≤ pu.length
            · rw [if_pos a2, if_pos (by omega)]
            · rw [if_neg a2, if_neg (by omega)]
        show Md_set_PP m (255, upd (gapf F (j + 1) pu.length) (j + 1) (gapf F (j + 1) pu.length j)) (255, upd (gapf G (j + 1) pu.length) (j + 1) (gapf G (j + 1) pu.length j)) = _
        rw [key F, key G]
/-- nothing changes -/
theorem r_same {m : S_Md} {F : FS} {a : Int32} (hC : RM m F) {sp : Int32 → FS → Prop} (h : sp a F) : xoM (xm_p (a, m)) m sp := xo_p ⟨F, h, hC, by show 0 + 2 * LMd m ≤ 2 * LMd m; omega⟩
theorem r_sm {m : S_Md} {F : FS} {a : Int32} {d : Nat} (hd : d = 0) (hC : RM m F) {sp : Int32 → FS → Prop} (h : sp a F) : xo (xm_p (a, m)) (fun o c => ∃ F', sp o.1 F' ∧ RM o.2 F' ∧ d + c + 2 * LMd m ≤ 2 * LMd o.2) := xo_p ⟨F, h, hC, by show d + 0 + 2 * LMd m ≤ 2 * LMd m; omega⟩
theorem r_push {n : Nat} (hn : 100000 ≤ n) {m : S_Md} {F : FS} {c : Nat} (hC : RM m F) (hF : FI F c) {f p : Int32} : xoM (m_Md_push n m f p) m (sp_push F f p) := by
  have hC0 := hC
  obtain ⟨h1, ⟨st, h2⟩, h3, h4, h5, h6⟩ := hC
  have hb := hF.2.2.2.2.1
  have l3 := h1.2.1.2.2.1
  have l4 := h1.2.1.2.2.2
  unfold m_Md_push
  have e0 : (0 : Int32).toInt = 0 := by decide
  have e1 : (9999 : Int32).toInt = 9999 := by decide
  have e2 : (-8192 : Int32).toInt = -8192 := by decide
  obtain ⟨hh, hhe, hhv⟩ : ∃ v : Int32, m_Md_has n m p = xm_p v ∧ ((v = 1 ∧ ∃ j, a_is (f_z F) p j) ∨ (v = 0 ∧ ¬ ∃ j, a_is (f_z F) p j)) := by
    rcases r_has (n := n) h1 h2 hF.1 (by omega) p with ⟨j, hj, e⟩ | ⟨hj, e⟩
    · exact ⟨1, e, Or.inl ⟨rfl, j, hj⟩⟩
    · exact ⟨0, e, Or.inr ⟨rfl, fun q => q.elim hj⟩⟩
  rw [hhe, xm_b_p]
  refine xo_b (fun v c => c = 0 ∧ ((v = 1 ∧ (∃ j, a_is (f_z F) p j) ∧ a_feat f) ∨ (v = 0 ∧ ¬ ((∃ j, a_is (f_z F) p j) ∧ a_feat f)))) ?_ (fun v c1 g1 => ?_)
  · refine xo_if (fun q => ?_) (fun q => ?_)
    · refine xo_p ⟨rfl, Or.inr ⟨rfl, fun w => ?_⟩⟩
      rcases hhv with ⟨rfl, -⟩ | ⟨-, hno⟩
      · exact absurd q (by decide)
      · exact hno w.1
    · have hyes : ∃ j, a_is (f_z F) p j := by
        rcases hhv with ⟨-, hj⟩ | ⟨rfl, -⟩
        · exact hj
        · exact absurd rfl q
      refine xo_if (fun q1 => ?_) (fun q1 => ?_)
      · refine xo_p ⟨rfl, Or.inr ⟨rfl, fun w => ?_⟩⟩
        subst q1
        have := w.2
        unfold a_feat at this
        rw [e0] at this
        omega
      · refine xo_if (fun q2 => ?_) (fun q2 => ?_)
        · refine xo_p ⟨rfl, Or.inr ⟨rfl, fun w => ?_⟩⟩
          have := w.2
          unfold a_feat at this
          rw [toInt_lt, e1] at q2
          omega
        · rw [toInt_lt, e1] at q2
          refine xo_if (fun q3 => ?_) (fun q3 => ?_)
          · refine xo_p ⟨rfl, Or.inr ⟨rfl, fun w => ?_⟩⟩
            have := w.2
            unfold a_feat at this
            rw [toInt_lt, e2] at q3
            omega
          · rw [toInt_lt, e2] at q3
            refine xo_p ⟨rfl, Or.inl ⟨rfl, hyes, ?_⟩⟩
            unfold a_feat
            have h0 : f.toInt ≠ 0 := fun w => q1 (Int32.toInt_inj.mp (w.trans e0.symm))
            omega
  · obtain ⟨rfl, g1⟩ := g1
    have hfr := r_freeL (n := n) (f := f) (p := p) l3 h5 n 0 v (by omega) (Nat.zero_le _) (by rcases g1 with ⟨w, -⟩ | ⟨w, -⟩; exact Or.inr w; exact Or.inl w)
    rw [← nI0] at hfr
    have hv1 : v = 1 ↔ (∃ j, a_is (f_z F) p j) ∧ a_feat f := by
      rcases g1 with ⟨w, h⟩ | ⟨w, h⟩
      · exact ⟨fun _ => h, fun _ => w⟩
      · exact ⟨fun q => absurd (w.symm.trans q) (by decide), fun q => absurd q h⟩
    have hmem : (∀ k q, 0 ≤ k → (f_pu F)[k]? = some q → q.1 ≠ f) ↔ f ∉ (f_pu F).map Prod.fst := by
      constructor
      · intro hv hm
        obtain ⟨a, ha, e⟩ := List.mem_map.mp hm
        obtain ⟨k, hk⟩ := List.getElem?_of_mem ha
        exact hv k a (Nat.zero_le _) hk e
      · intro hm k q _ hq e
        exact hm (List.mem_map.mpr ⟨q, List.mem_of_getElem? hq, e⟩)
    refine xo_b _ hfr (fun o c2 g2 => ?_)
    obtain ⟨rfl, g2⟩ := g2
    by_cases ok : (∃ j, a_is (f_z F) p j) ∧ a_feat f ∧ f ∉ (f_pu F).map Prod.fst
    · have g2 : o.1 = 1 := by
        rcases g2 with ⟨w, -⟩ | ⟨-, w⟩
        · exact w
        · exact absurd ⟨hv1.mpr ⟨ok.1, ok.2.1⟩, hmem.mpr ok.2.2⟩ w
      rw [g2, if_neg (by decide)]
      obtain ⟨⟨j, hj⟩, hf, hnm⟩ := ok
      have h255 : (255 : Int32) = nI 255 := by decide +kernel
      refine xo_eq (f_pu F).length 255 h5.1 h255 (by have := h5.2.1; omega) (by omega) (fun q => ?_) (fun q => ?_)
      · refine xo_p ⟨F, Or.inl ⟨j, hj, hf, hnm, Or.inl ⟨by omega, rfl, rfl⟩⟩, hC0, by show 0 + (0 + 0) + 2 * LMd m ≤ 2 * LMd m; omega⟩
      · have hlt : (f_pu F).length < 255 := by have := h5.2.1; omega
        have hgap : ∀ H : Nat → Int32, gapf H (f_pu F).length (f_pu F).length = H := fun H => by
          funext j
          unfold gapf
          rw [if_neg (by omega)]
        have ea : ((255, (Md_pushedFeatures m).2) : Ar) = Md_pushedFeatures m := by rw [← l3]
        have eb : ((255, (Md_pushedParts m).2) : Ar) = Md_pushedParts m := by rw [← l4]
        have em : m = Md_set_PP m (255, gapf (Md_pushedFeatures m).2 (f_pu F).length (f_pu F).length) (255, gapf (Md_pushedParts m).2 (f_pu F).length (f_pu F).length) := by
          rw [hgap, hgap, ea, eb]
        have hL := r_insL (n := n) (m := m) (p := p) (y := 1) hf (fun q hq => (hF.2.1 q hq).1) hlt (F := (Md_pushedFeatures m).2) (G := (Md_pushedParts m).2) (fun k q hq => (h5.2.2 k q hq).1) n (f_pu F).length m (by omega) (Nat.le_refl _) em
        have hle := p_at_le (f_pu F) f (f_pu F).length
        rw [h5.1]
        generalize hi : p_at (f_pu F) f (f_pu F).length = i at hL hle
        refine xo_b _ hL (fun o3 c3 g3 => ?_)
        obtain ⟨rfl, g31, g32⟩ := g3
        rw [g31, g32, hj.1]
        refine xo_wr i rfl (by show i < 255; omega) (by omega) ?_
        refine xo_wr i rfl (by show i < 255; omega) (by omega) ?_
        have hln := p_ins_len (q := (f, j)) hle
        have hlen : ∀ k q, (f_pu F)[k]? = some q → k < (f_pu F).length := fun k q hq => (List.getElem?_eq_some_iff.mp hq).1
        refine xo_p ⟨(f_z F, f_nd F, f_mk F, p_ins (f_pu F) (p_at (f_pu F) f (f_pu F).length) (f, j), f_to F), Or.inl ⟨j, ⟨rfl, hj.2⟩, hf, hnm, Or.inr ⟨hlt, ?_, rfl⟩⟩, ⟨?_, ⟨st, h2⟩, h3, h4, ?_, h6⟩, by show 0 + (0 + (0 + 0)) + 2 * LMd m ≤ 2 * LMd m; omega⟩
        · show Md_pushed m + 1 = _
          rw [h5.1, nI_1]
        · exact ⟨h1.1, ⟨h1.2.1.1, h1.2.1.2.1, rfl, rfl⟩, h1.2.2⟩
        · rw [hi]
          refine ⟨?_, by rw [hln]; omega, ?_⟩
          · show Md_pushed m + 1 = nI _
            rw [h5.1, nI_1, hln]
          · intro k q hq
            rw [p_ins_at hle] at hq
            show upd (gapf (Md_pushedFeatures m).2 i (f_pu F).length) i f k = q.1 ∧ upd (gapf (Md_pushedParts m).2 i (f_pu F).length) i (nI j) k = nI q.2
            rw [upd_at, upd_at]
            by_cases k1 : k < i
            · rw [if_pos k1] at hq
              rw [if_neg (by omega), if_neg (by omega)]
              unfold gapf
              rw [if_neg (by omega), if_neg (by omega)]
              exact h5.2.2 k q hq
            · rw [if_neg k1] at hq
              by_cases k2 : k = i
              · rw [if_pos k2] at hq
                cases hq
                rw [if_pos k2, if_pos k2]
                exact ⟨rfl, rfl⟩
              · rw [if_neg k2] at hq
                have := hlen _ _ hq
                rw [if_neg k2, if_neg k2]
                unfold gapf
                rw [if_pos (by omega), if_pos (by omega)]
                exact h5.2.2 (k - 1) q hq
    · have g2 : o.1 = 0 := by
        rcases g2 with ⟨-, w1, w2⟩ | ⟨w, -⟩
        · exact absurd ⟨(hv1.mp w1).1, (hv1.mp w1).2, hmem.mp w2⟩ ok
        · exact w
      rw [g2, if_pos rfl]
      exact xo_p ⟨F, Or.inr ⟨ok, rfl, rfl⟩, hC0, by show 0 + (0 + 0) + 2 * LMd m ≤ 2 * LMd m; omega⟩
