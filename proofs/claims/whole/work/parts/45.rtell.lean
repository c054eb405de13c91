/-! the reference tells, asks and hangs -/
abbrev Md_set_TT (m : S_Md) (x0 : Ar) (x1 : Int32) : S_Md := (Md_kinds m, Md_values m, Md_firsts m, Md_manies m, Md_said m, Md_marked m, Md_leaders m, Md_trial m, Md_shown m, Md_end m, Md_nodes m, Md_features m, Md_parts m, Md_fields m, Md_pushedFeatures m, Md_pushedParts m, Md_pushed m, x0, x1, Md_reached m, Md_blocks m, Md_newBlocks m, Md_places m, Md_written m, Md_other m, Md_length m)
abbrev Md_set_TELL (m : S_Md) (x0 : Ar) (x1 : Ar) (x2 : Ar) (x3 : Ar) (x4 : Ar) (x5 : Int32) : S_Md := (Md_kinds m, Md_values m, Md_firsts m, Md_manies m, Md_said m, x0, x1, x2, x3, Md_end m, Md_nodes m, Md_features m, Md_parts m, Md_fields m, Md_pushedFeatures m, Md_pushedParts m, Md_pushed m, x4, x5, Md_reached m, Md_blocks m, Md_newBlocks m, Md_places m, Md_written m, Md_other m, Md_length m)
theorem r_chL {n : Nat} {m : S_Md} {z : AS} {st : Nat → Nat} (hL : RL m) (hZ : RZ m z st) (hw : a_wf z) (ht : a_t z ≤ 512) {R : Nat → Nat} (hR : ∀ i, al z i → (Md_trial m).2 i = nI (R i) ∧ R i < 512) {k : Nat} (hk : al z k) : ∀ (fuel i : Nat) (b : Int32), a_t z - i < fuel → i ≤ a_t z → b = 0 ∨ b = 1 → xo (L_Md_changes_39 (nI k) m n fuel b (nI i)) (fun o c => c = 0 ∧ ((o.1 = 1 ∧ (b = 1 ∨ ∃ j, i ≤ j ∧ al z j ∧ a_ld z j ≠ k ∧ R j = R k)) ∨ (o.1 = 0 ∧ ¬ (b = 1 ∨ ∃ j, i ≤ j ∧ al z j ∧ a_ld z j ≠ k ∧ R j = R k)))) := by
  obtain ⟨l1, l2, l3, l4, l5, l6, l7, l8⟩ := r_lens hL
  have lt := hL.1.2.2.2.2.2.2.2.1
  have hkl := al_lt hw hk
  intro fuel
  induction fuel with
  | zero => intro i b h; omega
  | succ fuel ih =>
    intro i b h1 h2 hb
    rw [L_Md_changes_39_s]
    refine xo_le _ _ hZ.1.1 rfl (by omega) (by omega) (fun q => ?_) (fun q => ?_)
    · rcases hb with rfl | rfl
      · refine xo_p ⟨rfl, Or.inr ⟨rfl, fun w => ?_⟩⟩
        rcases w with w | ⟨j, w1, w2, -⟩
        · exact absurd w (by decide)
        · have := al_lt hw w2
          omega
      · exact xo_p ⟨rfl, Or.inl ⟨rfl, Or.inl rfl⟩⟩
    · rcases hb with rfl | rfl
      · rw [if_pos rfl]
        refine xo_rd i rfl (by omega) (by omega) ?_
        rw [hZ.2.1 i (by omega)]
        refine xo_b (fun w c => c = 0 ∧ ((w = 1 ∧ al z i ∧ a_ld z i ≠ k ∧ R i = R k) ∨ (w = 0 ∧ ¬ (al z i ∧ a_ld z i ≠ k ∧ R i = R k)))) ?_ (fun w c gw => ?_)
        · refine xo_if (fun e => xo_p ⟨rfl, Or.inr ⟨rfl, fun w => w.1 e⟩⟩) (fun e => ?_)
          have hi : al z i := e
          refine xo_rd i rfl (by omega) (by omega) ?_
          rw [hZ.2.2.2.2.2.1 i hi]
          have b1 := al_lt hw (hw.2.2.1 i hi).2.1
          refine xo_eq _ _ rfl rfl (by omega) (by omega) (fun w => xo_p ⟨rfl, Or.inr ⟨rfl, fun w2 => w2.2.1 w⟩⟩) (fun w => ?_)
          refine xo_rd i rfl (by omega) (by omega) ?_
          refine xo_rd k rfl (by omega) (by omega) ?_
          obtain ⟨r1, r2⟩ := hR i hi
          obtain ⟨r3, r4⟩ := hR k hk
          rw [r1, r3]
          exact xo_eq _ _ rfl rfl (by omega) (by omega) (fun w2 => xo_p ⟨rfl, Or.inl ⟨rfl, hi, w, w2⟩⟩) (fun w2 => xo_p ⟨rfl, Or.inr ⟨rfl, fun w3 => w2 w3.2.2⟩⟩)
        · obtain ⟨rfl, gw⟩ := gw
          rw [nI_1]
          rcases gw with ⟨rfl, gw⟩ | ⟨rfl, gw⟩
          · refine xo_m (ih (i + 1) 1 (by omega) (by omega) (Or.inr rfl)) (fun o c g => ⟨by have := g.1; omega, ?_⟩)
            rcases g.2 with ⟨w, -⟩ | ⟨-, w⟩
            · exact Or.inl ⟨w, Or.inr ⟨i, Nat.le_refl _, gw⟩⟩
            · exact absurd (Or.inl rfl) w
          · refine xo_m (ih (i + 1) 0 (by omega) (by omega) (Or.inl rfl)) (fun o c g => ⟨by have := g.1; omega, ?_⟩)
            rcases g.2 with ⟨w, h⟩ | ⟨w, h⟩
            · rcases h with h | ⟨j, j1, j2⟩
              · exact absurd h (by decide)
              · exact Or.inl ⟨w, Or.inr ⟨j, by omega, j2⟩⟩
            · refine Or.inr ⟨w, fun q2 => h (q2.elim (fun e => absurd e (by decide)) (fun ⟨j, j1, j2⟩ => Or.inr ⟨j, ?_, j2⟩))⟩
              by_cases e3 : j = i
              · subst e3; exact absurd j2 gw
              · omega
      · rw [if_neg (by decide)]
        exact xo_p ⟨rfl, Or.inl ⟨rfl, Or.inl rfl⟩⟩
theorem r_changes {n : Nat} (hn : 100000 ≤ n) {m : S_Md} {z : AS} {st : Nat → Nat} (hL : RL m) (hZ : RZ m z st) (hw : a_wf z) (ht : a_t z ≤ 512) {x y : Nat} {R : Nat → Nat} (hm : e_min z x y R) (hR : ∀ i, al z i → (Md_trial m).2 i = nI (R i)) {k : Nat} (hk : k < a_t z) : xo (m_Md_changes n m (nI k)) (fun o c => c = 0 ∧ ((o = 1 ∧ e_hitb z x y k = true) ∨ (o = 0 ∧ ¬ e_hitb z x y k = true))) := by
  obtain ⟨l1, l2, l3, l4, l5, l6, l7, l8⟩ := r_lens hL
  have no : (¬ a_hit z x y k) → xo (xm_p (0 : Int32)) (fun o c => c = 0 ∧ ((o = 1 ∧ e_hitb z x y k = true) ∨ (o = 0 ∧ ¬ e_hitb z x y k = true))) := fun h => xo_p ⟨rfl, Or.inr ⟨rfl, fun w => h (pb_iff.mp w)⟩⟩
  have E := (e_self (z := z) (x := x) (y := y))
  unfold m_Md_changes
  refine xo_rd k rfl (by omega) (by omega) ?_
  rw [hZ.2.1 k (by omega)]
  refine xo_if (fun e => no (fun w => w.1 e)) (fun e => ?_)
  have hal : al z k := e
  refine xo_rd k rfl (by omega) (by omega) ?_
  rw [hZ.2.2.2.2.2.1 k hal]
  have b1 := al_lt hw (hw.2.2.1 k hal).2.1
  refine xo_eq _ _ rfl rfl (by omega) (by omega) (fun w => ?_) (fun w => no (fun q => w q.2.1))
  refine xo_b _ (r_meant hn hL hZ hw ht hal) (fun o c g => ?_)
  obtain ⟨rfl, b, hb, rfl⟩ := g
  have hbl := al_lt hw hb.1
  refine xo_rd b rfl (by omega) (by omega) ?_
  rw [hZ.2.1 b (by omega)]
  refine xo_if (fun e2 => ?_) (fun e2 => xo_m (no (fun q => e2 ((a_var_bd hb).mp (by rw [w]; exact q.2.2.1)))) (fun o c g => ⟨by have := g.1; omega, g.2⟩))
  have hv : a_var z k := by have := (a_var_bd hb).mpr e2; rwa [w] at this
  have hh := r_chL (n := n) hL hZ hw ht (R := R) (fun i hi => ⟨hR i hi, by have := (hm i).2 i (E.1.1 i); have := al_lt hw hi; omega⟩) hal n 0 0 (by omega) (Nat.zero_le _) (Or.inl rfl)
  rw [← nI0] at hh
  refine xo_b _ hh (fun o c g => ?_)
  obtain ⟨rfl, g⟩ := g
  rcases g with ⟨e3, g⟩ | ⟨e3, g⟩
  · rw [e3]
    refine xo_z (Or.inr rfl) (xo_p ⟨rfl, Or.inl ⟨rfl, pb_t ⟨hal, w, hv, ?_⟩⟩⟩)
    obtain ⟨j, -, j1, j2, j3⟩ := g.resolve_left (by decide)
    exact ⟨j, j1, j2, (e_min_iff hm).mpr j3⟩
  · rw [e3]
    refine xo_z (Or.inl rfl) (xo_p ⟨rfl, Or.inr ⟨rfl, fun q => g (Or.inr ?_)⟩⟩)
    obtain ⟨-, -, -, j, j1, j2, j3⟩ := pb_iff.mp q
    exact ⟨j, Nat.zero_le _, j1, j2, (e_min_iff hm).mp j3⟩
theorem r_tellL {n : Nat} (hn : 100000 ≤ n) {m : S_Md} {z : AS} {st : Nat → Nat} (hL : RL m) (hZ : RZ m z st) (hw : a_wf z) (ht : a_t z ≤ 512) {x y : Nat} {R : Nat → Nat} (hm : e_min z x y R) (hR : ∀ i, al z i → (Md_trial m).2 i = nI (R i)) (y1 y2 : Int32) : ∀ (fuel i : Nat) (s : S_Md) (to : Nat → Int32), a_t z - i < fuel → i ≤ a_t z → s = Md_set_TT m (32768, to) (nI ((List.range i).filter (e_hitb z x y)).length) → (∀ k h, ((List.range i).filter (e_hitb z x y))[k]? = some h → to k = nI h) → xo (L_Md_tell_34 y1 y2 n fuel (nI i) s) (fun o c => c = 0 ∧ ∃ to2 : Nat → Int32, o.2 = Md_set_TT m (32768, to2) (nI (e_hits z x y).length) ∧ ∀ k h, (e_hits z x y)[k]? = some h → to2 k = nI h) := by
  intro fuel
  induction fuel with
  | zero => intro i s to h; omega
  | succ fuel ih =>
    intro i s to h1 h2 es h3
    subst es
    rw [L_Md_tell_34_s]
    refine xo_le (a_t z) i hZ.1.1 rfl (by omega) (by omega) (fun q => ?_) (fun q => ?_)
    · have : i = a_t z := by omega
      subst this
      exact xo_p ⟨rfl, to, rfl, h3⟩
    · have hL2 : RL (Md_set_TT m (32768, to) (nI ((List.range i).filter (e_hitb z x y)).length)) := ⟨hL.1, hL.2.1, ⟨rfl, hL.2.2.1.2⟩, hL.2.2.2⟩
      have hZ2 : RZ (Md_set_TT m (32768, to) (nI ((List.range i).filter (e_hitb z x y)).length)) z st := hZ
      have hlen : ((List.range i).filter (e_hitb z x y)).length ≤ i := Nat.le_trans (List.length_filter_le _ _) (by rw [List.length_range]; exact Nat.le_refl _)
      refine xo_b _ (r_changes (n := n) (m := Md_set_TT m (32768, to) (nI ((List.range i).filter (e_hitb z x y)).length)) hn hL2 hZ2 hw ht hm hR q) (fun o c g => ?_)
      obtain ⟨rfl, g⟩ := g
      rcases g with ⟨rfl, e⟩ | ⟨rfl, e⟩
      · rw [if_neg (by decide)]
        have er : (List.range (i + 1)).filter (e_hitb z x y) = (List.range i).filter (e_hitb z x y) ++ [i] := by
          rw [List.range_succ, List.filter_append]
          simp [e]
        refine xo_wr ((List.range i).filter (e_hitb z x y)).length rfl (by show _ < 32768; omega) (by omega) ?_
        rw [nI_1]
        refine xo_m (ih (i + 1) _ (upd to ((List.range i).filter (e_hitb z x y)).length (nI i)) (by omega) (by omega) ?_ (fun k h hk => ?_)) (fun o c g => ⟨by have := g.1; omega, g.2⟩)
        · show Md_set_TT m _ (nI ((List.range i).filter (e_hitb z x y)).length + 1) = _
          rw [nI_1, er, List.length_append]
          rfl
        · rw [er] at hk
          rw [upd_at]
          rcases getElem?_snoc hk with hk | ⟨w1, w2⟩
          · have := (List.getElem?_eq_some_iff.mp hk).1
            rw [if_neg (by omega)]
            exact h3 k h hk
          · rw [if_pos w1, w2]
      · rw [if_pos rfl, nI_1]
        have er : (List.range (i + 1)).filter (e_hitb z x y) = (List.range i).filter (e_hitb z x y) := by
          rw [List.range_succ, List.filter_append]
          simp [e]
        refine xo_m (ih (i + 1) _ to (by omega) (by omega) (by rw [er]) (by rw [er]; exact h3)) (fun o c g => ⟨by have := g.1; omega, g.2⟩)
theorem TR_RM {m s : S_Md} {F : FS} {R : Nat → Nat} (h : TR m (f_z F) R s) (hC : RM m F) : RM s F ∧ LMd s = LMd m := by
  have hLs := TR_L h hC.1
  obtain ⟨tr, sh, rfl, -⟩ := h
  obtain ⟨h1, ⟨st, h2⟩, h3, h4, h5, h6⟩ := hC
  exact ⟨⟨hLs, ⟨st, h2⟩, h3, h4, h5, h6⟩, rfl⟩
theorem r_tell {n : Nat} (hn : 100000 ≤ n) {m : S_Md} {F : FS} {c : Nat} (hC : RM m F) (hF : FI F c) {p v : Int32} : xoM (m_Md_tell n m p v) m (sp_tell F p v) := by
  have hC0 := hC
  obtain ⟨h1, ⟨st, h2⟩, h3, h4, h5, h6⟩ := hC
  have hw := hF.1
  have hb0 := hF.2.2.2.2.1
  unfold m_Md_tell
  rcases r_has (n := n) h1 h2 hw (by omega) p with ⟨x, hx, e⟩ | ⟨hx, e⟩
  · rw [e, xm_b_p, if_neg (by decide)]
    rcases r_has (n := n) h1 h2 hw (by omega) v with ⟨y, hy, e2⟩ | ⟨hy, e2⟩
    · rw [e2, xm_b_p, if_neg (by decide), hx.1, hy.1]
      refine xo_b _ (r_suppose hn h1 h2 hw (by omega) (by omega) hx.2 hy.2) (fun o1 d1 g => ?_)
      obtain ⟨rfl, R, hT, g⟩ := g
      rcases g with ⟨e3, g⟩ | ⟨e3, g1, g2⟩
      · rw [e3, if_pos rfl]
        obtain ⟨k1, k2⟩ := TR_RM hT hC0
        refine xo_p ⟨F, Or.inr ⟨fun ⟨x', y', w1, w2, w3⟩ => ?_, rfl, rfl⟩, k1, by show 0 + 0 + 2 * LMd m ≤ 2 * LMd o1.2; omega⟩
        have q1 := a_is_inj hw (by omega) w1 ⟨rfl, hx.2⟩
        have q2 := a_is_inj hw (by omega) w2 ⟨rfl, hy.2⟩
        subst q1; subst q2
        exact w3 g
      · rw [e3, if_neg (by decide)]
        obtain ⟨⟨k1, ⟨st', k2⟩, k3, k4, k5, k6⟩, k7⟩ := TR_RM hT hC0
        have hRt := fun i hi => TR_at hT (i := i) hi
        generalize o1.2 = m1 at *
        clear hT
        have ltt : (Md_touched m1).1 = 32768 := k1.2.2.1.1
        have hh := r_tellL (n := n) hn k1 k2 hw (by omega) g2 hRt (nI x) (nI y) n 0 (Md_set_touches m1 0) (Md_touched m1).2 (by omega) (Nat.zero_le _) (by
          have a1 : ((32768, (Md_touched m1).2) : Ar) = Md_touched m1 := by rw [← ltt]
          rw [a1]
          show _ = Md_set_TT m1 _ (nI 0)
          rw [← nI0]) (fun k h hk => absurd (show ([] : List Nat)[k]? = some h from hk) (by simp))
        rw [← nI0] at hh
        refine xo_b _ hh (fun o2 d2 g => ?_)
        obtain ⟨rfl, to2, es2, ht2⟩ := g
        rw [es2]
        have lt1 := k1.1.2.2.2.2.2.2.2.1
        have ll1 := k1.1.2.2.2.2.2.2.1
        refine xo_cp 0 0 (a_t (f_z F)) nI0 nI0 k2.1.1 (by show 0 + _ ≤ (Md_trial m1).1; omega) (by show 0 + _ ≤ (Md_leaders m1).1; omega) (by omega) (by omega) ?_
        have hun := r_unmark (n := n) (t := a_t (f_z F)) (m := Md_set_TELL m1 (Md_marked m1) ((Md_leaders m1).1, va_cpy (Md_trial m1).2 (Md_leaders m1).2 0 0 (a_t (f_z F))) (Md_trial m1) (Md_shown m1) (32768, to2) (nI (e_hits (f_z F) x y).length)) hn (by omega) k2.1.1 k1.1.2.2.2.2.2.1
        refine xo_b _ hun (fun o3 d3 g => ?_)
        obtain ⟨rfl, gm, es3, g0⟩ := g
        have es4 : o3 = Md_set_TELL m1 (32768, gm) ((Md_leaders m1).1, va_cpy (Md_trial m1).2 (Md_leaders m1).2 0 0 (a_t (f_z F))) (Md_trial m1) (Md_shown m1) (32768, to2) (nI (e_hits (f_z F) x y).length) := es3
        rw [es4]
        obtain ⟨hS, c1, c2, c3, c4, c5, c6, c7, c8⟩ := k2
        have hwz := z_eq_wf hw hx.2 hy.2 g1 g2
        have E := (e_self (z := f_z F) (x := x) (y := y))
        have emin := fun i j => e_min_iff g2 (i := i) (j := j)
        have hRld : ∀ i, al (f_z F) i → R (a_ld (f_z F) i) = R i := fun i hi => ((emin _ _).mp (E.2.1 i hi)).symm
        have hlen := e_hits_len (z := f_z F) (x := x) (y := y)
        refine xo_p ⟨_, Or.inl ⟨x, y, R, ⟨rfl, hx.2⟩, ⟨rfl, hy.2⟩, g1, g2, rfl, rfl⟩, ⟨?_, ⟨st', ⟨hS, c1, c2, c3, c4, ?_, c6, c7, c8⟩⟩, ?_, ⟨k4.1, ?_⟩, k5, ⟨rfl, ?_, ht2⟩⟩, ?_⟩
        · exact ⟨⟨k1.1.1, k1.1.2.1, k1.1.2.2.1, k1.1.2.2.2.1, k1.1.2.2.2.2.1, rfl, ll1, lt1, k1.1.2.2.2.2.2.2.2.2⟩, k1.2.1, ⟨rfl, k1.2.2.1.2⟩, k1.2.2.2⟩
        · intro i hi
          have hi' : al (f_z F) i := hi
          have := al_lt hw hi'
          show va_cpy (Md_trial m1).2 (Md_leaders m1).2 0 0 (a_t (f_z F)) i = nI (R i)
          rw [pk_cpy_in (by omega) (by omega), Nat.zero_add, Nat.sub_zero]
          exact hRt i hi'
        · intro i hi
          exact g0 i (al_lt hw hi)
        · intro r hr hrl hrv
          have hvar : ∀ j, al (f_z F) j → R j = r → a_var (f_z F) (a_ld (f_z F) j) := fun j hj hjr i hi hil => hrv i hi (by
            show R i = r
            rw [← hRld i hi, hil, hRld j hj, hjr])
          show (∃ j, al (f_z F) j ∧ R j = r ∧ (Md_said m1).2 j = 1) ↔ ∃ j, al (f_z F) j ∧ R j = r ∧ f_nd F (a_ld (f_z F) j)
          constructor
          · rintro ⟨j, j1, j2, j3⟩
            exact ⟨j, j1, j2, (k4.2 _ (hw.2.2.1 j j1).2.1 (hw.2.2.1 j j1).2.2 (hvar j j1 j2)).mp ⟨j, j1, rfl, j3⟩⟩
          · rintro ⟨j, j1, j2, j3⟩
            obtain ⟨i, i1, i2, i3⟩ := (k4.2 _ (hw.2.2.1 j j1).2.1 (hw.2.2.1 j j1).2.2 (hvar j j1 j2)).mpr j3
            exact ⟨i, i1, by rw [← hRld i i1, i2, hRld j j1, j2], i3⟩
        · show (e_hits (f_z F) x y).length ≤ 512
          omega
        · show 0 + (0 + (0 + 0)) + 2 * LMd m ≤ 2 * LMd m1
          omega
    · rw [e2, xm_b_p, if_pos rfl]
      exact r_same hC0 (Or.inr ⟨fun ⟨x', y', w1, w2, w3⟩ => hy y' w2, rfl, rfl⟩)
  · rw [e, xm_b_p, if_pos rfl]
    exact r_same hC0 (Or.inr ⟨fun ⟨x', y', w1, w2, w3⟩ => hx x' w1, rfl, rfl⟩)
theorem r_askL {n : Nat} (hn : 100000 ≤ n) {m : S_Md} {z : AS} {st : Nat → Nat} (hL : RL m) (hZ : RZ m z st) (hw : a_wf z) (ht : a_t z ≤ 512) {x y : Nat} {R : Nat → Nat} (hm : e_min z x y R) (hR : ∀ i, al z i → (Md_trial m).2 i = nI (R i)) (y1 y2 : Int32) : ∀ (fuel i : Nat) (b : Int32), a_t z - i < fuel → i ≤ a_t z → ((b = 0 ∧ ∀ j, j < i → ¬ e_hitb z x y j = true) ∨ (b = 1 ∧ ∃ j, j < a_t z ∧ e_hitb z x y j = true)) → xo (L_Md_ask_35 y1 y2 m n fuel b (nI i)) (fun o c => c = 0 ∧ ((o.1 = 0 ∧ e_hits z x y = []) ∨ (o.1 = 1 ∧ e_hits z x y ≠ []))) := by
  have some1 : (∃ j, j < a_t z ∧ e_hitb z x y j = true) → e_hits z x y ≠ [] := fun ⟨j, j1, j2⟩ w => by
    have : j ∈ e_hits z x y := List.mem_filter.mpr ⟨List.mem_range.mpr j1, j2⟩
    rw [w] at this
    exact absurd this List.not_mem_nil
  intro fuel
  induction fuel with
  | zero => intro i b h; omega
  | succ fuel ih =>
    intro i b h1 h2 hb
    rw [L_Md_ask_35_s]
    refine xo_le (a_t z) i hZ.1.1 rfl (by omega) (by omega) (fun q => ?_) (fun q => ?_)
    · refine xo_p ⟨rfl, ?_⟩
      rcases hb with ⟨w1, w2⟩ | ⟨w1, w2⟩
      · refine Or.inl ⟨w1, ?_⟩
        unfold e_hits
        rw [List.filter_eq_nil_iff]
        exact fun j hj => w2 j (by have := List.mem_range.mp hj; omega)
      · exact Or.inr ⟨w1, some1 w2⟩
    · rcases hb with ⟨rfl, w2⟩ | ⟨rfl, w2⟩
      · rw [if_pos rfl]
        refine xo_b _ (r_changes (n := n) hn hL hZ hw ht hm hR q) (fun o c g => ?_)
        obtain ⟨rfl, g⟩ := g
        rw [nI_1]
        refine xo_m (ih (i + 1) o (by omega) (by omega) ?_) (fun o c g => ⟨by have := g.1; omega, g.2⟩)
        rcases g with ⟨w3, w4⟩ | ⟨w3, w4⟩
        · exact Or.inr ⟨w3, i, q, w4⟩
        · refine Or.inl ⟨w3, fun j hj => ?_⟩
          by_cases e : j = i
          · subst e; exact w4
          · exact w2 j (by omega)
      · rw [if_neg (by decide)]
        exact xo_p ⟨rfl, Or.inr ⟨rfl, some1 w2⟩⟩
theorem r_ask0 {n : Nat} (hn : 100000 ≤ n) {m : S_Md} {F : FS} {c : Nat} (hC : RM m F) (hF : FI F c) {p v : Int32} : xo (m_Md_ask n m p v) (fun o c => c = 0 ∧ RM o.2 F ∧ LMd o.2 = LMd m ∧ spi_ask F p v o.1 ∧ (o.1 = -1 → ∃ x y R, a_is (f_z F) p x ∧ a_is (f_z F) v y ∧ ¬ e_bad (f_z F) x y ∧ e_min (f_z F) x y R ∧ ∀ i, al (f_z F) i → (Md_trial o.2).2 i = nI (R i))) := by
  have hC0 := hC
  obtain ⟨h1, ⟨st, h2⟩, h3, h4, h5, h6⟩ := hC
  have hw := hF.1
  have hb0 := hF.2.2.2.2.1
  unfold m_Md_ask
  rcases r_has (n := n) h1 h2 hw (by omega) p with ⟨x, hx, e⟩ | ⟨hx, e⟩
  · rw [e, xm_b_p, if_neg (by decide)]
    rcases r_has (n := n) h1 h2 hw (by omega) v with ⟨y, hy, e2⟩ | ⟨hy, e2⟩
    · rw [e2, xm_b_p, if_neg (by decide), hx.1, hy.1]
      refine xo_b _ (r_suppose hn h1 h2 hw (by omega) (by omega) hx.2 hy.2) (fun o1 d1 g => ?_)
      obtain ⟨rfl, R, hT, g⟩ := g
      obtain ⟨k0, k7⟩ := TR_RM hT hC0
      rcases g with ⟨e3, g⟩ | ⟨e3, g1, g2⟩
      · rw [e3, if_pos rfl]
        exact xo_p ⟨rfl, k0, k7, Or.inr ⟨x, y, ⟨rfl, hx.2⟩, ⟨rfl, hy.2⟩, Or.inl ⟨g, rfl⟩⟩, fun w => absurd (show (0 : Int32) = -1 from w) (by decide)⟩
      · rw [e3, if_neg (by decide)]
        obtain ⟨st', k2⟩ := k0.2.1
        have hRt := fun i hi => TR_at hT (i := i) hi
        have hh := r_askL (n := n) hn k0.1 k2 hw (by omega) g2 hRt (nI x) (nI y) n 0 0 (by omega) (Nat.zero_le _) (Or.inl ⟨rfl, fun j hj => by omega⟩)
        rw [← nI0] at hh
        refine xo_b _ hh (fun o2 c2 g => ?_)
        obtain ⟨rfl, g⟩ := g
        rcases g with ⟨e4, g⟩ | ⟨e4, g⟩
        · rw [e4, if_pos rfl]
          exact xo_p ⟨rfl, k0, k7, Or.inr ⟨x, y, ⟨rfl, hx.2⟩, ⟨rfl, hy.2⟩, Or.inr ⟨g1, Or.inl ⟨g, rfl⟩⟩⟩, fun w => absurd (show (1 : Int32) = -1 from w) (by decide)⟩
        · rw [e4, if_neg (by decide)]
          exact xo_p ⟨rfl, k0, k7, Or.inr ⟨x, y, ⟨rfl, hx.2⟩, ⟨rfl, hy.2⟩, Or.inr ⟨g1, Or.inr ⟨g, rfl⟩⟩⟩, fun _ => ⟨x, y, R, ⟨rfl, hx.2⟩, ⟨rfl, hy.2⟩, g1, g2, hRt⟩⟩
    · rw [e2, xm_b_p, if_pos rfl]
      exact xo_p ⟨rfl, hC0, rfl, Or.inl ⟨fun ⟨x', y', w1, w2⟩ => hy y' w2, rfl⟩, fun w => absurd (show (-2 : Int32) = -1 from w) (by decide)⟩
  · rw [e, xm_b_p, if_pos rfl]
    exact xo_p ⟨rfl, hC0, rfl, Or.inl ⟨fun ⟨x', y', w1, w2⟩ => hx x' w1, rfl⟩, fun w => absurd (show (-2 : Int32) = -1 from w) (by decide)⟩
theorem r_ask {n : Nat} (hn : 100000 ≤ n) {m : S_Md} {F : FS} {c : Nat} (hC : RM m F) (hF : FI F c) {p v : Int32} : xoM (m_Md_ask n m p v) m (fun r F' => spi_ask F p v r ∧ F' = F) := xo_m (r_ask0 hn hC hF) (fun o d g => ⟨F, ⟨g.2.2.2.1, rfl⟩, g.2.1, by have := g.1; have := g.2.2.1; omega⟩)
theorem hits_at {h : Nat → Bool} {j : Nat} (hj : h j = true) : ∀ t, j < t → ((List.range t).filter h)[((List.range j).filter h).length]? = some j := by
  intro t
  induction t with
  | zero => intro h; omega
  | succ t ih =>
    intro hlt
    rw [List.range_succ, List.filter_append]
    by_cases e : j = t
    · subst e
      rw [List.getElem?_append_right (Nat.le_refl _), Nat.sub_self]
      simp [hj]
    · have := ih (by omega)
      have hk := (List.getElem?_eq_some_iff.mp this).1
      rw [List.getElem?_append_left hk]
      exact this
theorem r_hangsL {n : Nat} (hn : 100000 ≤ n) {m : S_Md} {z : AS} {st : Nat → Nat} (hL : RL m) (hZ : RZ m z st) (hw : a_wf z) (ht : a_t z ≤ 512) {x y : Nat} {R : Nat → Nat} (hm : e_min z x y R) (hR : ∀ i, al z i → (Md_trial m).2 i = nI (R i)) (y1 y2 : Int32) {g : Nat} (hg : g < 2 ^ 31) : ∀ (fuel i : Nat), a_t z - i < fuel → i ≤ a_t z → ((List.range i).filter (e_hitb z x y)).length ≤ g → xo (L_Md_hangs_22 y1 y2 (nI g) m n fuel (nI ((List.range i).filter (e_hitb z x y)).length) (nI i)) (fun o c => c = 0 ∧ ((∃ e, o = .inl e ∧ (e_hits z x y)[g]? = none) ∨ (∃ h, o = .inr (nI h, m) ∧ (e_hits z x y)[g]? = some h))) := by
  intro fuel
  induction fuel with
  | zero => intro i h; omega
  | succ fuel ih =>
    intro i h1 h2 h3
    have hlen : ((List.range i).filter (e_hitb z x y)).length ≤ i := Nat.le_trans (List.length_filter_le _ _) (by rw [List.length_range]; exact Nat.le_refl _)
    rw [L_Md_hangs_22_s]
    refine xo_le (a_t z) i hZ.1.1 rfl (by omega) (by omega) (fun q => ?_) (fun q => ?_)
    · have : i = a_t z := by omega
      subst this
      exact xo_p ⟨rfl, Or.inl ⟨_, rfl, List.getElem?_eq_none h3⟩⟩
    · refine xo_b _ (r_changes (n := n) hn hL hZ hw ht hm hR q) (fun o c gc => ?_)
      obtain ⟨rfl, gc⟩ := gc
      rcases gc with ⟨rfl, e⟩ | ⟨rfl, e⟩
      · rw [if_neg (by decide)]
        have er : ((List.range (i + 1)).filter (e_hitb z x y)).length = ((List.range i).filter (e_hitb z x y)).length + 1 := by
          rw [List.range_succ, List.filter_append]
          simp [e]
        refine xo_eq _ _ rfl rfl (by omega) hg (fun w => ?_) (fun w => ?_)
        · refine xo_p ⟨rfl, Or.inr ⟨i, rfl, ?_⟩⟩
          have := hits_at e (a_t z) q
          rw [w] at this
          exact this
        · rw [nI_1, nI_1]
          have := ih (i + 1) (by omega) (by omega) (by rw [er]; omega)
          rw [er] at this
          exact xo_m this (fun o c g => ⟨by have := g.1; omega, g.2⟩)
      · rw [if_pos rfl, nI_1]
        have er : ((List.range (i + 1)).filter (e_hitb z x y)).length = ((List.range i).filter (e_hitb z x y)).length := by
          rw [List.range_succ, List.filter_append]
          simp [e]
        have := ih (i + 1) (by omega) (by omega) (by rw [er]; exact h3)
        rw [er] at this
        exact xo_m this (fun o c g => ⟨by have := g.1; omega, g.2⟩)
theorem r_hangs {n : Nat} (hn : 100000 ≤ n) {m : S_Md} {F : FS} {c : Nat} (hC : RM m F) (hF : FI F c) {p v i : Int32} : xoM (m_Md_hangs n m p v i) m (fun r F' => spi_hangs F p v i r ∧ F' = F) := by
  have hw := hF.1
  have hb0 := hF.2.2.2.2.1
  unfold m_Md_hangs
  refine xo_b _ (r_ask0 hn hC hF) (fun o d g => ?_)
  obtain ⟨rfl, g1, g2, g3, g4⟩ := g
  have fin : ∀ r : Int32, spi_hangs F p v i r → xo (xm_p ((r, o.2) : Int32 × S_Md)) (fun b c => ∃ F', (spi_hangs F p v i b.1 ∧ F' = F) ∧ RM b.2 F' ∧ 0 + c + 2 * LMd m ≤ 2 * LMd b.2) := fun r hr => xo_p ⟨F, ⟨hr, rfl⟩, g1, by show 0 + 0 + 2 * LMd m ≤ 2 * LMd o.2; omega⟩
  refine xo_if (fun e => ?_) (fun e => ?_)
  · obtain ⟨x, y, R, k1, k2, k3, k4, k5⟩ := g4 e
    obtain ⟨st', k6⟩ := g1.2.1
    refine xo_if (fun e2 => ?_) (fun e2 => ?_)
    · have e0 : (0 : Int32).toInt = 0 := by decide
      obtain ⟨k, hk, rfl⟩ := nI_of (x := i) (fun w => by rw [toInt_lt, e0] at w; rw [toInt_le, e0] at e2; omega)
      have hh := r_hangsL (n := n) hn g1.1 k6 hw (by omega) k4 k5 p v hk n 0 (by omega) (Nat.zero_le _) (Nat.zero_le _)
      rw [show nI ((List.range 0).filter (e_hitb (f_z F) x y)).length = (0 : Int32) from nI0.symm, ← nI0] at hh
      refine xo_b _ hh (fun o2 c2 g => ?_)
      obtain ⟨rfl, g⟩ := g
      rcases g with ⟨e3, rfl, g⟩ | ⟨h, rfl, g⟩
      · refine xo_m (fin (-1) (Or.inr ⟨x, y, k1, k2, k3, Or.inr ⟨fun ⟨k', h, w1, w2, w3⟩ => ?_, rfl⟩⟩)) (fun b c w => ?_)
        · have := (nI_eq hk w1).mp w2
          subst this
          rw [g] at w3
          exact absurd w3 (by simp)
        · obtain ⟨F', w1, w2, w3⟩ := w
          exact ⟨F', w1, w2, by omega⟩
      · refine xo_m (fin (nI h) (Or.inr ⟨x, y, k1, k2, k3, Or.inl ⟨k, h, hk, rfl, g, rfl⟩⟩)) (fun b c w => ?_)
        obtain ⟨F', w1, w2, w3⟩ := w
        exact ⟨F', w1, w2, by omega⟩
    · refine fin (-1) (Or.inr ⟨x, y, k1, k2, k3, Or.inr ⟨fun ⟨k', h, w1, w2, w3⟩ => e2 ?_, rfl⟩⟩)
      rw [w2]
      exact nI_pos' w1
  · refine fin (-1) ?_
    rcases g3 with ⟨w1, w2⟩ | ⟨x, y, w1, w2, w3⟩
    · exact Or.inl ⟨fun ⟨x', y', q1, q2, q3⟩ => w1 ⟨x', y', q1, q2⟩, rfl⟩
    · rcases w3 with ⟨w3, w4⟩ | ⟨w3, w4⟩
      · refine Or.inl ⟨fun ⟨x', y', q1, q2, q3⟩ => ?_, rfl⟩
        have u1 := a_is_inj hw (by omega) q1 w1
        have u2 := a_is_inj hw (by omega) q2 w2
        subst u1; subst u2
        exact q3 w3
      · rcases w4 with ⟨w4, w5⟩ | ⟨w4, w5⟩
        · refine Or.inr ⟨x, y, w1, w2, w3, Or.inr ⟨fun ⟨k', h, q1, q2, q3⟩ => ?_, rfl⟩⟩
          rw [w4] at q3
          exact absurd q3 (by simp)
        · exact absurd w5 e
