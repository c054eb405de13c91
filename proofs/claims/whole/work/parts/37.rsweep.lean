/-! the reference sweeps and clears -/
theorem r_sw4L {n : Nat} {m : S_Md} {t : Nat} (ht : t ≤ 512) (hE : Md_end m = nI t) (y : Int32) : ∀ (fuel i : Nat) (s : S_Md) (l k : Nat → Int32), t - i < fuel → i ≤ t → s = Md_set_LM m (32768, k) (32768, l) → (∀ j, j < i → l j = nI j ∧ k j = 0) → xo (L_Md_sweep_284 y n fuel (nI i) s) (fun o c => c = 0 ∧ ∃ l2 k2 : Nat → Int32, o.2 = Md_set_LM m (32768, k2) (32768, l2) ∧ ∀ j, j < t → l2 j = nI j ∧ k2 j = 0) := by
  intro fuel
  induction fuel with
  | zero => intro i s l k h; omega
  | succ fuel ih =>
    intro i s l k h1 h2 h3 h4
    subst h3
    rw [L_Md_sweep_284_s, nb_0]
    refine xo_le t i hE rfl (by omega) (by omega) (fun q => ?_) (fun q => ?_)
    · have : i = t := by omega
      subst this
      exact xo_p ⟨rfl, l, k, rfl, h4⟩
    · refine xo_wr i rfl (by show i < 32768; omega) (by omega) ?_
      refine xo_wr i rfl (by show i < 32768; omega) (by omega) ?_
      rw [nI_1]
      refine ih (i + 1) _ (upd l i (nI i)) (upd k i 0) (by omega) (by omega) rfl (fun j hj => ?_)
      rw [upd_at, upd_at]
      by_cases e : j = i
      · rw [if_pos e, if_pos e, e]; exact ⟨rfl, rfl⟩
      · rw [if_neg e, if_neg e]; exact h4 j (by omega)
theorem r_sw5L {n : Nat} {m : S_Md} {K : Nat → Bool} (hl : (Md_kinds m).1 = 32768) (y1 y2 : Int32) : ∀ (fuel e : Nat) (s : S_Md), e < fuel → e ≤ 512 → s = Md_set_end m (nI e) → (∀ j, j < e → ((Md_kinds m).2 j = -1 ↔ ¬ K j = true)) → xo (L_Md_sweep_312 y1 y2 n fuel s) (fun o c => c = 0 ∧ o = Md_set_end m (nI (topf K e))) := by
  intro fuel
  induction fuel with
  | zero => intro e s h; omega
  | succ fuel ih =>
    intro e s h1 h2 h3 h4
    subst h3
    rw [L_Md_sweep_312_s]
    refine xo_le e 0 rfl nI0 (by omega) (by omega) (fun q => ?_) (fun q => ?_)
    · have : e = 0 := by omega
      subst this
      exact xo_p ⟨rfl, rfl⟩
    · obtain ⟨d, rfl⟩ : ∃ d, e = d + 1 := ⟨e - 1, by omega⟩
      have e1 : nI (d + 1) - (1 : Int32) = nI d := nI_pred d
      show xo (xm_rd (Md_kinds m) (nI (d + 1) - 1) (fun v155 => if v155 = -1 then L_Md_sweep_312 y1 y2 n fuel (Md_set_end m (nI (d + 1) - 1)) else xm_p (Md_set_end m (nI (d + 1))))) _
      rw [e1]
      refine xo_rd d rfl (by omega) (by omega) ?_
      refine xo_if (fun w => ?_) (fun w => ?_)
      · have hK := (h4 d (by omega)).mp w
        have et : topf K (d + 1) = topf K d := by
          show (if K d = true then d + 1 else topf K d) = _
          rw [if_neg hK]
        rw [et]
        exact ih d _ (by omega) (by omega) rfl (fun j hj => h4 j (by omega))
      · have hK : K d = true := by
          cases h : K d with
          | true => rfl
          | false => exact absurd ((h4 d (by omega)).mpr (by rw [h]; decide)) w
        refine xo_p ⟨rfl, ?_⟩
        show _ = Md_set_end m (nI (if K d = true then d + 1 else topf K d))
        rw [if_pos hK]
theorem r_sweep {n : Nat} (hn : 100000 ≤ n) {m : S_Md} {F : FS} {c : Nat} (hC : RM m F) (hF : FI F c) : xoM (m_Md_sweep n m) m (sp_sweep F) := by
  obtain ⟨h1, ⟨st, h2⟩, h3, h4, h5, h6⟩ := hC
  have hw := hF.1
  have hb0 := hF.2.2.2.2.1
  have hwz := sw_wf hw hF.2.2.2.2.2.2.1 hF.2.2.2.2.2.2.2
  generalize hz : f_z F = z at *
  generalize hmk : f_mk F = mk at *
  generalize hnd : f_nd F = nd at *
  have hX : RX m z st mk nd := ⟨h1, h2, h3, h4⟩
  have hal := fun i => sw_al hw (mk := mk) (i := i)
  have hlts : (Md_trial m).1 = 32768 := h1.1.2.2.2.2.2.2.2.1
  have hlss : (Md_shown m).1 = 32768 := h1.1.2.2.2.2.2.2.2.2
  unfold m_Md_sweep
  have hh := r_sw1L (n := n) hn hX hw (by omega) n 0 m (Md_trial m).2 (Md_shown m).2 (by omega) (Nat.zero_le _) (by
    have a1 : ((32768, (Md_trial m).2) : Ar) = Md_trial m := by rw [← hlts]
    have a2 : ((32768, (Md_shown m).2) : Ar) = Md_shown m := by rw [← hlss]
    rw [a1, a2]) (fun j hj => by omega)
  rw [← nI0] at hh
  refine xo_b _ hh (fun o1 c1 g => ?_)
  obtain ⟨rfl, tr, sh, es1, hS⟩ := g
  have hX1 : RX o1.2 z st mk nd := by
    rw [es1]
    exact ⟨⟨⟨h1.1.1, h1.1.2.1, h1.1.2.2.1, h1.1.2.2.2.1, h1.1.2.2.2.2.1, h1.1.2.2.2.2.2.1, h1.1.2.2.2.2.2.2.1, rfl, rfl⟩, h1.2⟩, h2, h3, h4⟩
  have hS1 : ∀ j, swK z mk j = true → (((Md_trial o1.2).2 j = 1 ∧ a_nd z nd j) ∨ ((Md_trial o1.2).2 j = 0 ∧ ¬ a_nd z nd j)) ∧ ∃ b, a_bd z j b ∧ (Md_shown o1.2).2 j = nI b := by rw [es1]; exact hS
  have hnod : Md_nodes o1.2 = nI (cnt (fun i => decide (a_kd z i ≠ -1)) (a_t z)) := hX1.2.1.1.2.1
  have hLM1 : LMd o1.2 = LMd m := by rw [es1]; rfl
  generalize o1.2 = m1 at *
  clear es1 hh hS
  obtain ⟨k1, k2, k3, k4⟩ := hX1
  obtain ⟨l1, l2, l3, l4, l5, l6, l7, l8⟩ := r_lens k1
  have lnb : (Md_newBlocks m1).1 = 32768 := k1.2.2.1.2.2.2.1
  have hW0 : WI m1 z st mk nd 0 (Md_set_nodes m1 0) := by
    refine ⟨(Md_kinds m1).2, (Md_values m1).2, (Md_firsts m1).2, (Md_manies m1).2, (Md_said m1).2, (Md_newBlocks m1).2, ?_, fun j hj => by omega, fun j _ => ⟨rfl, rfl, rfl, rfl⟩, fun j hj => by omega⟩
    have a1 : ((32768, (Md_kinds m1).2) : Ar) = Md_kinds m1 := by rw [← l1]
    have a2 : ((32768, (Md_values m1).2) : Ar) = Md_values m1 := by rw [← l2]
    have a3 : ((32768, (Md_firsts m1).2) : Ar) = Md_firsts m1 := by rw [← l3]
    have a4 : ((32768, (Md_manies m1).2) : Ar) = Md_manies m1 := by rw [← l4]
    have a5 : ((32768, (Md_said m1).2) : Ar) = Md_said m1 := by rw [← l5]
    have a6 : ((32768, (Md_newBlocks m1).2) : Ar) = Md_newBlocks m1 := by rw [← lnb]
    rw [a1, a2, a3, a4, a5, a6]
    show _ = Md_set_W m1 _ _ _ _ _ (nI 0) _
    rw [← nI0]
  have hh2 := r_sw2L (n := n) hn ⟨k1, k2, k3, k4⟩ hw (by omega) hS1 (Md_nodes m1) n 0 _ (by omega) (Nat.zero_le _) hW0
  rw [← nI0] at hh2
  refine xo_b _ hh2 (fun o2 c2 g => ?_)
  obtain ⟨rfl, kk, vv, ff, mn, sd, nb, es2, t1, t2, t3⟩ := g
  -- the gone are written as gone
  have hh3 := r_sw3L (n := n) (m := o2.2) (t := a_t z) (K := swK z mk) (k0 := kk) (by omega) (by rw [es2]; exact k2.1.1) (by rw [es2]) (fun j hj => by rw [es2]; exact t3 j hj) (Md_nodes m1) n 0 o2.2 kk (by omega) (Nat.zero_le _) (by rw [es2]) (fun j => by rw [if_neg (by omega)])
  rw [← nI0] at hh3
  refine xo_b _ hh3 (fun o3 c3 g => ?_)
  obtain ⟨rfl, k5, es3, hk5⟩ := g
  have ekd : ∀ j, j < 32768 → k5 j = a_kd (z_sw z mk) j := fun j hj => by
    rw [hk5 j]
    show _ = if swK z mk j = true then a_kd z (a_body z j) else -1
    by_cases hK : swK z mk j = true
    · rw [if_neg (fun w => by rw [hK] at w; exact absurd w.2 (by decide)), (t1 j (al_lt hw (pb_iff.mp hK).2.1) hK).1]
      rfl
    · rw [if_neg hK]
      by_cases e : j < a_t z
      · rw [if_pos ⟨e, by simpa using hK⟩]
      · rw [if_neg (fun w => e w.1), (t2 j (fun w => e w.1)).1, k2.2.1 j hj, hw.1 j (by omega)]
  have es4 : o3.2 = Md_set_W m1 (32768, k5) (32768, vv) (32768, ff) (32768, mn) (32768, sd) (nI (cnt (swK z mk) (a_t z))) (32768, nb) := by rw [es3, es2]
  have tt : ∀ j, swK z mk j = true → vv j = a_vl (z_sw z mk) j ∧ mn j = nI (swL z mk j) ∧ ((sd j = 1 ∧ a_nd z nd j) ∨ (sd j = 0 ∧ ¬ a_nd z nd j)) ∧ ∃ b, a_bd z j b ∧ (swL z mk j ≠ 0 → ff j = nI (st b)) := fun j hK => (t1 j (al_lt hw (pb_iff.mp hK).2.1) hK).2
  generalize o3.2 = m3 at *
  clear hh3 hh2 es3 es2 hk5
  -- where the fields of those that stay stood
  obtain ⟨sb, hsb⟩ := Classical.skolem.mp (fun j => show ∃ b, swK z mk j = true → a_bd z j b ∧ (swL z mk j ≠ 0 → ff j = nI (st b)) from by
    by_cases hK : swK z mk j = true
    · obtain ⟨b, hb⟩ := (tt j hK).2.2.2
      exact ⟨b, fun _ => hb⟩
    · exact ⟨0, fun w => absurd w hK⟩)
  have hLne : ∀ j, a_fl (z_sw z mk) j ≠ [] → swL z mk j ≠ 0 := fun j h w => h (List.length_eq_zero_iff.mp w)
  have hlen : ∀ j, swK z mk j = true → (a_fl (z_sw z mk) j).length = (a_fl z (sb j)).length := fun j hK => (swL_t hK).trans (swF_len hw (pb_iff.mp hK).2.1 (hsb j hK).1)
  have H : PH m3 (a_t z) (a_sum z) (swK z mk) (a_fl (z_sw z mk)) (fun j => st (sb j)) := by
    refine ⟨by omega, by omega, by rw [es4], by rw [es4], by rw [es4]; exact l6, by rw [es4]; exact k2.1.1, by rw [es4]; exact k2.1.2.2, fun j hK => al_lt hw (pb_iff.mp hK).2.1, fun j hj => ?_, fun j hK => by rw [es4]; exact (tt j hK).2.1, fun j hK => ?_, fun i j hi hj hij => ?_, fun j k q hK hq => ?_, fun j hK => if_neg hK⟩
    · have e5 : (Md_kinds m3).2 j = a_kd (z_sw z mk) j := by rw [es4]; exact ekd j (by omega)
      rw [e5]
      refine ⟨fun w => ?_, fun w => ?_⟩
      · by_cases hK : swK z mk j = true
        · exact a_kd_3 hwz ((hal j).mpr hK) w
        · exact if_neg hK
      · by_cases hK : swK z mk j = true
        · exact hK
        · exfalso
          apply w
          rw [show a_kd (z_sw z mk) j = -1 from if_neg hK]
          decide
    · rw [hlen j hK]
      exact k2.2.2.2.2.2.2.1 _ (hsb j hK).1.1
    · rw [hlen i hi, hlen j hj]
      refine k2.2.2.2.2.2.2.2.2 _ _ (hsb i hi).1.1 (hsb j hj).1.1 (fun e => hij ?_)
      have e1 := (hsb i hi).1.2.1
      have e2 := (hsb j hj).1.2.1
      rw [(pb_iff.mp hi).2.2] at e1
      rw [(pb_iff.mp hj).2.2] at e2
      rw [← e1, ← e2, e]
    · have hq' : (if swK z mk j = true then swF z j else [])[k]? = some q := hq
      rw [if_pos hK, swF_eq hw (pb_iff.mp hK).2.1 (hsb j hK).1, List.getElem?_map] at hq'
      cases h : (a_fl z (sb j))[k]? with
      | none => rw [h] at hq'; exact absurd hq' (by simp)
      | some q0 =>
        rw [h] at hq'
        have hq2 : (q0.1, a_ld z q0.2) = q := Option.some.inj hq'
        have h7 := k2.2.2.2.2.2.2.2.1 (sb j) k (hsb j hK).1.1 q0 h
        have ha := (hw.2.2.2.2.1 _ (hsb j hK).1.1).2.2 q0 (List.mem_of_getElem? h)
        have hl := al_lt hw ha
        rw [es4, ← hq2]
        exact ⟨h7.1, q0.2, h7.2, by omega, k2.2.2.2.2.2.1 _ ha⟩
  have hfi : ∀ j, swK z mk j = true → a_fl (z_sw z mk) j ≠ [] → (Md_firsts m3).2 j = nI (st (sb j)) := fun j hK hne => by rw [es4]; exact (hsb j hK).2 (hLne j hne)
  refine xo_b _ (r_pack (n := n) hn H (by rw [es4]) (by rw [es4]; exact l7) (by rw [es4]; exact l8) hfi) (fun o4 c4 g => ?_)
  obtain ⟨rfl, fc, fi, fe, pa, s5, es5, es6, g1, g2⟩ := g
  have hsum : sumf (fun j => (a_fl (z_sw z mk) j).length) (a_t z) = a_sum (z_sw z mk) := (sw_sum hw).symm
  rw [hsum] at es5 g1
  have es7 : o4 = (((32768, k5), (32768, vv), (32768, fi), (32768, mn), (32768, sd), Md_marked m1, Md_leaders m1, Md_trial m1, Md_shown m1, Md_end m1, nI (cnt (swK z mk) (a_t z)), (65536, fe), (65536, pa), nI (a_sum (z_sw z mk)), Md_pushedFeatures m1, Md_pushedParts m1, Md_pushed m1, Md_touched m1, Md_touches m1, Md_reached m1, Md_blocks m1, (32768, nb), Md_places m1, Md_written m1, Md_other m1, Md_length m1) : S_Md) := by rw [es5, es6, es4]
  have hE4 : Md_end o4 = nI (a_t z) := by rw [es7]; exact k2.1.1
  have hh5 := r_sw4L (n := n) (m := o4) (t := a_t z) (by omega) hE4 (Md_nodes m1) n 0 o4 (Md_leaders m1).2 (Md_marked m1).2 (by omega) (Nat.zero_le _) (by
    have a1 : ((32768, (Md_leaders m1).2) : Ar) = Md_leaders m1 := by rw [← l6]
    have a2 : ((32768, (Md_marked m1).2) : Ar) = Md_marked m1 := by rw [← k1.1.2.2.2.2.2.1]
    rw [a1, a2, es7]) (fun j hj => by omega)
  rw [← nI0] at hh5
  refine xo_b _ hh5 (fun o5 c5 g => ?_)
  obtain ⟨rfl, l9, k9, es8, g3⟩ := g
  have hkd8 : (Md_kinds o5.2).1 = 32768 := by rw [es8, es7]
  have hkk8 : ∀ j, j < a_t z → ((Md_kinds o5.2).2 j = -1 ↔ ¬ swK z mk j = true) := fun j hj => by
    have e5 : (Md_kinds o5.2).2 j = a_kd (z_sw z mk) j := by rw [es8, es7]; exact ekd j (by omega)
    rw [e5, ← hal j]
    unfold al
    exact ⟨fun w w2 => w2 w, fun w => Decidable.byContradiction w⟩
  have hh6 := r_sw5L (n := n) (m := o5.2) (K := swK z mk) hkd8 (Md_nodes m1) o5.1 n (a_t z) o5.2 (by omega) (by omega) (by
    have e6 : Md_end o5.2 = nI (a_t z) := by rw [es8]; exact hE4
    rw [← e6]) hkk8
  refine xo_b _ hh6 (fun o6 c6 g => ?_)
  obtain ⟨rfl, es9⟩ := g
  have es10 : o6 = (((32768, k5), (32768, vv), (32768, fi), (32768, mn), (32768, sd), (32768, k9), (32768, l9), Md_trial m1, Md_shown m1, nI (topf (swK z mk) (a_t z)), nI (cnt (swK z mk) (a_t z)), (65536, fe), (65536, pa), nI (a_sum (z_sw z mk)), Md_pushedFeatures m1, Md_pushedParts m1, Md_pushed m1, Md_touched m1, Md_touches m1, Md_reached m1, Md_blocks m1, (32768, nb), Md_places m1, Md_written m1, Md_other m1, Md_length m1) : S_Md) := by rw [es9, es8, es7]
  rw [es10]
  refine xo_p ⟨_, ⟨?_, rfl⟩, ⟨?_, ⟨fun j => if a_fl (z_sw z mk) j = [] then 0 else fc j, ⟨⟨?_, ?_, ?_⟩, ?_, ?_, ?_, ?_, ?_, ?_, ?_, ?_⟩⟩, ?_, ⟨?_, ?_⟩, ⟨nI0, Nat.zero_le _, fun k q hq => absurd (show ([] : List (Int32 × Nat))[k]? = some q from hq) (by simp)⟩, ⟨nI0, Nat.zero_le _, fun k q hq => absurd (show ([] : List Nat)[k]? = some q from hq) (by simp)⟩⟩, ?_⟩
  · show Md_nodes m1 - nI (cnt (swK z mk) (a_t z)) = _
    rw [hnod, hz, hmk]
  · exact ⟨⟨rfl, rfl, rfl, rfl, rfl, rfl, rfl, k1.1.2.2.2.2.2.2.2.1, k1.1.2.2.2.2.2.2.2.2⟩, ⟨rfl, rfl, k1.2.1.2.2⟩, ⟨k1.2.2.1.1, k1.2.2.1.2.1, k1.2.2.1.2.2.1, rfl, k1.2.2.1.2.2.2.2⟩, k1.2.2.2⟩
  · show nI (topf (swK z mk) (a_t z)) = nI (a_t (z_sw (f_z F) (f_mk F)))
    rw [hz, hmk]
    rfl
  · show nI (cnt (swK z mk) (a_t z)) = nI (cnt (fun i => decide (a_kd (z_sw (f_z F) (f_mk F)) i ≠ -1)) (a_t (z_sw (f_z F) (f_mk F))))
    rw [hz, hmk, sw_cnt hw]
  · show nI (a_sum (z_sw z mk)) = nI (a_sum (z_sw (f_z F) (f_mk F)))
    rw [hz, hmk]
  · intro i hi
    show k5 i = a_kd (z_sw (f_z F) (f_mk F)) i
    rw [hz, hmk]
    exact ekd i hi
  · intro i hi
    have hi' : al (z_sw (f_z F) (f_mk F)) i := hi
    rw [hz, hmk] at hi'
    show vv i = a_vl (z_sw (f_z F) (f_mk F)) i
    rw [hz, hmk]
    exact (tt i ((hal i).mp hi')).1
  · intro i hi
    have hi' : al (z_sw (f_z F) (f_mk F)) i := hi
    rw [hz, hmk] at hi'
    show mn i = nI (a_fl (z_sw (f_z F) (f_mk F)) i).length
    rw [hz, hmk]
    exact (tt i ((hal i).mp hi')).2.1
  · intro i hi hne
    have hi' : al (z_sw (f_z F) (f_mk F)) i := hi
    have hne' : a_fl (z_sw (f_z F) (f_mk F)) i ≠ [] := hne
    rw [hz, hmk] at hi' hne'
    show fi i = nI (if a_fl (z_sw z mk) i = [] then 0 else fc i)
    rw [if_neg hne']
    exact (g1 i ((hal i).mp hi') hne').1
  · intro i hi
    have hi' : al (z_sw (f_z F) (f_mk F)) i := hi
    rw [hz, hmk] at hi'
    exact (g3 i (al_lt hw (pb_iff.mp ((hal i).mp hi')).2.1)).1
  · intro i hi
    have hi' : al (z_sw (f_z F) (f_mk F)) i := hi
    rw [hz, hmk] at hi'
    show (if a_fl (z_sw z mk) i = [] then 0 else fc i) + (a_fl (z_sw (f_z F) (f_mk F)) i).length ≤ a_sum (z_sw (f_z F) (f_mk F))
    rw [hz, hmk]
    by_cases e : a_fl (z_sw z mk) i = []
    · rw [if_pos e, e]; exact Nat.zero_le _
    · rw [if_neg e]; exact (g1 i ((hal i).mp hi') e).2.1
  · intro i k hi q hq
    have hi' : al (z_sw (f_z F) (f_mk F)) i := hi
    have hq' : (a_fl (z_sw (f_z F) (f_mk F)) i)[k]? = some q := hq
    rw [hz, hmk] at hi' hq'
    show fe ((if a_fl (z_sw z mk) i = [] then 0 else fc i) + k) = q.1 ∧ pa ((if a_fl (z_sw z mk) i = [] then 0 else fc i) + k) = nI q.2
    have e : a_fl (z_sw z mk) i ≠ [] := fun e => by rw [e] at hq'; simp at hq'
    rw [if_neg e]
    exact (g1 i ((hal i).mp hi') e).2.2 k q hq'
  · intro i j hi hj hij
    have hi' : al (z_sw (f_z F) (f_mk F)) i := hi
    have hj' : al (z_sw (f_z F) (f_mk F)) j := hj
    rw [hz, hmk] at hi' hj'
    show (if a_fl (z_sw z mk) i = [] then 0 else fc i) + (a_fl (z_sw (f_z F) (f_mk F)) i).length ≤ (if a_fl (z_sw z mk) j = [] then 0 else fc j) ∨ (if a_fl (z_sw z mk) j = [] then 0 else fc j) + (a_fl (z_sw (f_z F) (f_mk F)) j).length ≤ (if a_fl (z_sw z mk) i = [] then 0 else fc i)
    rw [hz, hmk]
    by_cases e : a_fl (z_sw z mk) i = []
    · rw [if_pos e, e]; exact Or.inl (Nat.zero_le _)
    · by_cases e2 : a_fl (z_sw z mk) j = []
      · rw [if_pos e2, e2]; exact Or.inr (Nat.zero_le _)
      · rw [if_neg e, if_neg e2]
        exact g2 i j ((hal i).mp hi') e ((hal j).mp hj') e2 hij
  · intro i hi
    have hi' : al (z_sw (f_z F) (f_mk F)) i := hi
    rw [hz, hmk] at hi'
    exact (g3 i (al_lt hw (pb_iff.mp ((hal i).mp hi')).2.1)).2
  · intro i hi
    have hi' : al (z_sw (f_z F) (f_mk F)) i := hi
    rw [hz, hmk] at hi'
    rcases (tt i ((hal i).mp hi')).2.2.1 with w | w
    · exact Or.inr w.1
    · exact Or.inl w.1
  · intro r hr _ hv
    have hr' : al (z_sw (f_z F) (f_mk F)) r := hr
    have hv' : a_var (z_sw (f_z F) (f_mk F)) r := hv
    rw [hz, hmk] at hr' hv'
    have hK := (hal r).mp hr'
    obtain ⟨p1, p2, p3⟩ := pb_iff.mp hK
    have h0 : a_kd (z_sw z mk) r = 0 := hv' r hr' rfl
    have h9 : a_kd z (a_body z r) = 0 := by
      have h2 : (if swK z mk r = true then a_kd z (a_body z r) else -1) = 0 := h0
      rw [if_pos hK] at h2
      exact h2
    have hvr := (a_var_bd (a_body_spec p2)).mpr h9
    have hnd2 : a_nd z nd r ↔ nd r := by
      unfold a_nd
      rw [p3] at hvr ⊢
      exact ⟨fun w => w.resolve_left (fun w => w hvr), Or.inr⟩
    show (∃ j, al (z_sw (f_z F) (f_mk F)) j ∧ j = r ∧ sd j = 1) ↔ f_nd F r
    rw [hz, hmk, hnd, ← hnd2]
    constructor
    · rintro ⟨j, -, rfl, w⟩
      rcases (tt j hK).2.2.1 with w2 | w2
      · exact w2.2
      · rw [w2.1] at w; exact absurd w (by decide)
    · intro w
      refine ⟨r, hr', rfl, ?_⟩
      rcases (tt r hK).2.2.1 with w2 | w2
      · exact w2.1
      · exact absurd w w2.2
  · show 0 + (0 + (0 + (0 + (0 + (0 + 0))))) + 2 * LMd m ≤ 2 * ((Md_written m1).1 + (Md_other m1).1)
    rw [← hLM1]
    unfold LMd
    omega
theorem r_clearL {n : Nat} {m : S_Md} {t : Nat} (ht : t ≤ 512) (hE : Md_end m = nI t) (y : Int32) : ∀ (fuel i : Nat) (s : S_Md) (k : Nat → Int32), t - i < fuel → i ≤ t → s = Md_set_kinds m (32768, k) → (∀ j, j < i → k j = -1) → (∀ j, i ≤ j → k j = (Md_kinds m).2 j) → xo (L_Md_clear_7 y n fuel (nI i) s) (fun o c => c = 0 ∧ ∃ k2, o.2 = Md_set_kinds m (32768, k2) ∧ (∀ j, j < t → k2 j = -1) ∧ ∀ j, t ≤ j → k2 j = (Md_kinds m).2 j) := by
  intro fuel
  induction fuel with
  | zero => intro i s k h; omega
  | succ fuel ih =>
    intro i s k h1 h2 h3 h4 h5
    subst h3
    rw [L_Md_clear_7_s, ny_m]
    refine xo_le t i hE rfl (by omega) (by omega) (fun q => ?_) (fun q => ?_)
    · have : i = t := by omega
      subst this
      exact xo_p ⟨rfl, k, rfl, h4, h5⟩
    · refine xo_wr i rfl (by show i < 32768; omega) (by omega) ?_
      rw [nI_1]
      refine ih (i + 1) _ (upd k i (-1)) (by omega) (by omega) rfl (fun j hj => ?_) (fun j hj => ?_)
      · rw [upd_at]
        by_cases e : j = i
        · rw [if_pos e]
        · rw [if_neg e]; exact h4 j (by omega)
      · rw [upd_at, if_neg (by omega)]
        exact h5 j (by omega)
theorem sw_none {z : AS} : z_sw z (fun _ => false) = (0, fun _ => -1, fun _ => 0, fun i => i, fun _ => []) := by
  have hK : ∀ i, swK z (fun _ => false) i = false := fun i => pb_f (fun w => absurd (show false = true from w.1) Bool.false_ne_true)
  have h0 : ∀ t, topf (swK z (fun _ => false)) t = 0 := fun t => by
    induction t with
    | zero => rfl
    | succ t ih =>
      show (if swK z (fun _ => false) t = true then t + 1 else topf (swK z (fun _ => false)) t) = 0
      rw [hK t, ih]
      rfl
  unfold z_sw
  rw [h0]
  have e : ∀ (α : Type) (f : Nat → α) (d : α), (fun i => if swK z (fun _ => false) i = true then f i else d) = fun _ => d := fun α f d => by
    funext i
    rw [hK i]
    rfl
  rw [e Int32, e Int32, e]
theorem r_clear {n : Nat} (hn : 100000 ≤ n) {m : S_Md} {F : FS} {c : Nat} (hC : RM m F) (hF : FI F c) : xoM (m_Md_clear n m) m (sp_clear F) := by
  obtain ⟨h1, ⟨st, h2⟩, h3, h4, h5, h6⟩ := hC
  have hw := hF.1
  have hb0 := hF.2.2.2.2.1
  have hz0 : f_z (F_sw F (fun _ => false)) = (0, fun _ => -1, fun _ => 0, fun i => i, fun _ => []) := sw_none
  have hno : ∀ i, ¬ al (f_z (F_sw F (fun _ => false))) i := fun i => by rw [hz0]; exact fun w => w rfl
  unfold m_Md_clear
  have hh := r_clearL (n := n) (m := m) (t := a_t (f_z F)) (by omega) h2.1.1 (Md_nodes m) n 0 m (Md_kinds m).2 (by omega) (Nat.zero_le _) (by
    have a1 : ((32768, (Md_kinds m).2) : Ar) = Md_kinds m := by rw [← h1.1.1]
    rw [a1]) (fun j hj => by omega) (fun j _ => rfl)
  rw [← nI0] at hh
  refine xo_b _ hh (fun o c1 g => ?_)
  obtain ⟨rfl, k2, es, g1, g2⟩ := g
  rw [es]
  refine xo_p ⟨_, ⟨h2.1.2.1, rfl⟩, ⟨⟨⟨rfl, h1.1.2⟩, h1.2⟩, ⟨st, ⟨⟨?_, ?_, ?_⟩, ?_, fun i hi => absurd hi (hno i), fun i hi => absurd hi (hno i), fun i hi => absurd hi (hno i), fun i hi => absurd hi (hno i), fun i hi => absurd hi (hno i), fun i k hi => absurd hi (hno i), fun i j hi => absurd hi (hno i)⟩⟩, fun i hi => absurd hi (hno i), ⟨fun i hi => absurd hi (hno i), fun r hr => absurd hr (hno r)⟩, ⟨nI0, Nat.zero_le _, fun k q hq => absurd (show ([] : List (Int32 × Nat))[k]? = some q from hq) (by simp)⟩, ⟨nI0, Nat.zero_le _, fun k q hq => absurd (show ([] : List Nat)[k]? = some q from hq) (by simp)⟩⟩, ?_⟩
  · rw [hz0]; exact nI0
  · rw [hz0]; exact nI0
  · rw [hz0]; exact nI0
  · intro i hi
    rw [hz0]
    show k2 i = -1
    by_cases e : i < a_t (f_z F)
    · exact g1 i e
    · rw [g2 i (by omega), h2.2.1 i hi, hw.1 i (by omega)]
  · show 0 + 0 + 2 * LMd m ≤ 2 * LMd m
    omega
