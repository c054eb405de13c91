/-! the reference sweeps: what stays takes on its body -/
abbrev Md_set_TS (m : S_Md) (x0 : Ar) (x1 : Ar) : S_Md := (Md_kinds m, Md_values m, Md_firsts m, Md_manies m, Md_said m, Md_marked m, Md_leaders m, x0, x1, Md_end m, Md_nodes m, Md_features m, Md_parts m, Md_fields m, Md_pushedFeatures m, Md_pushedParts m, Md_pushed m, Md_touched m, Md_touches m, Md_reached m, Md_blocks m, Md_newBlocks m, Md_places m, Md_written m, Md_other m, Md_length m)
abbrev Md_set_W (m : S_Md) (x0 : Ar) (x1 : Ar) (x2 : Ar) (x3 : Ar) (x4 : Ar) (x5 : Int32) (x6 : Ar) : S_Md := (x0, x1, x2, x3, x4, Md_marked m, Md_leaders m, Md_trial m, Md_shown m, Md_end m, x5, Md_features m, Md_parts m, Md_fields m, Md_pushedFeatures m, Md_pushedParts m, Md_pushed m, Md_touched m, Md_touches m, Md_reached m, Md_blocks m, x6, Md_places m, Md_written m, Md_other m, Md_length m)
abbrev Md_set_PK (m : S_Md) (x0 : Ar) (x1 : Ar) (x2 : Ar) : S_Md := (Md_kinds m, Md_values m, x0, Md_manies m, Md_said m, Md_marked m, Md_leaders m, Md_trial m, Md_shown m, Md_end m, Md_nodes m, x1, x2, Md_fields m, Md_pushedFeatures m, Md_pushedParts m, Md_pushed m, Md_touched m, Md_touches m, Md_reached m, Md_blocks m, Md_newBlocks m, Md_places m, Md_written m, Md_other m, Md_length m)
abbrev Md_set_LM (m : S_Md) (x0 : Ar) (x1 : Ar) : S_Md := (Md_kinds m, Md_values m, Md_firsts m, Md_manies m, Md_said m, x0, x1, Md_trial m, Md_shown m, Md_end m, Md_nodes m, Md_features m, Md_parts m, Md_fields m, Md_pushedFeatures m, Md_pushedParts m, Md_pushed m, Md_touched m, Md_touches m, Md_reached m, Md_blocks m, Md_newBlocks m, Md_places m, Md_written m, Md_other m, Md_length m)
abbrev Md_set_EPT (m : S_Md) (x0 : Int32) (x1 : Int32) (x2 : Int32) : S_Md := (Md_kinds m, Md_values m, Md_firsts m, Md_manies m, Md_said m, Md_marked m, Md_leaders m, Md_trial m, Md_shown m, x0, Md_nodes m, Md_features m, Md_parts m, Md_fields m, Md_pushedFeatures m, Md_pushedParts m, x1, Md_touched m, x2, Md_reached m, Md_blocks m, Md_newBlocks m, Md_places m, Md_written m, Md_other m, Md_length m)
def RX (m : S_Md) (z : AS) (st : Nat → Nat) (mk : Nat → Bool) (nd : Nat → Prop) : Prop := RL m ∧ RZ m z st ∧ RMk m z mk ∧ RD m z nd
theorem r_staysK {z : AS} {mk : Nat → Bool} {i : Nat} (hi : al z i) : swK z mk i = true ↔ (mk i = true ∧ a_ld z i = i) := by
  unfold swK
  rw [pb_iff]
  exact ⟨fun q => ⟨q.1, q.2.2⟩, fun q => ⟨q.1, hi, q.2⟩⟩
theorem r_sw1L {n : Nat} (hn : 100000 ≤ n) {m : S_Md} {z : AS} {st : Nat → Nat} {mk : Nat → Bool} {nd : Nat → Prop} (hX : RX m z st mk nd) (hw : a_wf z) (ht : a_t z ≤ 512) : ∀ (fuel i : Nat) (s : S_Md) (tr sh : Nat → Int32), a_t z - i < fuel → i ≤ a_t z → s = Md_set_TS m (32768, tr) (32768, sh) → (∀ j, j < i → swK z mk j = true → ((tr j = 1 ∧ a_nd z nd j) ∨ (tr j = 0 ∧ ¬ a_nd z nd j)) ∧ ∃ b, a_bd z j b ∧ sh j = nI b) → xo (L_Md_sweep_2 n fuel (nI i) s) (fun o c => c = 0 ∧ ∃ tr2 sh2 : Nat → Int32, o.2 = Md_set_TS m (32768, tr2) (32768, sh2) ∧ ∀ j, swK z mk j = true → ((tr2 j = 1 ∧ a_nd z nd j) ∨ (tr2 j = 0 ∧ ¬ a_nd z nd j)) ∧ ∃ b, a_bd z j b ∧ sh2 j = nI b) := by
  intro fuel
  induction fuel with
  | zero => intro i s tr sh h; omega
  | succ fuel ih =>
    intro i s tr sh h1 h2 h3 h4
    have hLs : RL s := by rw [h3]; exact ⟨⟨hX.1.1.1, hX.1.1.2.1, hX.1.1.2.2.1, hX.1.1.2.2.2.1, hX.1.1.2.2.2.2.1, hX.1.1.2.2.2.2.2.1, hX.1.1.2.2.2.2.2.2.1, rfl, rfl⟩, hX.1.2⟩
    have hZs : RZ s z st := by rw [h3]; exact hX.2.1
    have hMs : RMk s z mk := by rw [h3]; exact hX.2.2.1
    have hDs : RD s z nd := by rw [h3]; exact hX.2.2.2
    obtain ⟨l1, l2, l3, l4, l5, l6, l7, l8⟩ := r_lens hLs
    have lm := hLs.1.2.2.2.2.2.1
    have lt := hLs.1.2.2.2.2.2.2.2.1
    have ls := hLs.1.2.2.2.2.2.2.2.2
    rw [L_Md_sweep_2_s]
    refine xo_le (a_t z) i hZs.1.1 rfl (by omega) (by omega) (fun q => ?_) (fun q => ?_)
    · exact xo_p ⟨rfl, tr, sh, h3, fun j hj => h4 j (Nat.lt_of_lt_of_le (al_lt hw (pb_iff.mp hj).2.1) q) hj⟩
    · have skip : ¬ swK z mk i = true → xo (L_Md_sweep_2 n fuel (nI i + 1) s) (fun o c => c = 0 ∧ ∃ tr2 sh2 : Nat → Int32, o.2 = Md_set_TS m (32768, tr2) (32768, sh2) ∧ ∀ j, swK z mk j = true → ((tr2 j = 1 ∧ a_nd z nd j) ∨ (tr2 j = 0 ∧ ¬ a_nd z nd j)) ∧ ∃ b, a_bd z j b ∧ sh2 j = nI b) := fun hK => by
        rw [nI_1]
        exact ih (i + 1) s tr sh (by omega) (by omega) h3 (fun j hj hKj => h4 j (by have : j ≠ i := fun w => hK (w ▸ hKj); omega) hKj)
      refine xo_rd i rfl (by omega) (by omega) ?_
      rw [hZs.2.1 i (by omega)]
      refine xo_if (fun e => skip (fun w => (pb_iff.mp w).2.1 e)) (fun e => ?_)
      have hal : al z i := e
      refine xo_rd i rfl (by omega) (by omega) ?_
      rw [hMs i hal]
      by_cases e2 : mk i = true
      · rw [if_pos e2, if_neg (by decide)]
        refine xo_rd i rfl (by omega) (by omega) ?_
        rw [hZs.2.2.2.2.2.1 i hal]
        have b1 := al_lt hw (hw.2.2.1 i hal).2.1
        refine xo_eq _ _ rfl rfl (by omega) (by omega) (fun e3 => ?_) (fun e3 => skip (fun w => e3 (pb_iff.mp w).2.2))
        refine xo_b _ (r_isNeeded hn hLs hZs hDs hw ht hal) (fun o c g => ?_)
        obtain ⟨rfl, g⟩ := g
        refine xo_b (fun v c => c = 0 ∧ ((v = 1 ∧ a_nd z nd i) ∨ (v = 0 ∧ ¬ a_nd z nd i))) ?_ (fun v c gv => ?_)
        · rcases g with ⟨rfl, g⟩ | ⟨rfl, g⟩
          · rw [if_neg (by decide)]; exact xo_p ⟨rfl, Or.inl ⟨rfl, g⟩⟩
          · rw [if_pos rfl]; exact xo_p ⟨rfl, Or.inr ⟨rfl, g⟩⟩
        · obtain ⟨rfl, gv⟩ := gv
          refine xo_wr i rfl (by omega) (by omega) ?_
          have hL2 : RL (Md_set_trial s ((Md_trial s).1, upd (Md_trial s).2 i v)) := ⟨⟨hLs.1.1, hLs.1.2.1, hLs.1.2.2.1, hLs.1.2.2.2.1, hLs.1.2.2.2.2.1, hLs.1.2.2.2.2.2.1, hLs.1.2.2.2.2.2.2.1, lt, ls⟩, hLs.2⟩
          have hZ2 : RZ (Md_set_trial s ((Md_trial s).1, upd (Md_trial s).2 i v)) z st := hZs
          refine xo_b _ (r_meant hn hL2 hZ2 hw ht hal) (fun o2 c g2 => ?_)
          obtain ⟨rfl, b, hb, rfl⟩ := g2
          refine xo_wr i rfl (by omega) (by omega) ?_
          rw [nI_1]
          subst h3
          refine xo_m (ih (i + 1) _ (upd tr i v) (upd sh i (nI b)) (by omega) (by omega) rfl (fun j hj hKj => ?_)) (fun o c g => ⟨by have := g.1; omega, g.2⟩)
          rw [upd_at, upd_at]
          by_cases e4 : j = i
          · subst e4
            rw [if_pos rfl, if_pos rfl]
            exact ⟨gv, b, hb, rfl⟩
          · rw [if_neg e4, if_neg e4]
            exact h4 j (by omega) hKj
      · rw [if_neg e2, if_pos rfl]
        exact skip (fun w => e2 (pb_iff.mp w).1)
/-- the rows of those that stay, and the others -/
def WI (m : S_Md) (z : AS) (st : Nat → Nat) (mk : Nat → Bool) (nd : Nat → Prop) (i : Nat) (s : S_Md) : Prop :=
  ∃ k v f mn sd nb : Nat → Int32, s = Md_set_W m (32768, k) (32768, v) (32768, f) (32768, mn) (32768, sd) (nI (cnt (swK z mk) i)) (32768, nb) ∧
  (∀ j, j < i → swK z mk j = true → k j = a_kd (z_sw z mk) j ∧ v j = a_vl (z_sw z mk) j ∧ mn j = nI (swL z mk j) ∧ ((sd j = 1 ∧ a_nd z nd j) ∨ (sd j = 0 ∧ ¬ a_nd z nd j)) ∧ ∃ b, a_bd z j b ∧ (swL z mk j ≠ 0 → f j = nI (st b))) ∧
  (∀ j, ¬ (j < i ∧ swK z mk j = true) → k j = (Md_kinds m).2 j ∧ v j = (Md_values m).2 j ∧ f j = (Md_firsts m).2 j ∧ mn j = (Md_manies m).2 j) ∧
  (∀ j, j < i → nb j = if swK z mk j then 1 else 0)
theorem r_sw2L {n : Nat} (hn : 100000 ≤ n) {m : S_Md} {z : AS} {st : Nat → Nat} {mk : Nat → Bool} {nd : Nat → Prop} (hX : RX m z st mk nd) (hw : a_wf z) (ht : a_t z ≤ 512) (hS : ∀ j, swK z mk j = true → (((Md_trial m).2 j = 1 ∧ a_nd z nd j) ∨ ((Md_trial m).2 j = 0 ∧ ¬ a_nd z nd j)) ∧ ∃ b, a_bd z j b ∧ (Md_shown m).2 j = nI b) (y : Int32) : ∀ (fuel i : Nat) (s : S_Md), a_t z - i < fuel → i ≤ a_t z → WI m z st mk nd i s → xo (L_Md_sweep_87 y n fuel (nI i) s) (fun o c => c = 0 ∧ WI m z st mk nd (a_t z) o.2) := by
  obtain ⟨l1, l2, l3, l4, l5, l6, l7, l8⟩ := r_lens hX.1
  have lm := hX.1.1.2.2.2.2.2.1
  have lt := hX.1.1.2.2.2.2.2.2.2.1
  have ls := hX.1.1.2.2.2.2.2.2.2.2
  obtain ⟨-, hZ, hM, hD⟩ := hX
  intro fuel
  induction fuel with
  | zero => intro i s h; omega
  | succ fuel ih =>
    intro i s h1 h2 hI
    have hI0 := hI
    obtain ⟨k, v, f, mn, sd, nb, es, t1, t2, t3⟩ := hI
    have hend : Md_end s = nI (a_t z) := by rw [es]; exact hZ.1.1
    have hni : ¬ (i < i ∧ swK z mk i = true) := fun w => by omega
    rw [L_Md_sweep_87_s]
    refine xo_le (a_t z) i hend rfl (by omega) (by omega) (fun q => ?_) (fun q => ?_)
    · have : i = a_t z := by omega
      subst this
      exact xo_p ⟨rfl, hI0⟩
    · have hki : (Md_kinds s).2 i = a_kd z i := by rw [es]; show k i = _; rw [(t2 i hni).1, hZ.2.1 i (by omega)]
      have hkl : (Md_kinds s).1 = 32768 := by rw [es]
      have hml : (Md_marked s).1 = 32768 := by rw [es]; exact lm
      have hll : (Md_leaders s).1 = 32768 := by rw [es]; exact l6
      have hnl : (Md_newBlocks s).1 = 32768 := by rw [es]
      refine xo_rd i rfl (by omega) (by omega) ?_
      rw [hki]
      refine xo_b (fun w c => c = 0 ∧ ((w = 1 ∧ swK z mk i = true) ∨ (w = 0 ∧ ¬ swK z mk i = true))) ?_ (fun w c gw => ?_)
      · refine xo_if (fun e => xo_p ⟨rfl, Or.inr ⟨rfl, fun w => (pb_iff.mp w).2.1 e⟩⟩) (fun e => ?_)
        have hal : al z i := e
        refine xo_rd i rfl (by omega) (by omega) ?_
        have hmi : (Md_marked s).2 i = if mk i then 1 else 0 := by rw [es]; exact hM i hal
        rw [hmi]
        by_cases e2 : mk i = true
        · rw [if_pos e2, if_neg (by decide)]
          refine xo_rd i rfl (by omega) (by omega) ?_
          have hli : (Md_leaders s).2 i = nI (a_ld z i) := by rw [es]; exact hZ.2.2.2.2.2.1 i hal
          rw [hli]
          have b1 := al_lt hw (hw.2.2.1 i hal).2.1
          exact xo_eq _ _ rfl rfl (by omega) (by omega) (fun e3 => xo_p ⟨rfl, Or.inl ⟨rfl, pb_t ⟨e2, hal, e3⟩⟩⟩) (fun e3 => xo_p ⟨rfl, Or.inr ⟨rfl, fun w => e3 (pb_iff.mp w).2.2⟩⟩)
        · rw [if_neg e2, if_pos rfl]
          exact xo_p ⟨rfl, Or.inr ⟨rfl, fun w => e2 (pb_iff.mp w).1⟩⟩
      · obtain ⟨rfl, gw⟩ := gw
        rcases gw with ⟨rfl, hK⟩ | ⟨rfl, hK⟩
        · rw [if_neg (by decide)]
          obtain ⟨m1, m2, m3⟩ := pb_iff.mp hK
          obtain ⟨hs1, b, hb, hs2⟩ := hS i hK
          have hbl := al_lt hw hb.1
          have hnb : ¬ (b < i ∧ swK z mk b = true) := fun w => by
            have w1 := (pb_iff.mp w.2).2.2
            have w2 := hb.2.1
            rw [m3] at w2
            omega
          obtain ⟨x1, x2, x3, x4⟩ := t2 b hnb
          have hshl : (Md_shown s).1 = 32768 := by rw [es]; exact ls
          have hshi : (Md_shown s).2 i = nI b := by rw [es]; exact hs2
          refine xo_rd i rfl (by omega) (by omega) ?_
          rw [hshi]
          have hbe := a_bd_eq hw (a_body_spec m2) hb
          have hkb : (Md_kinds s).2 b = a_kd z b := by rw [es]; show k b = _; rw [x1, hZ.2.1 b (by omega)]
          have hmb : (Md_manies s).2 b = nI (swL z mk i) := by rw [es]; show mn b = _; rw [x4, hZ.2.2.2.1 b hb.1, swL_t hK, swF_len hw m2 hb]
          have hvb : (Md_values s).2 b = a_vl z b := by rw [es]; show v b = _; rw [x2, hZ.2.2.1 b hb.1]
          have hfb : swL z mk i ≠ 0 → (Md_firsts s).2 b = nI (st b) := fun hne => by
            rw [es]
            show f b = _
            rw [x3]
            refine hZ.2.2.2.2.1 b hb.1 (fun q2 => hne ?_)
            rw [swL_t hK, swF_len hw m2 hb, q2]
            rfl
          have hvl : (Md_values s).1 = 32768 := by rw [es]
          have hfl : (Md_firsts s).1 = 32768 := by rw [es]
          have hmnl : (Md_manies s).1 = 32768 := by rw [es]
          have hsdl : (Md_said s).1 = 32768 := by rw [es]
          have htl : (Md_trial s).1 = 32768 := by rw [es]; exact lt
          have hti : (Md_trial s).2 i = (Md_trial m).2 i := by rw [es]
          have hnn : Md_nodes s = nI (cnt (swK z mk) i) := by rw [es]
          refine xo_rd b rfl (by omega) (by omega) ?_
          refine xo_wr i rfl (by omega) (by omega) ?_
          refine xo_rd b rfl (by omega) (by omega) ?_
          refine xo_wr i rfl (by omega) (by omega) ?_
          refine xo_rd b rfl (by omega) (by omega) ?_
          refine xo_wr i rfl (by omega) (by omega) ?_
          refine xo_rd b rfl (by omega) (by omega) ?_
          refine xo_wr i rfl (by omega) (by omega) ?_
          refine xo_rd i rfl (by omega) (by omega) ?_
          rw [hti, hkb, hvb, hmb, hnn]
          refine xo_b (fun w c => c = 0 ∧ ((w = 1 ∧ a_nd z nd i) ∨ (w = 0 ∧ ¬ a_nd z nd i))) ?_ (fun w c gw => ?_)
          · rcases hs1 with ⟨e, g⟩ | ⟨e, g⟩
            · rw [e, if_pos rfl]; exact xo_p ⟨rfl, Or.inl ⟨rfl, g⟩⟩
            · rw [e, if_neg (by decide)]; exact xo_p ⟨rfl, Or.inr ⟨rfl, g⟩⟩
          · obtain ⟨rfl, gw⟩ := gw
            refine xo_wr i rfl (by omega) (by omega) ?_
            rw [if_neg (by decide), xm_b_p]
            refine xo_wr i rfl (by omega) (by omega) ?_
            rw [nI_1, nI_1]
            have hkn : vp_nar .byte (a_kd z b) = a_kd z b := by
              rcases hw.2.1 b hb.1 with e | e | e | e | e <;> rw [e] <;> decide +kernel
            have hwn : ((vp_nar .boolean w = 1 ∧ a_nd z nd i) ∨ (vp_nar .boolean w = 0 ∧ ¬ a_nd z nd i)) := by
              rcases gw with ⟨rfl, g⟩ | ⟨rfl, g⟩
              · exact Or.inl ⟨by decide +kernel, g⟩
              · exact Or.inr ⟨by decide +kernel, g⟩
            rw [hkn]
            subst es
            refine xo_m (ih (i + 1) _ (by omega) (by omega) ⟨upd k i (a_kd z b), upd v i (a_vl z b), upd f i (f b), upd mn i (nI (swL z mk i)), upd sd i (vp_nar .boolean w), upd nb i 1, ?_, fun j hj hKj => ?_, fun j hj => ?_, fun j hj => ?_⟩) (fun o c g => ⟨by have := g.1; omega, g.2⟩)
            · rw [cnt_s, hK]
              rfl
            · rw [upd_at, upd_at, upd_at, upd_at, upd_at]
              by_cases e4 : j = i
              · subst e4
                rw [if_pos rfl, if_pos rfl, if_pos rfl, if_pos rfl, if_pos rfl]
                refine ⟨?_, ?_, rfl, hwn, b, hb, hfb⟩
                · show _ = if swK z mk j = true then a_kd z (a_body z j) else -1
                  rw [if_pos hK, hbe.1]
                · show _ = if swK z mk j = true then a_vl z (a_body z j) else 0
                  rw [if_pos hK, hbe.2.1]
              · rw [if_neg e4, if_neg e4, if_neg e4, if_neg e4, if_neg e4]
                exact t1 j (by omega) hKj
            · have e4 : j ≠ i := fun w => hj ⟨by omega, by rw [w]; exact hK⟩
              rw [upd_at, upd_at, upd_at, upd_at, if_neg e4, if_neg e4, if_neg e4, if_neg e4]
              exact t2 j (fun w => hj ⟨by omega, w.2⟩)
            · rw [upd_at]
              by_cases e4 : j = i
              · subst e4
                rw [if_pos rfl, hK]
                rfl
              · rw [if_neg e4]
                exact t3 j (by omega)
        · rw [if_pos rfl, if_pos rfl, xm_b_p]
          refine xo_wr i rfl (by omega) (by omega) ?_
          rw [nI_1]
          subst es
          refine xo_m (ih (i + 1) _ (by omega) (by omega) ⟨k, v, f, mn, sd, upd nb i 0, ?_, fun j hj hKj => ?_, fun j hj => ?_, fun j hj => ?_⟩) (fun o c g => ⟨by have := g.1; omega, g.2⟩)
          · rw [cnt_s, show swK z mk i = false by simpa using hK]
            rfl
          · exact t1 j (by have : j ≠ i := fun w => hK (w ▸ hKj); omega) hKj
          · exact t2 j (fun w => hj ⟨by omega, w.2⟩)
          · rw [upd_at]
            by_cases e4 : j = i
            · subst e4
              rw [if_pos rfl, show swK z mk j = false by simpa using hK]
              rfl
            · rw [if_neg e4]
              exact t3 j (by omega)
theorem r_sw3L {n : Nat} {m : S_Md} {t : Nat} {K : Nat → Bool} (ht : t ≤ 512) (hE : Md_end m = nI t) (hl : (Md_newBlocks m).1 = 32768) (hb : ∀ j, j < t → (Md_newBlocks m).2 j = if K j then 1 else 0) {k0 : Nat → Int32} (y : Int32) : ∀ (fuel i : Nat) (s : S_Md) (k : Nat → Int32), t - i < fuel → i ≤ t → s = Md_set_kinds m (32768, k) → (∀ j, k j = if j < i ∧ K j = false then -1 else k0 j) → xo (L_Md_sweep_248 y n fuel (nI i) s) (fun o c => c = 0 ∧ ∃ k2, o.2 = Md_set_kinds m (32768, k2) ∧ ∀ j, k2 j = if j < t ∧ K j = false then -1 else k0 j) := by
  intro fuel
  induction fuel with
  | zero => intro i s k h; omega
  | succ fuel ih =>
    intro i s k h1 h2 h3 h4
    subst h3
    rw [L_Md_sweep_248_s, ny_m]
    refine xo_le t i hE rfl (by omega) (by omega) (fun q => ?_) (fun q => ?_)
    · have : i = t := by omega
      subst this
      exact xo_p ⟨rfl, k, rfl, h4⟩
    · refine xo_rd i rfl (by show i < (Md_newBlocks m).1; omega) (by omega) ?_
      show xo (if (Md_newBlocks m).2 i = 0 then _ else _) _
      rw [hb i q]
      by_cases e : K i = true
      · rw [if_pos e, if_neg (by decide), nI_1]
        refine ih (i + 1) _ k (by omega) (by omega) rfl (fun j => ?_)
        rw [h4 j]
        by_cases e2 : j < i ∧ K j = false
        · rw [if_pos e2, if_pos ⟨by omega, e2.2⟩]
        · rw [if_neg e2, if_neg (fun w => e2 ⟨by have : j ≠ i := fun u => (by rw [u, e] at w; exact absurd w.2 (by decide)); omega, w.2⟩)]
      · rw [if_neg e, if_pos rfl]
        refine xo_wr i rfl (by show i < 32768; omega) (by omega) ?_
        rw [nI_1]
        refine ih (i + 1) _ (upd k i (-1)) (by omega) (by omega) rfl (fun j => ?_)
        rw [upd_at, h4 j]
        by_cases e3 : j = i
        · rw [if_pos e3, if_pos ⟨by omega, by rw [e3]; simpa using e⟩]
        · rw [if_neg e3]
          by_cases e2 : j < i ∧ K j = false
          · rw [if_pos e2, if_pos ⟨by omega, e2.2⟩]
          · rw [if_neg e2, if_neg (fun w => e2 ⟨by omega, w.2⟩)]
