section REFS
variable {n : Nat} {m : S_Md} {z : AS} {st : Nat → Nat}
theorem r_lens (hL : RL m) : (Md_kinds m).1 = 32768 ∧ (Md_values m).1 = 32768 ∧ (Md_firsts m).1 = 32768 ∧ (Md_manies m).1 = 32768 ∧ (Md_said m).1 = 32768 ∧ (Md_leaders m).1 = 32768 ∧ (Md_features m).1 = 65536 ∧ (Md_parts m).1 = 65536 := ⟨hL.1.1, hL.1.2.1, hL.1.2.2.1, hL.1.2.2.2.1, hL.1.2.2.2.2.1, hL.1.2.2.2.2.2.2.1, hL.2.1.1, hL.2.1.2.1⟩
theorem a_kd_pos {z : AS} (hw : a_wf z) (i : Nat) : (a_kd z i ≤ 0 ↔ ¬ (al z i ∧ a_kd z i ≠ 0)) := by
  by_cases h : al z i
  · rcases hw.2.1 i h with e | e | e | e | e <;> rw [e] <;> simp [h] <;> decide
  · have e : a_kd z i = -1 := Decidable.byContradiction h
    rw [e]
    exact ⟨fun _ q => h q.1, fun _ => by decide⟩
theorem r_meantL (hL : RL m) (hZ : RZ m z st) (hw : a_wf z) (ht : a_t z ≤ 512) {x : Nat} (hx : al z x) : ∀ (fuel i : Nat), a_t z - i < fuel → i ≤ a_t z → (∀ j, j < i → al z j → a_ld z j = a_ld z x → a_kd z j = 0) → xo (L_Md_meant_2 (nI x) m n fuel (nI i)) (fun o c => c = 0 ∧ ((∃ e, o = .inl e ∧ a_var z (a_ld z x)) ∨ (∃ b, o = .inr (nI b) ∧ al z b ∧ a_ld z b = a_ld z x ∧ a_kd z b ≠ 0))) := by
  obtain ⟨l1, l2, l3, l4, l5, l6, l7, l8⟩ := r_lens hL
  have hxl := al_lt hw hx
  intro fuel
  induction fuel with
  | zero => intro i h; omega
  | succ fuel ih =>
    intro i g1 g2 g3
    rw [L_Md_meant_2_s]
    refine xo_le _ _ hZ.1.1 rfl (by omega) (by omega) (fun q => ?_) (fun q => ?_)
    · exact xo_p ⟨rfl, Or.inl ⟨_, rfl, fun j hj hjl => g3 j (Nat.lt_of_lt_of_le (al_lt hw hj) q) hj hjl⟩⟩
    · refine xo_rd i rfl (by omega) (by omega) ?_
      rw [hZ.2.1 i (by omega)]
      refine xo_if (fun e => ?_) (fun e => ?_)
      · rw [nI_1]
        refine ih (i + 1) (by omega) (by omega) (fun j hj ha hl => ?_)
        by_cases e2 : j = i
        · subst e2
          exact Decidable.byContradiction (fun w => (a_kd_pos hw j).mp e ⟨ha, w⟩)
        · exact g3 j (by omega) ha hl
      · have hai : al z i ∧ a_kd z i ≠ 0 := Classical.byContradiction (fun w => e ((a_kd_pos hw i).mpr w))
        refine xo_rd i rfl (by omega) (by omega) ?_
        refine xo_rd x rfl (by omega) (by omega) ?_
        rw [hZ.2.2.2.2.2.1 i hai.1, hZ.2.2.2.2.2.1 x hx]
        have b1 := al_lt hw (hw.2.2.1 i hai.1).2.1
        have b2 := al_lt hw (hw.2.2.1 x hx).2.1
        refine xo_eq _ _ rfl rfl (by omega) (by omega) (fun w => ?_) (fun w => ?_)
        · exact xo_p ⟨rfl, Or.inr ⟨i, rfl, hai.1, w, hai.2⟩⟩
        · rw [nI_1]
          refine ih (i + 1) (by omega) (by omega) (fun j hj ha hl => ?_)
          by_cases e2 : j = i
          · subst e2; exact absurd hl w
          · exact g3 j (by omega) ha hl
theorem r_meant (hn : 100000 ≤ n) (hL : RL m) (hZ : RZ m z st) (hw : a_wf z) (ht : a_t z ≤ 512) {x : Nat} (hx : al z x) : xo (m_Md_meant n m (nI x)) (fun o c => c = 0 ∧ ∃ b, a_bd z x b ∧ o = nI b) := by
  unfold m_Md_meant
  have hh := r_meantL (n := n) hL hZ hw ht hx n 0 (by omega) (Nat.zero_le _) (fun j hj => by omega)
  rw [← nI0] at hh
  refine xo_b _ hh (fun o c g => ?_)
  obtain ⟨rfl, g⟩ := g
  rcases g with ⟨e, rfl, g⟩ | ⟨b, rfl, g1, g2, g3⟩
  · exact xo_p ⟨rfl, x, ⟨hx, rfl, fun _ => g⟩, rfl⟩
  · exact xo_p ⟨rfl, b, ⟨g1, g2, fun q => absurd q g3⟩, rfl⟩
theorem r_isNeededL {nd : Nat → Prop} (hL : RL m) (hZ : RZ m z st) (hD : RD m z nd) (hw : a_wf z) (ht : a_t z ≤ 512) {x : Nat} (hx : al z x) : ∀ (fuel i : Nat) (v : Int32), a_t z - i < fuel → i ≤ a_t z → v = 0 ∨ v = 1 → xo (L_Md_isNeeded_21 (nI x) m n fuel v (nI i)) (fun o c => c = 0 ∧ ((o.1 = 1 ∧ (v = 1 ∨ ∃ j, i ≤ j ∧ al z j ∧ a_ld z j = a_ld z x ∧ (Md_said m).2 j = 1)) ∨ (o.1 = 0 ∧ ¬ (v = 1 ∨ ∃ j, i ≤ j ∧ al z j ∧ a_ld z j = a_ld z x ∧ (Md_said m).2 j = 1)))) := by
  obtain ⟨l1, l2, l3, l4, l5, l6, l7, l8⟩ := r_lens hL
  have hxl := al_lt hw hx
  intro fuel
  induction fuel with
  | zero => intro i v h; omega
  | succ fuel ih =>
    intro i v g1 g2 hv
    rw [L_Md_isNeeded_21_s]
    refine xo_le _ _ hZ.1.1 rfl (by omega) (by omega) (fun q => ?_) (fun q => ?_)
    · rcases hv with rfl | rfl
      · refine xo_p ⟨rfl, Or.inr ⟨rfl, fun w => ?_⟩⟩
        rcases w with w | ⟨j, w1, w2, -⟩
        · exact absurd w (by decide)
        · have := al_lt hw w2
          omega
      · exact xo_p ⟨rfl, Or.inl ⟨rfl, Or.inl rfl⟩⟩
    · rcases hv with rfl | rfl
      · rw [if_pos rfl]
        refine xo_rd i rfl (by omega) (by omega) ?_
        rw [hZ.2.1 i (by omega)]
        refine xo_b (fun v c => c = 0 ∧ ((v = 1 ∧ al z i ∧ a_ld z i = a_ld z x ∧ (Md_said m).2 i = 1) ∨ (v = 0 ∧ ¬ (al z i ∧ a_ld z i = a_ld z x ∧ (Md_said m).2 i = 1)))) ?_ (fun v c gv => ?_)
        · refine xo_if (fun e => ?_) (fun e => ?_)
          · exact xo_p ⟨rfl, Or.inr ⟨rfl, fun w => w.1 e⟩⟩
          · refine xo_rd i rfl (by omega) (by omega) ?_
            refine xo_if (fun e2 => ?_) (fun e2 => ?_)
            · exact xo_p ⟨rfl, Or.inr ⟨rfl, fun w => by rw [w.2.2] at e2; exact absurd e2 (by decide)⟩⟩
            · have hs : (Md_said m).2 i = 1 := (hD.1 i e).resolve_left e2
              refine xo_rd i rfl (by omega) (by omega) ?_
              refine xo_rd x rfl (by omega) (by omega) ?_
              rw [hZ.2.2.2.2.2.1 i e, hZ.2.2.2.2.2.1 x hx]
              have b1 := al_lt hw (hw.2.2.1 i e).2.1
              have b2 := al_lt hw (hw.2.2.1 x hx).2.1
              refine xo_eq _ _ rfl rfl (by omega) (by omega) (fun w => ?_) (fun w => ?_)
              · exact xo_p ⟨rfl, Or.inl ⟨rfl, e, w, hs⟩⟩
              · exact xo_p ⟨rfl, Or.inr ⟨rfl, fun w2 => w w2.2.1⟩⟩
        · obtain ⟨rfl, gv⟩ := gv
          rw [nI_1]
          rcases gv with ⟨rfl, gv⟩ | ⟨rfl, gv⟩
          · refine xo_m (ih (i + 1) 1 (by omega) (by omega) (Or.inr rfl)) (fun o c g => ⟨by omega, ?_⟩)
            rcases g.2 with ⟨w, -⟩ | ⟨-, w⟩
            · exact Or.inl ⟨w, Or.inr ⟨i, Nat.le_refl _, gv⟩⟩
            · exact absurd (Or.inl rfl) w
          · refine xo_m (ih (i + 1) 0 (by omega) (by omega) (Or.inl rfl)) (fun o c g => ⟨by omega, ?_⟩)
            rcases g.2 with ⟨w, h⟩ | ⟨w, h⟩
            · rcases h with h | ⟨j, h1, h2⟩
              · exact absurd h (by decide)
              · exact Or.inl ⟨w, Or.inr ⟨j, by omega, h2⟩⟩
            · refine Or.inr ⟨w, fun q2 => h (q2.elim (fun e => absurd e (by decide)) (fun ⟨j, h1, h2⟩ => Or.inr ⟨j, ?_, h2⟩))⟩
              by_cases e : j = i
              · subst e; exact absurd h2 gv
              · omega
      · rw [if_neg (by decide)]
        exact xo_p ⟨rfl, Or.inl ⟨rfl, Or.inl rfl⟩⟩
theorem r_isNeeded {nd : Nat → Prop} (hn : 100000 ≤ n) (hL : RL m) (hZ : RZ m z st) (hD : RD m z nd) (hw : a_wf z) (ht : a_t z ≤ 512) {x : Nat} (hx : al z x) : xo (m_Md_isNeeded n m (nI x)) (fun o c => c = 0 ∧ ((o = 1 ∧ a_nd z nd x) ∨ (o = 0 ∧ ¬ a_nd z nd x))) := by
  obtain ⟨l1, l2, l3, l4, l5, l6, l7, l8⟩ := r_lens hL
  unfold m_Md_isNeeded
  refine xo_b _ (r_meant hn hL hZ hw ht hx) (fun o c g => ?_)
  obtain ⟨rfl, b, hb, rfl⟩ := g
  have hbl := al_lt hw hb.1
  refine xo_rd b rfl (by omega) (by omega) ?_
  rw [hZ.2.1 b (by omega)]
  refine xo_b (fun v c => c = 0 ∧ ((v = 0 ∧ a_kd z b = 0) ∨ (v = 1 ∧ a_kd z b ≠ 0))) (xo_if (fun e => xo_p ⟨rfl, Or.inl ⟨rfl, e⟩⟩) (fun e => xo_p ⟨rfl, Or.inr ⟨rfl, e⟩⟩)) (fun v c gv => ?_)
  obtain ⟨rfl, gv⟩ := gv
  have hh := r_isNeededL (n := n) hL hZ hD hw ht hx n 0 v (by omega) (Nat.zero_le _) (by rcases gv with ⟨w, -⟩ | ⟨w, -⟩; exact Or.inl w; exact Or.inr w)
  rw [← nI0] at hh
  refine xo_b _ hh (fun o c g => ?_)
  obtain ⟨rfl, g⟩ := g
  have h1 := hw.2.2.1 x hx
  have key : (v = 1 ∨ ∃ j, 0 ≤ j ∧ al z j ∧ a_ld z j = a_ld z x ∧ (Md_said m).2 j = 1) ↔ a_nd z nd x := by
    unfold a_nd
    rcases gv with ⟨rfl, e⟩ | ⟨rfl, e⟩
    · have hv := (a_var_bd hb).mpr e
      have hd := hD.2 _ h1.2.1 h1.2.2 hv
      rw [← hd]
      exact ⟨fun w => w.elim (fun w => absurd w (by decide)) (fun ⟨j, _, w⟩ => Or.inr ⟨j, w⟩), fun w => w.elim (fun w => absurd hv w) (fun ⟨j, w⟩ => Or.inr ⟨j, Nat.zero_le _, w⟩)⟩
    · exact ⟨fun _ => Or.inl (fun q => e ((a_var_bd hb).mp q)), fun _ => Or.inl rfl⟩
  rcases g with ⟨e, g⟩ | ⟨e, g⟩
  · rw [e]
    exact xo_z (Or.inr rfl) (xo_p ⟨rfl, Or.inl ⟨rfl, key.mp g⟩⟩)
  · rw [e]
    exact xo_z (Or.inl rfl) (xo_p ⟨rfl, Or.inr ⟨rfl, fun q => g (key.mpr q)⟩⟩)
theorem a_kd_3 {z : AS} (hw : a_wf z) {b : Nat} (hb : al z b) : (a_kd z b < 3 → a_fl z b = []) := by
  intro h
  refine (hw.2.2.2.2.1 b hb).1 ?_
  rcases hw.2.1 b hb with e | e | e | e | e
  · exact Or.inl e
  · exact Or.inr (Or.inl e)
  · exact Or.inr (Or.inr e)
  · rw [e] at h; exact absurd h (by decide)
  · rw [e] at h; exact absurd h (by decide)
theorem r_fieldL (hL : RL m) (hZ : RZ m z st) (hw : a_wf z) (ht : a_t z ≤ 512) (hs : a_sum z ≤ 512) {b : Nat} (hb : al z b) {f y1 : Int32} : ∀ (fuel k : Nat) (v : Int32), (a_fl z b).length - k < fuel → k ≤ (a_fl z b).length → ((v = -1 ∧ ∀ j q, j < k → (a_fl z b)[j]? = some q → q.1 ≠ f) ∨ (∃ j q, j < k ∧ (a_fl z b)[j]? = some q ∧ q.1 = f ∧ v = nI (st b + j))) → xo (L_Md_field_24 y1 f (nI b) m n fuel v (nI k)) (fun o c => c = 0 ∧ ((o.1 = -1 ∧ f ∉ (a_fl z b).map Prod.fst) ∨ (∃ j q, (a_fl z b)[j]? = some q ∧ q.1 = f ∧ o.1 = nI (st b + j)))) := by
  obtain ⟨l1, l2, l3, l4, l5, l6, l7, l8⟩ := r_lens hL
  have hbl := al_lt hw hb
  have h6 := hZ.2.2.2.2.2.2.1 b hb
  have hnd := (hw.2.2.2.2.1 b hb).2.1
  intro fuel
  induction fuel with
  | zero => intro k v h; omega
  | succ fuel ih =>
    intro k v g1 g2 g3
    have done : (a_fl z b).length ≤ k → ((v = -1 ∧ f ∉ (a_fl z b).map Prod.fst) ∨ (∃ j q, (a_fl z b)[j]? = some q ∧ q.1 = f ∧ v = nI (st b + j))) := by
      intro hk
      rcases g3 with ⟨e, g3⟩ | ⟨j, q, a1, a2, a3, a4⟩
      · refine Or.inl ⟨e, fun hm => ?_⟩
        obtain ⟨a, ha, e⟩ := List.mem_map.mp hm
        obtain ⟨j, hj⟩ := List.getElem?_of_mem ha
        have := (List.getElem?_eq_some_iff.mp hj).1
        exact g3 j a (by omega) hj e
      · exact Or.inr ⟨j, q, a2, a3, a4⟩
    rw [L_Md_field_24_s]
    rw [if_neg (fun e => by
      have h0 := nI_pos' (n := b) (by omega)
      rw [e] at h0
      exact absurd h0 (by decide))]
    refine xo_rd b rfl (by omega) (by omega) ?_
    rw [hZ.2.1 b (by omega)]
    refine xo_if (fun e => ?_) (fun e => ?_)
    · have hf := a_kd_3 hw hb e
      exact xo_p ⟨rfl, done (by rw [hf]; exact Nat.zero_le _)⟩
    · refine xo_rd b rfl (by omega) (by omega) ?_
      rw [hZ.2.2.2.1 b hb]
      refine xo_le _ _ rfl rfl (by omega) (by omega) (fun q => ?_) (fun q => ?_)
      · exact xo_p ⟨rfl, done q⟩
      · have hg : (a_fl z b)[k]? = some (a_fl z b)[k] := List.getElem?_eq_getElem q
        refine xo_rd b rfl (by omega) (by omega) ?_
        rw [hZ.2.2.2.2.1 b hb (ne_of_lt q), nI_add]
        refine xo_rd _ rfl (by omega) (by omega) ?_
        rw [(hZ.2.2.2.2.2.2.2.1 b k hb _ hg).1]
        refine xo_b (fun w c => c = 0 ∧ ((w = nI (st b + k) ∧ (a_fl z b)[k].1 = f) ∨ (w = v ∧ (a_fl z b)[k].1 ≠ f))) ?_ (fun w c gw => ?_)
        · refine xo_if (fun e2 => ?_) (fun e2 => ?_)
          · refine xo_rd b rfl (by omega) (by omega) ?_
            rw [hZ.2.2.2.2.1 b hb (ne_of_lt q), nI_add]
            exact xo_p ⟨rfl, Or.inl ⟨rfl, e2⟩⟩
          · exact xo_p ⟨rfl, Or.inr ⟨rfl, e2⟩⟩
        · obtain ⟨rfl, gw⟩ := gw
          rw [nI_1]
          refine xo_m (ih (k + 1) w (by omega) (by omega) ?_) (fun o c g => ⟨by omega, g.2⟩)
          rcases gw with ⟨rfl, e2⟩ | ⟨rfl, e2⟩
          · exact Or.inr ⟨k, _, by omega, hg, e2, rfl⟩
          · rcases g3 with ⟨e3, g3⟩ | ⟨j, q2, a1, a2⟩
            · refine Or.inl ⟨e3, fun j q2 hj hq => ?_⟩
              by_cases e4 : j = k
              · subst e4; rw [hg] at hq; cases hq; exact e2
              · exact g3 j q2 (by omega) hq
            · exact Or.inr ⟨j, q2, by omega, a2⟩
theorem r_field (hn : 100000 ≤ n) (hL : RL m) (hZ : RZ m z st) (hw : a_wf z) (ht : a_t z ≤ 512) (hs : a_sum z ≤ 512) {p f : Int32} : xo (m_Md_field n m p f) (fun o c => c = 0 ∧ ((o = -1 ∧ ∀ x, ¬ a_is z p x) ∨ ∃ x b, a_is z p x ∧ a_bd z x b ∧ ((o = -1 ∧ f ∉ (a_fl z b).map Prod.fst) ∨ (∃ j q, (a_fl z b)[j]? = some q ∧ q.1 = f ∧ o = nI (st b + j))))) := by
  unfold m_Md_field
  rcases r_has (n := n) hL hZ hw ht p with ⟨x, hx, e⟩ | ⟨hx, e⟩
  · rw [e, xm_b_p, if_neg (by decide), hx.1]
    refine xo_b (fun o c => c = 0 ∧ ∃ b, a_bd z x b ∧ o = nI b) (xo_b _ (r_meant hn hL hZ hw ht hx.2) (fun o c g => xo_p ⟨by have := g.1; omega, g.2⟩)) (fun o c g => ?_)
    obtain ⟨rfl, b, hb, rfl⟩ := g
    have h6 := hZ.2.2.2.2.2.2.1 b hb.1
    have hh := r_fieldL (n := n) hL hZ hw ht hs hb.1 (f := f) (y1 := nI x) n 0 (-1) (by omega) (Nat.zero_le _) (Or.inl ⟨rfl, fun j q hj => by omega⟩)
    rw [← nI0] at hh
    refine xo_b _ hh (fun o c g => ?_)
    obtain ⟨rfl, g⟩ := g
    exact xo_p ⟨rfl, Or.inr ⟨x, b, ⟨rfl, hx.2⟩, hb, g⟩⟩
  · rw [e, xm_b_p, if_pos rfl]
    have hh : L_Md_field_24 p f (-1) m n n (-1) 0 = xm_p (-1, 0) := by
      obtain ⟨k, rfl⟩ : ∃ k, n = k + 1 := ⟨n - 1, by omega⟩
      rw [L_Md_field_24_s, if_pos rfl]
    rw [xm_b_p, hh, xm_b_p]
    exact xo_p ⟨rfl, Or.inl ⟨rfl, hx⟩⟩
end REFS
